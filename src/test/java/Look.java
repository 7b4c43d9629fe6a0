/** All that later calls show of an object, as texts, so that two objects can be compared. */
final class Look {
    static final int VIEWS = 6;

    /** The document frees what an object answers behind 512 calls; making a setting takes up to 160. */
    private static final int MOST_CALLS = 350;

    private static final int[][] COMMANDS = {
        {0, 0, -1}, {1, 0, -1}, {3, 1, -1}, {5, 0, 1}, {7, -1, -1}, {6, -1, -1}, {0, 1, -1}, {0, 2, -1}, {1, 1, -1},
        {2, 0, -1}, {3, 0, -1}, {7, 0, -1}, {4, 1, -1}, {0, 3, -1}, {8, 1, -1}, {1, 2, -1}, {5, 2, 0}, {7, -1, 0},
        {0, 0, -1}, {1, 5, -1}, {3, 5, -1}, {7, 5, 5}, {2, 2, -1}, {4, 0, -1}, {0, 2, -1}, {7, 1, 2}, {1, 3, -1},
        {1, 4, -1}, {5, 4, 3}, {8, 5, -1}, {6, -1, -1}, {8, -1, -1}, {8, 0, 0}, {8, 5, 5},
    };

    private final StoryStates s;
    private final StringBuilder text = new StringBuilder();
    private int calls = 0;

    private Look(StoryStates s) {
        this.s = s;
    }

    /** One of several views, each of which uses an object up. */
    static String at(int view, StoryStates s) {
        Look look = new Look(s);
        switch (view) {
            case 0: look.present(); break;
            case 1: look.back(); break;
            case 2: look.onward(); break;
            case 3: look.explored(); break;
            case 4: look.whatCanStillBeBuilt(); break;
            default: look.fromTheStart(); break;
        }
        return look.text.toString();
    }

    /** The parts of the state of the play, but for how many turns there were. */
    static String parts(StoryStates s) {
        Look look = new Look(s);
        look.state();
        return look.text.toString();
    }

    private void ask(String call, Check.Call answer) {
        calls++;
        if (calls > MOST_CALLS) {
            throw new AssertionError("a view makes too many calls");
        }
        text.append(call).append(" answers ").append(Check.outcome(answer)).append('\n');
    }

    private void askDeed(String call, Check.Deed deed) {
        ask(call, () -> {
            deed.run();
            return "done";
        });
    }

    private void askState(int what, int x) {
        ask("state(" + what + ", " + x + ")", () -> s.state(what, x));
    }

    private void askSaid(int i) {
        ask("said(" + i + ")", () -> s.said(i));
    }

    private void askStudy(int what, int i) {
        ask("study(" + what + ", " + i + ")", () -> s.study(what, i));
    }

    private void askCommand(int[] c) {
        ask("command(" + c[0] + ", " + c[1] + ", " + c[2] + ")", () -> s.command(c[0], c[1], c[2]));
    }

    private void askExplore(int fuel) {
        ask("explore(" + fuel + ")", () -> s.explore(fuel));
    }

    private void state() {
        askState(0, 0);
        askState(4, 0);
        for (int thing = 0; thing <= 6; thing++) {
            askState(1, thing);
            askState(2, thing);
            askState(6, thing);
        }
        for (int number = 0; number <= 3; number++) {
            askState(3, number);
        }
        for (int x = 0; x <= 2; x++) {
            askState(7, x);
            askState(8, x);
        }
    }

    private void present() {
        state();
        askState(5, 0);
        for (int i = 0; i <= 3; i++) {
            askSaid(i);
        }
        whatIsKnown();
        askExplore(0);
    }

    private void whatIsKnown() {
        for (int what = 0; what <= 3; what++) {
            askStudy(what, 0);
        }
        for (int i = 0; i <= 12; i++) {
            askStudy(4, i);
        }
        for (int ending = 0; ending <= 4; ending++) {
            int e = ending;
            ask("reach(" + e + ", false)", () -> s.reach(e, false));
            ask("reach(" + e + ", true)", () -> s.reach(e, true));
            for (int i = 0; i <= 6; i++) {
                for (int what = 0; what <= 2; what++) {
                    int at = i;
                    int part = what;
                    ask("way(" + e + ", " + at + ", " + part + ")", () -> s.way(e, at, part));
                }
            }
        }
    }

    private void back() {
        for (int turn = 0; turn <= 61; turn++) {
            ask("undo()", () -> s.undo());
            askState(5, 0);
            askState(0, 0);
            askState(1, 0);
            askSaid(0);
        }
    }

    private void onward() {
        for (int[] c : COMMANDS) {
            askCommand(c);
            for (int i = 0; i <= 2; i++) {
                askSaid(i);
            }
            askState(0, 0);
            askState(3, 0);
            askState(1, Math.max(c[1], 0));
            askState(2, Math.max(c[1], 0));
        }
        state();
    }

    private void explored() {
        askExplore(1);
        askStudy(0, 0);
        askExplore(2);
        askStudy(0, 0);
        askExplore(1000);
        whatIsKnown();
    }

    private void whatCanStillBeBuilt() {
        for (int i = 0; i <= 6; i++) {
            ask("room()", () -> s.room());
            ask("thing(6, 0)", () -> s.thing(6, 0));
        }
        for (int i = 0; i <= 4; i++) {
            ask("number(0, 1)", () -> s.number(0, 1));
            ask("ending(true)", () -> s.ending(true));
        }
        for (int i = 0; i <= 12; i++) {
            ask("rule(8, 5, 5, 1)", () -> s.rule(8, 5, 5, 1));
        }
        for (int i = 0; i <= 12; i++) {
            int rule = i;
            for (int more = 0; more <= 3; more++) {
                askDeed("condition of " + rule, () -> s.condition(rule, 0, 0, 0));
                askDeed("effect of " + rule, () -> s.effect(rule, 0, 0, 0));
            }
            askDeed("timer of " + rule, () -> s.timer(rule, 1));
        }
        for (int i = 0; i <= 6; i++) {
            int thing = i;
            askDeed("walker " + thing, () -> s.walker(thing, 0, 0, 0));
        }
        state();
    }

    private void fromTheStart() {
        askDeed("begin()", () -> s.begin());
        state();
        for (int[] c : COMMANDS) {
            askCommand(c);
            askSaid(0);
            askSaid(1);
            askState(0, 0);
            askState(1, Math.max(c[1], 0));
            askState(3, 0);
            askState(4, 0);
            ask("undo()", () -> s.undo());
        }
    }
}
