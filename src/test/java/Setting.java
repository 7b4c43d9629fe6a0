/** A world in some state of play, made anew for every call that is tried in it. */
final class Setting {
    static final String DONE = "done";

    interface Use {
        void on(StoryStates s);
    }

    interface Question {
        Object to(StoryStates s);
    }

    private final String name;
    private final Use making;
    private final String[] views = new String[Look.VIEWS];

    Setting(String name, Use making) {
        this.name = name;
        this.making = making;
    }

    StoryStates make() {
        StoryStates s = new StoryStates();
        making.on(s);
        return s;
    }

    Setting then(String more, Use next) {
        return new Setting(name + ", " + more, s -> {
            making.on(s);
            next.on(s);
        });
    }

    /** The call answers what is due; one that throws also changes nothing that later calls show. */
    void meets(String due, String call, Question question) {
        String what = name + ": " + call;
        Check.count(what, due, Check.outcome(() -> question.to(make())));
        if (due.startsWith("throws.")) {
            then(call, s -> Check.outcome(() -> question.to(s))).looksLike(this);
        }
    }

    void meetsDeed(String due, String call, Use use) {
        meets(due, call, s -> {
            use.on(s);
            return DONE;
        });
    }

    /** No later calls tell this setting from the other. */
    void looksLike(Setting other) {
        for (int view = 0; view < Look.VIEWS; view++) {
            Check.count(name + " is like " + other.name, "", firstDifference(other.seen(view), seen(view)));
        }
    }

    private String seen(int view) {
        if (views[view] == null) {
            views[view] = Look.at(view, make());
        }
        return views[view];
    }

    private static String firstDifference(String want, String got) {
        String[] wanted = want.split("\n");
        String[] gotten = got.split("\n");
        for (int i = 0; i < Math.min(wanted.length, gotten.length); i++) {
            if (!wanted[i].equals(gotten[i])) {
                return "line " + i + ": " + gotten[i] + " (in place of: " + wanted[i] + ")";
            }
        }
        return wanted.length == gotten.length ? "" : "another number of lines";
    }

    void clear(String due) {
        meetsDeed(due, "clear()", s -> s.clear());
    }

    void room(String due) {
        meets(due, "room()", s -> s.room());
    }

    void exit(String due, int from, int direction, int to, int door) {
        meetsDeed(due, "exit(" + from + ", " + direction + ", " + to + ", " + door + ")",
                s -> s.exit(from, direction, to, door));
    }

    void thing(String due, int place, int kind) {
        meets(due, "thing(" + place + ", " + kind + ")", s -> s.thing(place, kind));
    }

    void number(String due, int first, int most) {
        meets(due, "number(" + first + ", " + most + ")", s -> s.number(first, most));
    }

    void ending(String due, boolean good) {
        meets(due, "ending(" + good + ")", s -> s.ending(good));
    }

    void rule(String due, int verb, int first, int second, int text) {
        meets(due, "rule(" + verb + ", " + first + ", " + second + ", " + text + ")",
                s -> s.rule(verb, first, second, text));
    }

    void condition(String due, int rule, int kind, int x, int y) {
        meetsDeed(due, "condition(" + rule + ", " + kind + ", " + x + ", " + y + ")",
                s -> s.condition(rule, kind, x, y));
    }

    void effect(String due, int rule, int kind, int x, int y) {
        meetsDeed(due, "effect(" + rule + ", " + kind + ", " + x + ", " + y + ")",
                s -> s.effect(rule, kind, x, y));
    }

    void walker(String due, int thing, int first, int second, int third) {
        meetsDeed(due, "walker(" + thing + ", " + first + ", " + second + ", " + third + ")",
                s -> s.walker(thing, first, second, third));
    }

    void timer(String due, int rule, int count) {
        meetsDeed(due, "timer(" + rule + ", " + count + ")", s -> s.timer(rule, count));
    }

    void begin(String due) {
        meetsDeed(due, "begin()", s -> s.begin());
    }

    void command(String due, int verb, int a, int b) {
        meets(due, "command(" + verb + ", " + a + ", " + b + ")", s -> s.command(verb, a, b));
    }

    void said(String due, int i) {
        meets(due, "said(" + i + ")", s -> s.said(i));
    }

    void undo(String due) {
        meets(due, "undo()", s -> s.undo());
    }

    void state(String due, int what, int x) {
        meets(due, "state(" + what + ", " + x + ")", s -> s.state(what, x));
    }

    void explore(String due, int fuel) {
        meets(due, "explore(" + fuel + ")", s -> s.explore(fuel));
    }

    void reach(String due, int ending, boolean length) {
        meets(due, "reach(" + ending + ", " + length + ")", s -> s.reach(ending, length));
    }

    void way(String due, int ending, int i, int what) {
        meets(due, "way(" + ending + ", " + i + ", " + what + ")", s -> s.way(ending, i, what));
    }

    void study(String due, int what, int i) {
        meets(due, "study(" + what + ", " + i + ")", s -> s.study(what, i));
    }
}
