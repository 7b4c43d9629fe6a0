/** The edges of playing: each sentence of promises 13 to 17 at the last value allowed and the first beyond. */
public final class PlayBoundsTest {
    private static final String DONE = Setting.DONE;
    private static final String INDEX = Check.INDEX;
    private static final String ARGUMENT = Check.ARGUMENT;
    private static final String STATE = Check.STATE;
    private static final int FAR = Settings.FAR;
    private static final int LOW = Settings.LOW;
    private static final Setting EMPTY = Settings.EMPTY;
    private static final Setting ROOMLESS = Settings.ROOMLESS;
    private static final Setting SMALL = Settings.SMALL;
    private static final Setting PLAYED = Settings.PLAYED;
    private static final Setting FOUND = Settings.FOUND;
    private static final Setting OVER = Settings.OVER;
    private static final Setting SIXTY = Settings.SIXTY;
    private static final Setting FULL = Settings.FULL;
    private static final Setting FULL_PLAYED = Settings.FULL_PLAYED;

    public static void main(String[] args) {
        beginNeedsARoom();
        beginGoesToTheFirstState();
        beginKeepsWhatWasExplored();
        commandsThatThereAre();
        commandsOfNoVerb();
        commandsOfDirections();
        commandsOfOneThing();
        commandsOfTwoThings();
        commandsOfNothing();
        commandsOfTheWorldsOwn();
        commandsNeedARoom();
        commandsAreSixty();
        commandsWhenItIsOver();
        exceptionsComeBeforeOver();
        textsOfTheLastTurn();
        nothingIsSaidBehindBeginAndUndo();
        textsStayBehindWhatIsNoTurn();
        undoTakesBack();
        undoWithoutTurns();
        sixtyTurnsAreUndone();
        undoTakesTheEndBack();
        whatStatesThereAre();
        whatOfTheStateThereIs();
        whereXDoesNotMatter();
        theStateNeedsARoom();
        Check.end("PlayBoundsTest");
    }

    private static void beginNeedsARoom() {
        Check.sentence("begin: IllegalStateException when there is no room.");
        EMPTY.begin(STATE);
        ROOMLESS.begin(STATE);
        FULL.then("cleared", s -> s.clear()).begin(STATE);
        EMPTY.then("a room", s -> s.room()).begin(DONE);
        ROOMLESS.then("a room", s -> s.room()).begin(DONE);
    }

    private static void beginGoesToTheFirstState() {
        Check.sentence("The play is at its first state, without turns");
        SMALL.then("begun", s -> s.begin()).looksLike(SMALL);
        SMALL.then("played and begun", s -> {
            s.command(1, 0, -1);
            s.command(0, 0, -1);
            s.begin();
        }).looksLike(SMALL);
        FULL.then("played and begun", s -> {
            Settings.waitFor(s, 20);
            s.begin();
        }).looksLike(FULL);
    }

    private static void beginKeepsWhatWasExplored() {
        Check.sentence("(what was explored stays)");
        Setting[] found = {Settings.SPOILED, OVER, SIXTY};
        for (Setting play : found) {
            play.then("begun", s -> s.begin()).looksLike(FOUND);
        }
        PLAYED.then("begun", s -> s.begin()).looksLike(SMALL.then("explored in part", s -> s.explore(2)));
        Settings.LIMIT.then("played and begun", s -> {
            Settings.waitFor(s, 3);
            s.begin();
        }).looksLike(Settings.LIMIT);
    }

    private static void commandsThatThereAre() {
        Check.sentence("COMMANDS are verb, a, b: 0 GO a (a direction), 1 TAKE a, 2 DROP a, 3 OPEN a, 4 CLOSE a, 5 PUT a b, "
                + "6 WAIT, 7 and 8 of the world's own, with a and b things or NONE.");
        int tried = 0;
        for (int verb = -1; verb <= 9; verb++) {
            for (int a = -2; a <= 6; a++) {
                for (int b = -2; b <= 6; b++) {
                    FULL.command(isCommand(verb, a, b) ? texts(verb, a) : ARGUMENT, verb, a, b);
                    tried += isCommand(verb, a, b) ? 1 : 0;
                }
            }
        }
        Check.count("commands of a full world", "163", String.valueOf(tried));
    }

    /** In the full world GO 3 leads to room 5, where the second timer says something at the end of turn 0. */
    private static String texts(int verb, int a) {
        return verb == 0 && a == 3 ? "2" : "1";
    }

    private static boolean isCommand(int verb, int a, int b) {
        boolean thingA = a >= 0 && a < 6;
        boolean thingB = b >= 0 && b < 6;
        if (verb == 0) {
            return a >= 0 && a < 4 && b == -1;
        }
        if (verb >= 1 && verb <= 4) {
            return thingA && b == -1;
        }
        if (verb == 5) {
            return thingA && thingB;
        }
        if (verb == 6) {
            return a == -1 && b == -1;
        }
        return verb >= 7 && verb <= 8 && (thingA || a == -1) && (thingB || b == -1);
    }

    private static void commandsOfNoVerb() {
        Check.sentence("IllegalArgumentException when there is no such command (no such verb)");
        for (int bad : new int[] {-1, -2, 9, 64, FAR, LOW}) {
            PLAYED.command(ARGUMENT, bad, -1, -1);
            PLAYED.command(ARGUMENT, bad, 0, -1);
            PLAYED.command(ARGUMENT, bad, 0, 0);
        }
    }

    private static void commandsOfDirections() {
        Check.sentence("a direction is 0 .. 3 .. What a command does not have is NONE. (GO)");
        for (int direction = 0; direction <= 3; direction++) {
            PLAYED.command("1", 0, direction, -1);
        }
        for (int bad : new int[] {-1, -2, 4, FAR, LOW}) {
            PLAYED.command(ARGUMENT, 0, bad, -1);
        }
        for (int bad : new int[] {-2, 0, 1, FAR, LOW}) {
            PLAYED.command(ARGUMENT, 0, 0, bad);
        }
    }

    private static void commandsOfOneThing() {
        Check.sentence("a thing any that there is .. What a command does not have is NONE. (TAKE, DROP, OPEN, CLOSE)");
        for (int verb = 1; verb <= 4; verb++) {
            PLAYED.command("1", verb, 0, -1);
            PLAYED.command("1", verb, 2, -1);
            for (int bad : new int[] {-1, -2, 3, 6, FAR, LOW}) {
                PLAYED.command(ARGUMENT, verb, bad, -1);
            }
            for (int bad : new int[] {-2, 0, 2, FAR, LOW}) {
                PLAYED.command(ARGUMENT, verb, 0, bad);
            }
        }
        EMPTY.then("a room", s -> s.room()).command(ARGUMENT, 1, 0, -1);
    }

    private static void commandsOfTwoThings() {
        Check.sentence("a thing any that there is (PUT)");
        for (int b = 0; b <= 2; b++) {
            PLAYED.command("1", 5, 0, b);
            PLAYED.command("1", 5, 2, b);
        }
        for (int bad : new int[] {-1, -2, 3, 6, FAR, LOW}) {
            PLAYED.command(ARGUMENT, 5, bad, 0);
            PLAYED.command(ARGUMENT, 5, 0, bad);
        }
    }

    private static void commandsOfNothing() {
        Check.sentence("What a command does not have is NONE. (WAIT)");
        PLAYED.command("1", 6, -1, -1);
        for (int bad : new int[] {-2, 0, 2, FAR, LOW}) {
            PLAYED.command(ARGUMENT, 6, bad, -1);
            PLAYED.command(ARGUMENT, 6, -1, bad);
        }
    }

    private static void commandsOfTheWorldsOwn() {
        Check.sentence("7 and 8 of the world's own, with a and b things or NONE");
        for (int verb = 7; verb <= 8; verb++) {
            for (int a = -1; a <= 2; a++) {
                for (int b = -1; b <= 2; b++) {
                    PLAYED.command("1", verb, a, b);
                }
            }
            for (int bad : new int[] {-2, 3, 6, FAR, LOW}) {
                PLAYED.command(ARGUMENT, verb, bad, -1);
                PLAYED.command(ARGUMENT, verb, -1, bad);
                PLAYED.command(ARGUMENT, verb, 0, bad);
            }
        }
    }

    private static void commandsNeedARoom() {
        Check.sentence("command: IllegalStateException when there is no room");
        EMPTY.command(STATE, 6, -1, -1);
        EMPTY.command(STATE, 0, 0, -1);
        EMPTY.command(STATE, 7, -1, -1);
        EMPTY.command(ARGUMENT, 1, 0, -1);
        ROOMLESS.command(STATE, 2, 0, -1);
        ROOMLESS.command(STATE, 8, 0, 1);
        ROOMLESS.command(ARGUMENT, 2, 2, -1);
        ROOMLESS.then("a room", s -> s.room()).command("1", 2, 0, -1);
    }

    private static void commandsAreSixty() {
        Check.sentence("or there were 60 turns");
        Setting fiftyNine = FOUND.then("59 turns", s -> Settings.waitFor(s, 59));
        fiftyNine.command("1", 6, -1, -1);
        fiftyNine.state("59", 5, 0);
        SIXTY.state("60", 5, 0);
        SIXTY.said("101", 0);
        SIXTY.command(STATE, 6, -1, -1);
        SIXTY.command(STATE, 0, 0, -1);
        SIXTY.command(STATE, 8, 0, 0);
        SIXTY.command(ARGUMENT, 6, 0, -1);
        SIXTY.command(ARGUMENT, 9, -1, -1);
        SIXTY.then("an undo", s -> s.undo()).command("1", 6, -1, -1);
        SIXTY.then("an undo and a turn", s -> {
            s.undo();
            s.command(6, -1, -1);
        }).command(STATE, 6, -1, -1);
        SIXTY.then("begun", s -> s.begin()).command("1", 6, -1, -1);
        SIXTY.then("explored", s -> s.explore(1000)).command(STATE, 6, -1, -1);
    }

    private static void commandsWhenItIsOver() {
        Check.sentence("NONE when the play is over (it is no turn then)");
        int[][] commands = {{0, 0, -1}, {1, 0, -1}, {2, 0, -1}, {5, 0, 1}, {6, -1, -1}, {8, -1, -1}, {8, 0, 0}};
        for (int[] c : commands) {
            OVER.command("-1", c[0], c[1], c[2]);
            OVER.then("a command more", s -> s.command(c[0], c[1], c[2])).looksLike(OVER);
        }
        OVER.state("0", 4, 0);
        OVER.state("2", 5, 0);
        for (int ending = 0; ending < 4; ending++) {
            StoryStates s = EMPTY.make();
            s.room();
            for (int i = 0; i < 4; i++) {
                s.ending(i > 1);
            }
            int with = ending;
            s.effect(s.rule(7, -1, -1, 0), 4, with, 0);
            Check.due("before", -1, () -> s.state(4, 0));
            Check.due("the turn", 1, () -> s.command(7, -1, -1));
            Check.due("over with " + with, with, () -> s.state(4, 0));
            Check.due("no turn", -1, () -> s.command(6, -1, -1));
        }
    }

    private static void exceptionsComeBeforeOver() {
        Check.sentence("(.. the exceptions come before)");
        OVER.command(ARGUMENT, 6, 0, -1);
        OVER.command(ARGUMENT, 1, 3, -1);
        OVER.command(ARGUMENT, 9, -1, -1);
        Setting late = FOUND.then("over in turn 59", s -> {
            Settings.waitFor(s, 58);
            s.command(8, 0, 0);
        });
        late.command("-1", 6, -1, -1);
        Setting last = FOUND.then("over in turn 60", s -> {
            Settings.waitFor(s, 59);
            s.command(8, 0, 0);
        });
        last.state("1", 4, 0);
        last.state("60", 5, 0);
        last.command(STATE, 6, -1, -1);
        last.command(ARGUMENT, 6, 0, -1);
    }

    /** A world where WAIT says a text, and as many timers say one more in the same turn. */
    private static Setting talking(int timers) {
        return EMPTY.then(timers + " timers that talk", s -> {
            s.room();
            s.rule(6, -1, -1, 98);
            s.rule(7, -1, -1, 0);
            s.rule(7, -1, -1, 42);
            for (int i = 0; i < timers; i++) {
                s.timer(1 + i, 1);
            }
        });
    }

    private static void textsOfTheLastTurn() {
        Check.sentence("Text i (from 0) that was said in the last turn; NONE when there is none such");
        int[] texts = {98, 0, 42};
        for (int timers = 0; timers <= 2; timers++) {
            talking(timers).command(String.valueOf(1 + timers), 6, -1, -1);
            Setting spoken = talking(timers).then("a turn", s -> s.command(6, -1, -1));
            for (int i = 0; i <= timers; i++) {
                spoken.said(String.valueOf(texts[i]), i);
            }
            for (int none : new int[] {-1, -2, timers + 1, 3, FAR, LOW}) {
                spoken.said("-1", none);
            }
            Setting again = spoken.then("another", s -> s.command(8, -1, -1));
            again.said("99", 0);
            again.said("-1", 1);
            again.said("-1", 2);
        }
        for (int none : new int[] {-1, 0, 1, FAR, LOW}) {
            EMPTY.said("-1", none);
            SMALL.said("-1", none);
        }
    }

    private static void nothingIsSaidBehindBeginAndUndo() {
        Check.sentence("(and behind a begin or an undo)");
        Setting spoken = talking(2).then("two turns", s -> Settings.waitFor(s, 2));
        Setting[] silent = {
            spoken.then("begun", s -> s.begin()), spoken.then("undone", s -> s.undo()),
            spoken.then("undone twice", s -> {
                s.undo();
                s.undo();
            }),
            spoken.then("undone three times", s -> {
                s.undo();
                s.undo();
                s.undo();
            }),
        };
        for (Setting one : silent) {
            for (int i = -1; i <= 3; i++) {
                one.said("-1", i);
            }
            one.then("a turn", s -> s.command(8, -1, -1)).said("99", 0);
        }
    }

    private static void textsStayBehindWhatIsNoTurn() {
        Check.sentence("said in the last turn (what is no turn says nothing)");
        OVER.said("11", 0);
        OVER.then("a command more", s -> s.command(6, -1, -1)).said("11", 0);
        Setting spoken = talking(2).then("a turn", s -> s.command(6, -1, -1));
        Setting explored = spoken.then("explored", s -> s.explore(1000));
        Setting asked = spoken.then("asked", s -> {
            s.state(0, 0);
            s.study(0, 0);
        });
        int[] texts = {98, 0, 42, -1};
        for (int i = 0; i < texts.length; i++) {
            explored.said(String.valueOf(texts[i]), i);
            asked.said(String.valueOf(texts[i]), i);
        }
    }

    private static void undoTakesBack() {
        Check.sentence("Takes the last turn back");
        int[][] turns = {{1, 0, -1}, {0, 0, -1}, {7, 0, -1}, {3, 1, -1}, {8, -1, -1}, {8, 0, 0}, {6, -1, -1}, {0, 3, -1}};
        for (int[] c : turns) {
            SMALL.then("one turn", s -> s.command(c[0], c[1], c[2])).undo("1");
            SMALL.then("one turn undone", s -> {
                s.command(c[0], c[1], c[2]);
                s.undo();
            }).looksLike(SMALL);
            FULL.then("a turn undone, and another", s -> {
                s.command(0, 3, -1);
                s.command(c[0], c[1], c[2]);
                s.undo();
                s.command(6, -1, -1);
            }).looksLike(FULL.then("two turns", s -> {
                s.command(0, 3, -1);
                s.command(6, -1, -1);
            }));
        }
        FOUND.then("a turn undone", s -> {
            s.command(7, -1, -1);
            s.undo();
        }).looksLike(FOUND);
    }

    private static void undoWithoutTurns() {
        Check.sentence("false when there is none");
        Setting[] without = {EMPTY, ROOMLESS, SMALL, FOUND, FULL, OVER.then("begun", s -> s.begin()),
            PLAYED.then("built", s -> s.exit(0, 0, 1, -1)), PLAYED.then("cleared", s -> s.clear()),
            PLAYED.then("undone twice", s -> {
                s.undo();
                s.undo();
            })};
        for (Setting one : without) {
            one.undo("0");
            one.then("an undo", s -> s.undo()).looksLike(one);
        }
        PLAYED.undo("1");
        PLAYED.then("undone once", s -> s.undo()).undo("1");
    }

    private static void sixtyTurnsAreUndone() {
        Check.sentence("Takes the last turn back (all 60 of them)");
        StoryStates s = SIXTY.make();
        for (int left = 59; left >= 0; left--) {
            int turns = left;
            Check.due("undo", 1, () -> s.undo());
            Check.due("turns", turns, () -> s.state(5, 0));
            Check.due("the coin lies there", 0, () -> s.state(1, 0));
        }
        Check.due("undo without turns", 0, () -> s.undo());
        Check.due("no turns", 0, () -> s.state(5, 0));
    }

    private static void undoTakesTheEndBack() {
        Check.sentence("Takes the last turn back (one that made the play over)");
        OVER.undo("1");
        Setting back = OVER.then("undone", s -> s.undo());
        back.state("-1", 4, 0);
        back.state("1", 5, 0);
        back.command("1", 6, -1, -1);
        back.then("over again", s -> s.command(8, -1, -1)).looksLike(OVER);
    }

    private static void whatStatesThereAre() {
        Check.sentence("state: IllegalArgumentException when what is none of these");
        for (int what = 0; what <= 8; what++) {
            int asked = what;
            FULL_PLAYED.meets(DONE, "state(" + what + ", 0)", s -> {
                s.state(asked, 0);
                return DONE;
            });
        }
        for (int bad : new int[] {-1, 9, FAR, LOW}) {
            for (int x : new int[] {0, -1, 6, FAR, LOW}) {
                FULL_PLAYED.state(ARGUMENT, bad, x);
            }
        }
    }

    private static void whatOfTheStateThereIs() {
        Check.sentence("state: IndexOutOfBoundsException when there is no such thing, number, timer or walker");
        int[][] small = {{1, 3}, {2, 3}, {3, 1}, {6, 3}, {7, 0}, {8, 0}};
        int[][] full = {{1, 6}, {2, 6}, {3, 3}, {6, 6}, {7, 2}, {8, 2}};
        for (int[] row : small) {
            stateEdges(PLAYED, row[0], row[1]);
        }
        for (int[] row : full) {
            stateEdges(FULL_PLAYED, row[0], row[1]);
        }
        Setting one = PLAYED.then("a walker and a timer", s -> {
            s.walker(0, 1, 0, 0);
            s.timer(0, 15);
            s.command(6, -1, -1);
        });
        stateEdges(one, 7, 1);
        stateEdges(one, 8, 1);
        one.state("14", 7, 0);
        one.state("1", 8, 0);
    }

    private static void stateEdges(Setting in, int what, int count) {
        if (count > 0) {
            in.meets(DONE, "state(" + what + ", " + (count - 1) + ")", s -> {
                s.state(what, count - 1);
                return DONE;
            });
        }
        for (int bad : new int[] {-1, count, FAR, LOW}) {
            in.state(INDEX, what, bad);
        }
    }

    private static void whereXDoesNotMatter() {
        Check.sentence("(NONE if it is not; x does not matter for 0, 4, 5)");
        for (int x : new int[] {0, -1, 6, FAR, LOW}) {
            PLAYED.state("1", 0, x);
            PLAYED.state("-1", 4, x);
            PLAYED.state("2", 5, x);
            OVER.state("0", 4, x);
            EMPTY.state(STATE, 0, x);
            EMPTY.state(STATE, 4, x);
            EMPTY.state(STATE, 5, x);
        }
    }

    private static void theStateNeedsARoom() {
        Check.sentence("state: IllegalStateException when there is no room");
        int[][] there = {{1, 1}, {2, 0}, {3, 0}, {6, 1}, {7, 0}};
        for (int[] row : there) {
            ROOMLESS.state(STATE, row[0], row[1]);
        }
        int[][] notThere = {{1, 2}, {2, -1}, {3, 1}, {6, 2}, {7, 1}, {8, 0}};
        for (int[] row : notThere) {
            ROOMLESS.state(INDEX, row[0], row[1]);
        }
        ROOMLESS.state(ARGUMENT, 9, 0);
        ROOMLESS.state(ARGUMENT, -1, 0);
        EMPTY.state(ARGUMENT, 9, 0);
        EMPTY.state(INDEX, 1, 0);
        ROOMLESS.then("a room", s -> s.room()).state("6", 1, 0);
    }
}
