/** Refused calls: that they change nothing, in whatever state the object is, and which exception comes first. */
public final class RefusalTest {
    private static final String INDEX = Check.INDEX;
    private static final String ARGUMENT = Check.ARGUMENT;
    private static final String STATE = Check.STATE;
    private static final Setting EMPTY = Settings.EMPTY;
    private static final Setting ROOMLESS = Settings.ROOMLESS;
    private static final Setting SMALL = Settings.SMALL;
    private static final Setting FULL = Settings.FULL;
    private static final Setting FULL_PLAYED = Settings.FULL_PLAYED;
    private static final Setting LIMIT = Settings.LIMIT;
    private static final Setting SIXTY = Settings.SIXTY;
    private static final Setting OVER = Settings.OVER;

    public static void main(String[] args) {
        refusedInEveryState();
        refusedWithoutRooms();
        refusedWhenFull();
        refusedOneAfterAnother();
        exitNamesIndexFirst();
        thingNamesIndexThenArgument();
        numberAndRuleNameArgumentFirst();
        walkerNamesIndexFirst();
        timerNamesIndexThenArgument();
        commandNamesArgumentFirst();
        stateNamesIndexThenArgument();
        exploreAndStudyNameStateFirst();
        reachAndWayNameStateFirst();
        Check.end("RefusalTest");
    }

    private static void refusedInEveryState() {
        Check.sentence("A call that throws changes nothing");
        Setting[] all = {SMALL, Settings.PLAYED, Settings.FOUND, Settings.SPOILED, OVER, SIXTY, FULL, FULL_PLAYED, LIMIT,
            LIMIT.then("played", s -> Settings.waitFor(s, 20))};
        for (Setting one : all) {
            refusedBuilding(one);
            refusedUse(one);
        }
    }

    private static void refusedBuilding(Setting in) {
        in.exit(INDEX, 6, 0, 0, -1);
        in.exit(INDEX, 0, 0, 6, -1);
        in.exit(INDEX, 0, 0, 0, 6);
        in.exit(ARGUMENT, 0, 4, 0, -1);
        in.thing(INDEX, 13, 1);
        in.thing(ARGUMENT, 0, 5);
        in.number(ARGUMENT, 2, 1);
        in.rule(ARGUMENT, 6, -1, -1, 99);
        in.condition(INDEX, 12, 0, 0, 0);
        in.condition(INDEX, 0, 0, 6, 0);
        in.condition(ARGUMENT, 0, 5, 0, 0);
        in.condition(ARGUMENT, 0, 3, 0, 8);
        in.effect(INDEX, 12, 0, 0, 0);
        in.effect(INDEX, 0, 4, 4, 0);
        in.effect(ARGUMENT, 0, 5, 0, 0);
        in.effect(ARGUMENT, 0, 3, 0, 8);
        in.walker(INDEX, 6, 0, 0, 0);
        in.walker(INDEX, 0, 1, 1, 6);
        in.timer(INDEX, 12, 1);
        in.timer(ARGUMENT, 0, 16);
    }

    private static void refusedUse(Setting in) {
        in.command(ARGUMENT, 9, -1, -1);
        in.command(ARGUMENT, 1, 6, -1);
        in.state(INDEX, 1, 6);
        in.state(ARGUMENT, 9, 0);
        in.explore(ARGUMENT, -1);
        in.explore(ARGUMENT, 1001);
        in.reach(INDEX, 4, true);
        in.way(INDEX, 4, 0, 0);
        in.study(ARGUMENT, 5, 0);
    }

    private static void refusedWithoutRooms() {
        Check.sentence("A call that throws changes nothing (without a room)");
        for (Setting one : new Setting[] {EMPTY, ROOMLESS}) {
            one.exit(INDEX, 0, 0, 0, -1);
            one.thing(INDEX, 0, 1);
            one.walker(INDEX, 0, 0, 0, 0);
            one.begin(STATE);
            one.command(STATE, 6, -1, -1);
            one.state(STATE, 0, 0);
            one.explore(STATE, 1000);
            one.reach(STATE, 0, false);
            one.way(STATE, 0, 0, 0);
            one.study(STATE, 0, 0);
        }
    }

    private static void refusedWhenFull() {
        Check.sentence("A call that throws changes nothing (when there are as many as there may be)");
        for (Setting one : new Setting[] {FULL, FULL_PLAYED, LIMIT}) {
            one.room(STATE);
            one.thing(STATE, 0, 7);
            one.number(STATE, 1, 7);
            one.ending(STATE, true);
            one.rule(STATE, 6, -1, -1, 98);
            one.condition(STATE, 0, 0, 5, 0);
            one.effect(STATE, 0, 0, 5, 0);
            one.walker(STATE, 0, 5, 5, 5);
            one.walker(STATE, 5, 5, 5, 5);
            one.timer(STATE, 0, 1);
            one.timer(STATE, 11, 15);
        }
    }

    /** Refused calls in a row, then one that is not: its number is the next one still. */
    private static void refusedOneAfterAnother() {
        Check.sentence("A call that throws changes nothing (many of them)");
        Setting tried = SMALL.then("many refused calls", s -> {
            for (int i = 0; i < 20; i++) {
                Check.outcomeOfDeed(() -> s.thing(13, 0));
                Check.outcomeOfDeed(() -> s.number(0, 8));
                Check.outcomeOfDeed(() -> s.rule(0, 0, 0, 99));
                Check.outcomeOfDeed(() -> s.timer(0, 0));
                Check.outcomeOfDeed(() -> s.command(0, 4, -1));
            }
        });
        tried.looksLike(SMALL);
        tried.thing("3", 0, 0);
        tried.number("1", 0, 1);
        tried.rule("3", 0, 0, 0, 0);
        tried.room("2");
        tried.ending("2", true);
    }

    private static void exitNamesIndexFirst() {
        Check.sentence("where several exceptions fit, the one named first is thrown (exit)");
        SMALL.exit(INDEX, 2, 4, 0, -1);
        SMALL.exit(INDEX, 0, 4, 2, -1);
        SMALL.exit(INDEX, 0, 4, 0, 3);
        SMALL.exit(INDEX, -1, -1, -1, -2);
        EMPTY.exit(INDEX, 0, 4, 0, -1);
    }

    private static void thingNamesIndexThenArgument() {
        Check.sentence("where several exceptions fit, the one named first is thrown (thing)");
        SMALL.thing(INDEX, 2, 4);
        SMALL.thing(INDEX, -1, -1);
        FULL.thing(INDEX, 13, 4);
        FULL.thing(INDEX, 13, 1);
        FULL.thing(ARGUMENT, 0, 4);
        FULL.thing(ARGUMENT, 0, 8);
        FULL.thing(STATE, 0, 6);
    }

    private static void numberAndRuleNameArgumentFirst() {
        Check.sentence("where several exceptions fit, the one named first is thrown (number, rule)");
        FULL.number(ARGUMENT, 0, 8);
        FULL.number(ARGUMENT, 2, 1);
        FULL.number(STATE, 1, 1);
        FULL.rule(ARGUMENT, 9, 0, 0, 0);
        FULL.rule(ARGUMENT, 0, 6, 0, 0);
        FULL.rule(ARGUMENT, 0, 0, 6, 0);
        FULL.rule(ARGUMENT, 0, 0, 0, 99);
        FULL.rule(STATE, 0, 0, 0, 0);
    }

    private static void walkerNamesIndexFirst() {
        Check.sentence("where several exceptions fit, the one named first is thrown (walker)");
        FULL.walker(INDEX, 6, 0, 0, 0);
        FULL.walker(INDEX, 5, 6, 0, 0);
        FULL.walker(INDEX, 5, 0, 6, 0);
        FULL.walker(INDEX, 0, 0, 0, 6);
        FULL.walker(STATE, 0, 0, 0, 0);
    }

    private static void timerNamesIndexThenArgument() {
        Check.sentence("where several exceptions fit, the one named first is thrown (timer)");
        SMALL.timer(INDEX, 3, 0);
        FULL.timer(INDEX, 12, 16);
        FULL.timer(INDEX, -1, 1);
        FULL.timer(ARGUMENT, 11, 16);
        FULL.timer(ARGUMENT, 0, 0);
        FULL.timer(STATE, 11, 1);
    }

    private static void commandNamesArgumentFirst() {
        Check.sentence("where several exceptions fit, the one named first is thrown (command)");
        EMPTY.command(ARGUMENT, 9, -1, -1);
        EMPTY.command(ARGUMENT, 7, 0, -1);
        SIXTY.command(ARGUMENT, 9, -1, -1);
        SIXTY.command(STATE, 6, -1, -1);
        OVER.command(ARGUMENT, 9, -1, -1);
        OVER.command("-1", 6, -1, -1);
    }

    private static void stateNamesIndexThenArgument() {
        Check.sentence("where several exceptions fit, the one named first is thrown (state)");
        EMPTY.state(INDEX, 1, 0);
        EMPTY.state(INDEX, 6, -1);
        EMPTY.state(ARGUMENT, 9, 0);
        EMPTY.state(ARGUMENT, -1, -1);
        EMPTY.state(STATE, 5, -1);
        SMALL.state(ARGUMENT, 9, 6);
    }

    private static void exploreAndStudyNameStateFirst() {
        Check.sentence("where several exceptions fit, the one named first is thrown (explore, study)");
        EMPTY.explore(STATE, 1001);
        EMPTY.explore(STATE, -1);
        EMPTY.study(STATE, 5, 0);
        EMPTY.study(STATE, -1, 0);
        SMALL.explore(ARGUMENT, 1001);
        SMALL.study(ARGUMENT, 5, 0);
    }

    private static void reachAndWayNameStateFirst() {
        Check.sentence("where several exceptions fit, the one named first is thrown (reach, way)");
        EMPTY.reach(STATE, 0, true);
        ROOMLESS.reach(STATE, 1, false);
        EMPTY.way(STATE, 0, 0, 0);
        ROOMLESS.way(STATE, 1, 0, 3);
        SMALL.reach(INDEX, 2, false);
        SMALL.way(INDEX, 2, 0, 3);
    }
}
