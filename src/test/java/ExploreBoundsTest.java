/** The edges of exploring: each sentence of promises 18 to 21 at the last value allowed and the first beyond. */
public final class ExploreBoundsTest {
    private static final String INDEX = Check.INDEX;
    private static final String ARGUMENT = Check.ARGUMENT;
    private static final String STATE = Check.STATE;
    private static final int FAR = Settings.FAR;
    private static final int LOW = Settings.LOW;
    private static final Setting EMPTY = Settings.EMPTY;
    private static final Setting ROOMLESS = Settings.ROOMLESS;
    private static final Setting SMALL = Settings.SMALL;
    private static final Setting PLAYED = Settings.PLAYED;
    private static final Setting FOUND = Settings.FOUND;
    private static final Setting OVER = Settings.OVER;
    private static final Setting LIMIT = Settings.LIMIT;
    private static final Setting[] ALL = {SMALL, PLAYED, FOUND, Settings.SPOILED, OVER, Settings.SIXTY, LIMIT};

    public static void main(String[] args) {
        exploringNeedsARoom();
        fuelFromZeroToThousand();
        noFuelGoesThroughNothing();
        fuelGoesThroughSoManyStates();
        fuelComesTogether();
        exploringLeavesThePlay();
        exploringStartsAtTheFirstState();
        statesThatAreOver();
        allCommandsAreTried();
        commandsInOrder();
        roomForStates();
        theLimitIsMet();
        behindTheLimitNone();
        reachNeedsARoomAndAnEnding();
        whetherAnEndingIsFound();
        howLongTheWayIs();
        wayNeedsARoomAndAnEnding();
        commandsOfTheWay();
        partsOfTheWay();
        theWayLeadsThere();
        studyNeedsARoom();
        whatCanBeStudied();
        howManyWereFound();
        theOthersNeedThatItIsFinished();
        hopelessOrNot();
        hopelessAmongAllStates();
        theLastTurnBeforeWhichItWasNot();
        noTurnSpoiledIt();
        statesThatLeadToThemselves();
        rulesThatWereNotDone();
        Check.end("ExploreBoundsTest");
    }

    /** A chain of states by WAIT alone, the last of them over: so many states in all. */
    private static Setting chain(int states) {
        int last = states - 2;
        return EMPTY.then("a chain of " + states + " states", s -> {
            s.room();
            s.ending(true);
            s.ending(false);
            s.number(0, 7);
            s.number(0, 7);
            s.number(0, 7);
            s.rule(6, -1, -1, 0);
            s.condition(0, 3, 0, last % 8);
            s.condition(0, 3, 1, last / 8 % 8);
            s.condition(0, 3, 2, last / 64);
            s.effect(0, 4, 0, 0);
            s.rule(6, -1, -1, 1);
            s.condition(1, 4, 0, 6);
            s.effect(1, 3, 0, 1);
            s.rule(6, -1, -1, 2);
            s.condition(2, 4, 1, 6);
            s.effect(2, 3, 0, -7);
            s.effect(2, 3, 1, 1);
            s.rule(6, -1, -1, 3);
            s.effect(3, 3, 0, -7);
            s.effect(3, 3, 1, -7);
            s.effect(3, 3, 2, 1);
        });
    }

    private static Setting explored(Setting in, int... fuels) {
        return in.then("explored", s -> {
            for (int fuel : fuels) {
                s.explore(fuel);
            }
        });
    }

    private static void exploringNeedsARoom() {
        Check.sentence("explore: IllegalStateException when there is no room");
        for (int fuel : new int[] {0, 1, 1000, -1, 1001}) {
            EMPTY.explore(STATE, fuel);
            ROOMLESS.explore(STATE, fuel);
        }
        ROOMLESS.then("a room", s -> s.room()).explore("0", 0);
    }

    private static void fuelFromZeroToThousand() {
        Check.sentence("IllegalArgumentException when fuel is not 0 .. 1000");
        SMALL.explore("0", 0);
        SMALL.explore("0", 1);
        SMALL.explore("1", 999);
        SMALL.explore("1", 1000);
        for (Setting one : ALL) {
            for (int bad : new int[] {-1, 1001, FAR, LOW}) {
                one.explore(ARGUMENT, bad);
            }
        }
    }

    private static void noFuelGoesThroughNothing() {
        Check.sentence("goes through fuel states more (fuel 0)");
        Setting[] unfinished = {SMALL, PLAYED};
        for (Setting one : unfinished) {
            one.explore("0", 0);
        }
        FOUND.explore("1", 0);
        LIMIT.explore("2", 0);
        for (Setting one : ALL) {
            explored(one, 0).looksLike(one);
            explored(one, 0, 0).looksLike(one);
        }
    }

    /** A line of four rooms: each state but the last leads to one more. */
    private static Setting line() {
        return EMPTY.then("a line", s -> {
            for (int i = 0; i < 4; i++) {
                s.room();
            }
            for (int i = 0; i < 3; i++) {
                s.exit(i, 0, i + 1, -1);
            }
            s.ending(true);
        });
    }

    private static void fuelGoesThroughSoManyStates() {
        Check.sentence("goes through fuel states more, or as many as there are .. answers 1 when it is finished, 0 when it is "
                + "not");
        for (int fuel = 0; fuel <= 5; fuel++) {
            line().explore(fuel < 4 ? "0" : "1", fuel);
            explored(line(), fuel).study(String.valueOf(Math.min(4, fuel + 1)), 0, 0);
            explored(line(), fuel).reach(fuel < 4 ? "2" : "0", 0, false);
        }
        line().explore("1", 1000);
        chain(160).explore("0", 159);
        chain(160).explore("1", 160);
        chain(160).explore("1", 161);
        Setting alone = EMPTY.then("a room", s -> s.room());
        alone.explore("0", 0);
        alone.explore("1", 1);
    }

    private static void fuelComesTogether() {
        Check.sentence("goes through fuel states more (call by call)");
        for (int first = 0; first <= 4; first++) {
            explored(line(), first, 4 - first).looksLike(explored(line(), 4));
            explored(SMALL, first, 7).looksLike(explored(SMALL, first + 7));
        }
        explored(chain(160), 100, 59).looksLike(explored(chain(160), 159));
        explored(chain(160), 100, 60).looksLike(explored(chain(160), 1000));
        explored(FOUND, 1000, 1).looksLike(FOUND);
    }

    private static void exploringLeavesThePlay() {
        Check.sentence("EXPLORING finds states (and the play stays as it is)");
        for (Setting one : ALL) {
            StoryStates before = one.make();
            StoryStates after = explored(one, 1000).make();
            Check.count("the state", Look.parts(before), Look.parts(after));
            Check.due("the turns", before.state(5, 0), () -> after.state(5, 0));
            Check.due("the text", before.said(0), () -> after.said(0));
            Check.due("undo", before.undo() ? 1 : 0, () -> after.undo());
        }
    }

    private static void exploringStartsAtTheFirstState() {
        Check.sentence("from the first one (number 0) on");
        explored(PLAYED, 1000).then("begun", s -> s.begin()).looksLike(FOUND);
        Setting gone = line().then("played to its end", s -> {
            for (int i = 0; i < 3; i++) {
                s.command(0, 0, -1);
            }
        });
        explored(gone, 1000).study("4", 0, 0);
        explored(gone, 1000).then("begun", s -> s.begin()).looksLike(explored(line(), 4));
    }

    private static void statesThatAreOver() {
        Check.sentence("one that is not over: all commands in order are tried (one that is over: none)");
        Setting ends = EMPTY.then("a room that ends", s -> {
            s.room();
            s.room();
            s.exit(0, 0, 1, -1);
            s.ending(true);
            s.effect(s.rule(0, -2, -2, 0), 4, 0, 0);
        });
        explored(ends, 1).study("2", 0, 0);
        ends.explore("0", 1);
        ends.explore("1", 2);
        explored(ends, 1000).study("2", 0, 0);
    }

    private static void allCommandsAreTried() {
        Check.sentence("all commands in order are tried (the first and the last of 163)");
        int[][] edges = {{0, 0, -1}, {0, 3, -1}, {1, 0, -1}, {1, 5, -1}, {4, 5, -1}, {5, 0, 0}, {5, 5, 5}, {6, -1, -1},
            {7, -1, -1}, {7, 5, 5}, {8, -1, -1}, {8, -1, 5}, {8, 5, -1}, {8, 5, 5}};
        for (int[] c : edges) {
            Setting one = explored(sixThings().then("a rule", s -> s.effect(s.rule(c[0], c[1], c[2], 0), 4, 3, 0)), 1);
            one.reach("1", 3, true);
            for (int what = 0; what <= 2; what++) {
                one.way(String.valueOf(c[what]), 3, 0, what);
            }
        }
    }

    private static Setting sixThings() {
        return EMPTY.then("six things and four endings", s -> {
            s.room();
            for (int i = 0; i < 6; i++) {
                s.thing(0, 0);
            }
            for (int i = 0; i < 4; i++) {
                s.ending(true);
            }
        });
    }

    private static void commandsInOrder() {
        Check.sentence("All commands of a world, in order: by verbs, then a, then b, NONE first");
        int[] before = null;
        for (int verb = 0; verb <= 8; verb++) {
            for (int a = -1; a <= 5; a++) {
                for (int b = -1; b <= 5; b++) {
                    int[] now = {verb, a, b};
                    if (isCommand(verb, a, b)) {
                        isFirst(before, now);
                        before = now;
                    }
                }
            }
        }
    }

    private static boolean isCommand(int verb, int a, int b) {
        switch (verb) {
            case 0: return a >= 0 && a <= 3 && b == -1;
            case 5: return a >= 0 && b >= 0;
            case 6: return a == -1 && b == -1;
            case 7:
            case 8: return true;
            default: return a >= 0 && b == -1;
        }
    }

    /** Both lead to the same state, which comes from the first; the later one's rule has the smaller number. */
    private static void isFirst(int[] first, int[] later) {
        if (first == null) {
            return;
        }
        StoryStates s = sixThings().make();
        s.effect(s.rule(later[0], later[1], later[2], 0), 4, 0, 0);
        s.effect(s.rule(first[0], first[1], first[2], 0), 4, 0, 0);
        s.explore(1);
        String got = s.way(0, 0, 0) + " " + s.way(0, 0, 1) + " " + s.way(0, 0, 2);
        Check.count("the first of two", first[0] + " " + first[1] + " " + first[2], got);
    }

    private static void roomForStates() {
        Check.sentence("There is room for 160 states");
        for (int states = 158; states <= 160; states++) {
            chain(states).explore("1", 1000);
            explored(chain(states), 1000).study(String.valueOf(states), 0, 0);
            explored(chain(states), 1000).reach("1", 0, false);
            explored(chain(states), 1000).reach("0", 1, false);
            explored(chain(states), 1000).study("0", 1, 0);
        }
        for (int states : new int[] {161, 162, 193}) {
            chain(states).explore("2", 1000);
            explored(chain(states), 1000).study("160", 0, 0);
        }
    }

    private static void theLimitIsMet() {
        Check.sentence("when there would be one more, the LIMIT is met, and exploring ends there .. 2 when the limit is met");
        chain(161).explore("0", 159);
        explored(chain(161), 159).study("160", 0, 0);
        chain(161).explore("2", 160);
        explored(chain(161), 159).explore("0", 0);
        explored(chain(161), 159).explore("2", 1);
        Setting met = explored(chain(161), 160);
        met.study("160", 0, 0);
        met.reach("2", 0, false);
        met.reach("-1", 0, true);
        met.reach("2", 1, false);
        met.way("-1", 0, 0, 0);
        Setting found = chain(162).then("an ending before", s -> {
            s.effect(s.rule(8, -1, -1, 0), 4, 1, 0);
            s.explore(1000);
        });
        found.explore("2", 0);
        found.reach("1", 1, false);
        found.reach("1", 1, true);
        found.reach("2", 0, false);
    }

    private static void behindTheLimitNone() {
        Check.sentence("(behind the LIMIT none)");
        Setting met = explored(chain(161), 1000);
        for (int fuel : new int[] {0, 1, 160, 1000}) {
            met.explore("2", fuel);
            explored(met, fuel).looksLike(met);
            LIMIT.explore("2", fuel);
            explored(LIMIT, fuel).looksLike(LIMIT);
        }
        explored(chain(161), 159, 1).looksLike(met);
        met.then("built", s -> s.exit(0, 0, 0, -1)).explore("0", 0);
        met.then("built", s -> s.exit(0, 0, 0, -1)).study("1", 0, 0);
        met.then("begun", s -> s.begin()).explore("2", 1);
    }

    private static void reachNeedsARoomAndAnEnding() {
        Check.sentence("reach: IllegalStateException when there is no room; IndexOutOfBoundsException when there is no such "
                + "ending.");
        for (boolean length : new boolean[] {false, true}) {
            EMPTY.reach(STATE, 0, length);
            ROOMLESS.reach(STATE, 0, length);
            ROOMLESS.reach(STATE, 1, length);
            ROOMLESS.reach(STATE, -1, length);
            for (Setting one : ALL) {
                for (int bad : new int[] {-1, one == LIMIT ? 4 : 2, FAR, LOW}) {
                    one.reach(INDEX, bad, length);
                }
            }
            EMPTY.then("a room", s -> s.room()).reach(INDEX, 0, length);
        }
        FOUND.reach("1", 1, false);
        FOUND.reach("1", 1, true);
        SMALL.reach("2", 1, false);
        SMALL.reach("-1", 1, true);
        explored(sixThings(), 1000).reach("0", 3, false);
    }

    private static void whetherAnEndingIsFound() {
        Check.sentence("whether a state that was found is over with it (1; otherwise 0 when exploring is finished, else 2)");
        for (int fuel = 0; fuel <= 4; fuel++) {
            Setting one = explored(line().then("an end in room 2", s -> {
                s.ending(false);
                s.effect(s.rule(7, -1, -1, 0), 4, 0, 0);
                s.condition(0, 0, 2, 0);
            }), fuel);
            one.reach(fuel < 3 ? "2" : "1", 0, false);
            one.reach(fuel < 3 ? "-1" : "3", 0, true);
            one.reach("2", 1, false);
            one.reach("-1", 1, true);
            explored(one, 1000).reach("1", 0, false);
            explored(one, 1000).reach("0", 1, false);
            explored(one, 1000).reach("-1", 1, true);
        }
        OVER.then("built", s -> s.exit(0, 0, 1, -1)).reach("2", 0, false);
    }

    private static void howLongTheWayIs() {
        Check.sentence("when length, how many commands lead to the first state found (by number) that is over with it, by "
                + "where states come from; NONE when there is none.");
        explored(chain(160), 1000).reach("159", 0, true);
        explored(chain(160), 1000).reach("-1", 1, true);
        explored(chain(140), 1000).reach("139", 0, true);
        Setting two = EMPTY.then("two ends", s -> {
            s.room();
            s.room();
            s.exit(0, 0, 1, -1);
            s.ending(true);
            s.effect(s.rule(8, -1, -1, 0), 4, 0, 0);
        });
        explored(two, 1000).study("4", 0, 0);
        explored(two, 1000).reach("1", 0, true);
        explored(two, 1000).way("8", 0, 0, 0);
        FOUND.reach("2", 0, true);
        FOUND.reach("1", 1, true);
    }

    private static void wayNeedsARoomAndAnEnding() {
        Check.sentence("way: IllegalStateException when there is no room; IndexOutOfBoundsException when there is no such "
                + "ending.");
        EMPTY.way(STATE, 0, 0, 0);
        ROOMLESS.way(STATE, 0, 0, 0);
        ROOMLESS.way(STATE, 1, 0, 0);
        ROOMLESS.way(STATE, -1, -1, 3);
        for (Setting one : ALL) {
            for (int bad : new int[] {-1, one == LIMIT ? 4 : 2, FAR, LOW}) {
                one.way(INDEX, bad, 0, 0);
                one.way(INDEX, bad, -1, 3);
            }
        }
        EMPTY.then("a room", s -> s.room()).way(INDEX, 0, 0, 0);
        SMALL.way("-1", 1, 0, 0);
        FOUND.way("8", 1, 0, 0);
    }

    private static void commandsOfTheWay() {
        Check.sentence("Of command i (from 0) of that way .. NONE when there is no such command");
        FOUND.way("0", 0, 0, 0);
        FOUND.way("8", 0, 1, 0);
        for (int none : new int[] {-1, 2, 3, FAR, LOW}) {
            FOUND.way("-1", 0, none, 0);
        }
        Setting longest = explored(chain(160), 1000);
        for (int i : new int[] {0, 1, 157, 158}) {
            longest.way("6", 0, i, 0);
        }
        for (int none : new int[] {-1, 159, 160, FAR, LOW}) {
            longest.way("-1", 0, none, 0);
        }
        for (int i : new int[] {-1, 0, 1}) {
            longest.way("-1", 1, i, 0);
            SMALL.way("-1", 0, i, 0);
            LIMIT.way("-1", 3, i, 0);
        }
    }

    private static void partsOfTheWay() {
        Check.sentence("what = 0 its verb, 1 its a, 2 its b; NONE when there is no such .. what");
        String[] parts = {"0", "0", "-1"};
        for (int what = 0; what <= 2; what++) {
            FOUND.way(parts[what], 0, 0, what);
            FOUND.way(what == 0 ? "8" : "0", 1, 0, what);
        }
        for (int none : new int[] {-1, 3, FAR, LOW}) {
            FOUND.way("-1", 0, 0, none);
            FOUND.way("-1", 1, 0, none);
            FOUND.way("-1", 1, 9, none);
        }
    }

    private static void theWayLeadsThere() {
        Check.sentence("how many commands lead to the first state found (the way, played)");
        for (int ending = 0; ending <= 1; ending++) {
            int end = ending;
            StoryStates s = FOUND.make();
            int length = s.reach(end, true);
            for (int i = 0; i < length; i++) {
                Check.due("not over before", -1, () -> s.state(4, 0));
                s.command(s.way(end, i, 0), s.way(end, i, 1), s.way(end, i, 2));
            }
            Check.due("over", end, () -> s.state(4, 0));
        }
    }

    private static void studyNeedsARoom() {
        Check.sentence("study: IllegalStateException when there is no room");
        for (int what = -1; what <= 5; what++) {
            EMPTY.study(STATE, what, 0);
            ROOMLESS.study(STATE, what, 0);
        }
        ROOMLESS.then("a room", s -> s.room()).study("1", 0, 0);
    }

    private static void whatCanBeStudied() {
        Check.sentence("study: IllegalArgumentException when what is none of these");
        String[] wants = {"58", "1", "1", "2", "-1"};
        for (int what = 0; what <= 4; what++) {
            Settings.SPOILED.study(wants[what], what, 0);
        }
        for (Setting one : ALL) {
            for (int bad : new int[] {-1, 5, FAR, LOW}) {
                one.study(ARGUMENT, bad, 0);
            }
        }
    }

    private static void howManyWereFound() {
        Check.sentence("what = 0: how many were found (1 when nothing was explored yet)");
        for (int i : new int[] {0, -1, 12, FAR, LOW}) {
            SMALL.study("1", 0, i);
            LIMIT.study("160", 0, i);
        }
        explored(SMALL, 0).study("1", 0, 0);
        EMPTY.then("a room", s -> s.room()).study("1", 0, 0);
        explored(EMPTY.then("a room", s -> s.room()), 1).study("1", 0, 0);
        explored(chain(160), 158).study("159", 0, 0);
        explored(chain(160), 159).study("160", 0, 0);
        explored(chain(160), 160).study("160", 0, 0);
    }

    private static void theOthersNeedThatItIsFinished() {
        Check.sentence("The others need that exploring is finished, and are 2 (1) or NONE if it is not.");
        Setting[] unfinished = {SMALL, PLAYED, LIMIT, explored(SMALL, 0), explored(SMALL, 57), explored(chain(160), 159),
            explored(chain(161), 159), explored(chain(161), 160), FOUND.then("built", s -> s.exit(0, 0, 1, -1))};
        for (Setting one : unfinished) {
            one.study("2", 1, 0);
            for (int what = 2; what <= 4; what++) {
                for (int i : new int[] {0, 1, -1}) {
                    one.study("-1", what, i);
                }
            }
        }
        explored(SMALL, 58).study("0", 1, 0);
        explored(SMALL, 58).study("2", 3, 0);
        explored(chain(160), 160).study("0", 1, 0);
    }

    private static void hopelessOrNot() {
        Check.sentence("no commands lead from it to a state that is over with a good ending (itself, too): 1 or 0");
        FOUND.study("0", 1, 0);
        OVER.state("0", 4, 0);
        OVER.study("0", 1, 0);
        Settings.SPOILED.study("1", 1, 0);
        Settings.SIXTY.study("0", 1, 0);
        Setting bad = FOUND.then("over with the bad one", s -> s.command(8, 0, 0));
        bad.state("1", 4, 0);
        bad.study("1", 1, 0);
        explored(chain(160), 1000).study("0", 1, 0);
        explored(line(), 1000).study("1", 1, 0);
        for (int i : new int[] {-1, 1, FAR, LOW}) {
            Settings.SPOILED.study("1", 1, i);
        }
    }

    /**
     * Three numbers that only grow, by verb 7, verb 8 and GO 0: 8 * 8 * 2 states. WAIT ends it well while the first
     * is at most a and the second at most b, which are (a + 1) * (b + 1) * 2 states more, 32 of them at most.
     */
    private static Setting growing(int a, int b) {
        return explored(EMPTY.then("growing, to " + a + " and " + b, s -> {
            s.room();
            s.ending(true);
            s.number(0, 7);
            s.number(0, 7);
            s.number(0, 1);
            s.effect(s.rule(7, -1, -1, 0), 3, 0, 1);
            s.effect(s.rule(8, -1, -1, 1), 3, 1, 1);
            s.effect(s.rule(0, 0, -1, 2), 3, 2, 1);
            s.rule(6, -1, -1, 3);
            s.condition(3, 4, 0, a);
            s.condition(3, 4, 1, b);
            s.effect(3, 4, 0, 0);
        }), 1000);
    }

    private static void hopelessAmongAllStates() {
        Check.sentence("whether the present state is HOPELESS (each of up to 160 states)");
        for (int a = 0; a <= 7; a++) {
            for (int b = 0; b <= 7 && (a + 1) * (b + 1) <= 16; b++) {
                Setting world = growing(a, b);
                world.explore("1", 0);
                world.study(String.valueOf(128 + (a + 1) * (b + 1) * 2), 0, 0);
                world.study("1", 3, 0);
                for (int state = 0; state < 128; state++) {
                    hopelessAt(world, a, b, state);
                }
            }
        }
    }

    private static void hopelessAt(Setting world, int a, int b, int state) {
        int first = state % 8;
        int second = state / 8 % 8;
        StoryStates s = world.make();
        repeat(s, first, 7, -1);
        repeat(s, second, 8, -1);
        repeat(s, state / 64, 0, 0);
        int spoiled = first > a ? a : second > b ? first + b : -1;
        String name = first + " of " + a + ", " + second + " of " + b;
        Check.due(name + ": hopeless", spoiled == -1 ? 0 : 1, () -> s.study(1, 0));
        Check.due(name + ": by which turn", spoiled, () -> s.study(2, 0));
    }

    private static void repeat(StoryStates s, int times, int verb, int a) {
        for (int i = 0; i < times; i++) {
            s.command(verb, a, -1);
        }
    }

    private static void theLastTurnBeforeWhichItWasNot() {
        Check.sentence("2: when it is, the number of the last turn (from 0) of this play before which the state was not");
        for (int turn : new int[] {0, 1, 57, 58}) {
            Setting before = FOUND.then("in turn " + turn, s -> {
                Settings.waitFor(s, turn);
                s.command(1, 0, -1);
            });
            before.study("-1", 2, 0);
            Setting spoiled = before.then("spoiled", s -> s.command(7, 0, -1));
            spoiled.study(String.valueOf(turn + 1), 2, 0);
            spoiled.then("undone", s -> s.undo()).study("-1", 2, 0);
        }
        Setting first = FOUND.then("spoiled in turn 0", s -> s.command(8, 0, 0));
        first.study("0", 2, 0);
        Setting last = FOUND.then("spoiled in turn 59", s -> {
            Settings.waitFor(s, 59);
            s.command(8, 0, 0);
        });
        last.study("59", 2, 0);
        Setting early = FOUND.then("spoiled in turn 1, and 58 more", s -> {
            s.command(1, 0, -1);
            s.command(7, 0, -1);
            Settings.waitFor(s, 58);
        });
        early.study("1", 2, 0);
        early.state("60", 5, 0);
    }

    private static void noTurnSpoiledIt() {
        Check.sentence("NONE when it is not, or the first state is hopeless, too");
        FOUND.study("-1", 2, 0);
        OVER.study("-1", 2, 0);
        Settings.SIXTY.study("-1", 2, 0);
        Setting hopeless = explored(line(), 1000);
        hopeless.study("1", 1, 0);
        hopeless.study("-1", 2, 0);
        hopeless.then("a turn", s -> s.command(0, 0, -1)).study("-1", 2, 0);
        hopeless.then("60 turns", s -> Settings.waitFor(s, 60)).study("-1", 2, 0);
        Settings.SPOILED.then("begun", s -> s.begin()).study("-1", 2, 0);
    }

    private static void statesThatLeadToThemselves() {
        Check.sentence("3: how many states are not over, and all commands lead from them to themselves");
        explored(EMPTY.then("a room", s -> s.room()), 1).study("1", 3, 0);
        explored(line(), 1000).study("1", 3, 0);
        explored(chain(160), 1000).study("0", 3, 0);
        Setting corners = EMPTY.then("a room with four corners", s -> {
            for (int i = 0; i < 5; i++) {
                s.room();
            }
            for (int i = 0; i < 4; i++) {
                s.exit(0, i, i + 1, -1);
                s.exit(i + 1, i, i + 1, -1);
            }
        });
        explored(corners, 1000).study("4", 3, 0);
        explored(corners.then("a way back", s -> s.exit(4, 0, 0, -1)), 1000).study("3", 3, 0);
        explored(corners.then("an end", s -> {
            s.ending(false);
            s.effect(s.rule(6, -1, -1, 0), 4, 0, 0);
        }), 1000).study("0", 3, 0);
        explored(corners.then("a clock", s -> s.timer(s.rule(7, -1, -1, 0), 1)), 1000).study("4", 3, 0);
        explored(corners.then("a walker", s -> {
            s.thing(6, 0);
            s.walker(0, 0, 0, 0);
        }), 1000).study("0", 3, 0);
        for (int i : new int[] {-1, 1, FAR, LOW}) {
            explored(corners, 1000).study("4", 3, i);
        }
    }

    private static void rulesThatWereNotDone() {
        Check.sentence("4: the i-th rule (from 0, by number) that no turn from any state has done; NONE when there is none "
                + "such");
        Setting twelve = EMPTY.then("12 rules", s -> {
            s.room();
            for (int i = 0; i < 12; i++) {
                s.rule(6, 5, -1, i);
            }
        });
        for (int i = 0; i < 12; i++) {
            explored(twelve, 1000).study(String.valueOf(i), 4, i);
        }
        for (int none : new int[] {-1, 12, FAR, LOW}) {
            explored(twelve, 1000).study("-1", 4, none);
            FOUND.study("-1", 4, none);
        }
        FOUND.study("-1", 4, 0);
        for (int done = 0; done < 12; done++) {
            int only = done;
            Setting one = explored(EMPTY.then("rule " + only + " is done", s -> {
                s.room();
                for (int i = 0; i < 12; i++) {
                    s.rule(6, i == only ? -1 : 5, -1, i);
                }
            }), 1000);
            for (int i = 0; i < 11; i++) {
                one.study(String.valueOf(i < only ? i : i + 1), 4, i);
            }
            one.study("-1", 4, 11);
        }
        Setting timed = EMPTY.then("rules of timers", s -> {
            s.room();
            s.room();
            s.rule(6, -1, -1, 0);
            s.rule(6, -1, -1, 1);
            s.condition(1, 0, 1, 0);
            s.timer(0, 15);
            s.timer(1, 15);
        });
        explored(timed, 1000).study("1", 4, 0);
        explored(timed, 1000).study("-1", 4, 1);
    }
}
