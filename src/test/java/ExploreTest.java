/** Promises 18 to 20: exploring, which endings can come, and by which commands. */
public final class ExploreTest {
    public static void main(String[] args) {
        exploreIsLookedAt();
        aWorldOfOneState();
        fuelIsCountedInStates();
        statesThatAreOverTakeFuel();
        nothingComesBehindTheEnd();
        exploringAgainFindsOnlyWhatIsThere();
        exploringStartsAtTheFirstState();
        theLimitIsMetAtOneMore();
        theLimitStays();
        allPartsOfAStateCount();
        reachIsLookedAt();
        reachKnowsWhatItDoesNotKnow();
        theFirstStateFoundDecides();
        theShortestWayIsTold();
        commandsAreTriedInOrder();
        wayAnswersNone();
        theWayCanBePlayed();
        Check.end("ExploreTest");
    }

    private static void exploreIsLookedAt() {
        StoryStates s = new StoryStates();
        Check.refused("no room", Check.STATE, () -> s.explore(0));
        Check.refused("no room and no fuel", Check.STATE, () -> s.explore(-1));
        s.room();
        for (int bad : new int[] {-1, 1001, Integer.MAX_VALUE, Integer.MIN_VALUE}) {
            Check.refused("fuel " + bad, Check.ARGUMENT, () -> s.explore(bad));
        }
        Check.due("fuel 1000", 1, () -> s.explore(1000));
    }

    private static void aWorldOfOneState() {
        StoryStates s = new StoryStates();
        s.room();
        Check.due("found before", 1, () -> s.study(0, 0));
        Check.due("fuel 0", 0, () -> s.explore(0));
        Check.due("found still", 1, () -> s.study(0, 0));
        Check.due("fuel 1", 1, () -> s.explore(1));
        Check.due("found", 1, () -> s.study(0, 0));
        Check.due("fuel 0, finished", 1, () -> s.explore(0));
        Check.due("fuel 5, finished", 1, () -> s.explore(5));
    }

    /** A line of four rooms, which finds one state more with each. */
    private static StoryStates line() {
        StoryStates s = new StoryStates();
        for (int i = 0; i < 4; i++) {
            s.room();
        }
        for (int i = 0; i < 3; i++) {
            s.exit(i, 3, i + 1, -1);
        }
        return s;
    }

    private static void fuelIsCountedInStates() {
        StoryStates s = line();
        Check.due("0", 0, () -> s.explore(0));
        for (int i = 1; i <= 3; i++) {
            int found = i + 1;
            Check.due("fuel 1, time " + i, 0, () -> s.explore(1));
            Check.due("found", found, () -> s.study(0, 0));
        }
        Check.due("all were gone through", 1, () -> s.explore(1));
        Check.due("found", 4, () -> s.study(0, 0));
        StoryStates t = line();
        Check.due("fuel 3", 0, () -> t.explore(3));
        Check.due("fuel 1", 1, () -> t.explore(1));
        StoryStates u = line();
        Check.due("fuel 4", 1, () -> u.explore(4));
    }

    private static void statesThatAreOverTakeFuel() {
        StoryStates s = new StoryStates();
        s.room();
        s.ending(true);
        s.rule(6, -1, -1, 0);
        s.effect(0, 4, 0, 0);
        Check.due("the first state", 0, () -> s.explore(1));
        Check.due("found", 2, () -> s.study(0, 0));
        Check.due("the one that is over", 1, () -> s.explore(1));
        Check.due("nothing comes from it", 2, () -> s.study(0, 0));
    }

    private static void nothingComesBehindTheEnd() {
        StoryStates s = line();
        s.exit(0, 0, 1, -1);
        s.ending(false);
        s.rule(6, -1, -1, 0);
        s.condition(0, 0, 0, 0);
        s.effect(0, 4, 0, 0);
        Check.due("finished", 1, () -> s.explore(1000));
        Check.due("four rooms, and one that is over", 5, () -> s.study(0, 0));
    }

    private static void exploringAgainFindsOnlyWhatIsThere() {
        StoryStates s = goal();
        s.explore(1000);
        s.number(0, 1);
        s.condition(0, 3, 0, 1);
        for (int fuel = 0; fuel < 6; fuel++) {
            Check.due("not found", fuel < 4 ? 2 : 0, () -> s.reach(0, false));
            Check.due("no length", -1, () -> s.reach(0, true));
            s.explore(1);
        }
        Check.due("four states", 4, () -> s.study(0, 0));
        s.thing(0, 1);
        s.rule(7, 0, 0, 0);
        s.effect(1, 4, 1, 0);
        Check.due("a new thing has commands", 1, () -> s.explore(1000));
        Check.due("which are tried", 1, () -> s.reach(1, true));
        s.clear();
        s.room();
        s.ending(true);
        s.explore(1000);
        Check.due("one state when cleared", 1, () -> s.study(0, 0));
        Check.due("no ending when cleared", 0, () -> s.reach(0, false));
    }

    private static void exploringStartsAtTheFirstState() {
        StoryStates s = line();
        s.command(0, 3, -1);
        s.command(0, 3, -1);
        Check.due("explore", 1, () -> s.explore(1000));
        Check.due("all four are found", 4, () -> s.study(0, 0));
        Check.due("the play stays", 2, () -> s.state(0, 0));
        Check.due("and its turns", 2, () -> s.state(5, 0));
        Check.due("and what was said", 100, () -> s.said(0));
        Check.due("and can be undone", 1, () -> s.undo());
        Check.due("to where it was", 1, () -> s.state(0, 0));
    }

    /** Two numbers, each of which grows by a verb of its own, and a thing that may be opened. */
    private static StoryStates grid(int most, int other) {
        StoryStates s = new StoryStates();
        s.room();
        s.room();
        s.exit(0, 0, 1, -1);
        s.exit(1, 0, 0, -1);
        s.thing(0, 2);
        s.number(0, most);
        s.number(0, other);
        s.rule(7, -1, -1, 1);
        s.effect(0, 3, 0, 1);
        s.rule(8, -1, -1, 2);
        s.effect(1, 3, 1, 1);
        return s;
    }

    private static void theLimitIsMetAtOneMore() {
        StoryStates s = grid(7, 4);
        Check.due("8 * 5 * 2 * 2 are 160: no limit", 1, () -> s.explore(1000));
        Check.due("160 found", 160, () -> s.study(0, 0));
        StoryStates t = grid(6, 5);
        Check.due("7 * 6 * 2 * 2 are 168: the limit", 2, () -> t.explore(1000));
        Check.due("160 found", 160, () -> t.study(0, 0));
        StoryStates u = grid(7, 4);
        u.ending(true);
        u.rule(6, -1, -1, 3);
        u.condition(2, 3, 0, 7);
        u.condition(2, 3, 1, 4);
        u.effect(2, 4, 0, 0);
        Check.due("one state too many", 2, () -> u.explore(1000));
    }

    private static void theLimitStays() {
        StoryStates s = grid(7, 7);
        int answer = 0;
        int calls = 0;
        while (answer == 0 && calls < 400) {
            answer = s.explore(1);
            calls++;
        }
        int met = answer;
        Check.due("met with fuel 1 at a time", 2, () -> met);
        Check.due("found", 160, () -> s.study(0, 0));
        for (int fuel : new int[] {0, 1, 1000}) {
            Check.due("fuel " + fuel, 2, () -> s.explore(fuel));
            Check.due("found still", 160, () -> s.study(0, 0));
        }
        s.begin();
        Check.due("a begin changes nothing of it", 2, () -> s.explore(0));
        s.ending(true);
        Check.due("something built: from the start", 0, () -> s.explore(0));
        Check.due("and one found", 1, () -> s.study(0, 0));
    }

    private static void allPartsOfAStateCount() {
        StoryStates walk = new StoryStates();
        walk.room();
        walk.thing(0, 0);
        walk.walker(0, 0, 0, 0);
        Check.due("a walker's steps", 1, () -> walk.explore(1000));
        Check.due("are three states", 3, () -> walk.study(0, 0));
        StoryStates time = new StoryStates();
        time.room();
        time.rule(7, -1, -1, 0);
        time.timer(0, 15);
        Check.due("a timer's counts", 1, () -> time.explore(1000));
        Check.due("are sixteen states", 16, () -> time.study(0, 0));
        StoryStates both = new StoryStates();
        both.room();
        both.rule(7, -1, -1, 0);
        both.rule(7, -1, -1, 0);
        both.timer(0, 2);
        both.timer(1, 5);
        both.explore(1000);
        Check.due("two timers run together", 6, () -> both.study(0, 0));
        StoryStates lids = new StoryStates();
        lids.room();
        for (int i = 0; i < 6; i++) {
            lids.thing(0, 2);
        }
        lids.explore(1000);
        Check.due("six lids", 64, () -> lids.study(0, 0));
        StoryStates ends = new StoryStates();
        ends.room();
        for (int i = 0; i < 4; i++) {
            ends.thing(0, 0);
            ends.ending(i % 2 == 0);
            ends.rule(7, i, -1, 0);
            ends.effect(i, 4, i, 0);
        }
        ends.explore(1000);
        Check.due("four endings", 5, () -> ends.study(0, 0));
        for (int i = 0; i < 4; i++) {
            int ending = i;
            Check.due("ending " + i, 1, () -> ends.reach(ending, true));
            Check.due("its thing", ending, () -> ends.way(ending, 0, 1));
        }
    }

    private static void reachIsLookedAt() {
        StoryStates s = new StoryStates();
        s.ending(true);
        Check.refused("no room: reach", Check.STATE, () -> s.reach(0, false));
        Check.refused("no room and no ending: reach", Check.STATE, () -> s.reach(1, false));
        Check.refused("no room: way", Check.STATE, () -> s.way(0, 0, 0));
        Check.refused("no room and no ending: way", Check.STATE, () -> s.way(1, 0, 0));
        s.room();
        for (int bad : new int[] {-1, 1, Integer.MAX_VALUE, Integer.MIN_VALUE}) {
            Check.refused("reach " + bad, Check.INDEX, () -> s.reach(bad, true));
            Check.refused("way " + bad, Check.INDEX, () -> s.way(bad, 0, 9));
        }
    }

    private static StoryStates goal() {
        StoryStates s = line();
        s.ending(true);
        s.ending(false);
        s.rule(6, -1, -1, 0);
        s.condition(0, 0, 2, 0);
        s.effect(0, 4, 0, 0);
        return s;
    }

    private static void reachKnowsWhatItDoesNotKnow() {
        StoryStates s = goal();
        Check.due("nothing explored", 2, () -> s.reach(0, false));
        Check.due("no length", -1, () -> s.reach(0, true));
        s.explore(2);
        Check.due("not found yet", 2, () -> s.reach(0, false));
        Check.due("no length yet", -1, () -> s.reach(0, true));
        Check.due("nor a way", -1, () -> s.way(0, 0, 0));
        s.explore(1);
        Check.due("found, not finished", 1, () -> s.reach(0, false));
        Check.due("its length", 3, () -> s.reach(0, true));
        Check.due("the other is not known", 2, () -> s.reach(1, false));
        Check.due("finished", 1, () -> s.explore(1000));
        Check.due("it is known now", 0, () -> s.reach(1, false));
        Check.due("and has no length", -1, () -> s.reach(1, true));
        Check.due("found still", 1, () -> s.reach(0, false));
        s.thing(0, 0);
        Check.due("something built", 2, () -> s.reach(0, false));
        Check.due("something built: no length", -1, () -> s.reach(0, true));
    }

    /** Two states that are over with the same ending: the one with the smaller number counts. */
    private static void theFirstStateFoundDecides() {
        StoryStates s = new StoryStates();
        s.room();
        s.room();
        s.exit(0, 0, 1, -1);
        s.ending(true);
        s.rule(7, -1, -1, 0);
        s.effect(0, 4, 0, 0);
        s.explore(1000);
        Check.due("states", 4, () -> s.study(0, 0));
        Check.due("one command", 1, () -> s.reach(0, true));
        Check.due("verb 7 from room 0", 7, () -> s.way(0, 0, 0));
    }

    private static void theShortestWayIsTold() {
        StoryStates s = goal();
        s.exit(0, 1, 2, -1);
        s.explore(1000);
        Check.due("two commands", 2, () -> s.reach(0, true));
        int[][] way = {{0, 1, -1}, {6, -1, -1}};
        for (int i = 0; i < way.length; i++) {
            for (int what = 0; what < 3; what++) {
                int at = i;
                int part = what;
                Check.due("command " + i + " part " + what, way[i][what], () -> s.way(0, at, part));
            }
        }
    }

    private static void commandsAreTriedInOrder() {
        int[][] order = {
            {0, 0, -1}, {0, 3, -1}, {1, 0, -1}, {1, 1, -1}, {2, 0, -1}, {3, 0, -1}, {4, 1, -1}, {5, 0, 0}, {5, 0, 1},
            {5, 1, 0}, {6, -1, -1}, {7, -1, -1}, {7, -1, 0}, {7, -1, 1}, {7, 0, -1}, {7, 0, 0}, {7, 1, 1},
            {8, -1, -1}, {8, 0, -1}, {8, 1, 1},
        };
        for (int i = 0; i + 1 < order.length; i++) {
            firstOfTwo(order[i], order[i + 1]);
        }
    }

    /** The later one's rule is built first, so that the order of rules does not help. */
    private static void firstOfTwo(int[] earlier, int[] later) {
        StoryStates s = new StoryStates();
        s.room();
        s.thing(0, 3);
        s.thing(0, 3);
        s.ending(true);
        s.effect(s.rule(later[0], later[1], later[2], 0), 4, 0, 0);
        s.effect(s.rule(earlier[0], earlier[1], earlier[2], 0), 4, 0, 0);
        s.explore(1);
        Check.due("one command", 1, () -> s.reach(0, true));
        Check.due("its verb", earlier[0], () -> s.way(0, 0, 0));
        Check.due("its a", earlier[1], () -> s.way(0, 0, 1));
        Check.due("its b", earlier[2], () -> s.way(0, 0, 2));
    }

    private static void wayAnswersNone() {
        StoryStates s = goal();
        s.explore(1000);
        Check.due("three commands", 3, () -> s.reach(0, true));
        for (int i : new int[] {-1, 3, Integer.MAX_VALUE, Integer.MIN_VALUE}) {
            Check.due("command " + i, -1, () -> s.way(0, i, 0));
        }
        for (int what : new int[] {-1, 3, Integer.MAX_VALUE, Integer.MIN_VALUE}) {
            Check.due("part " + what, -1, () -> s.way(0, 0, what));
        }
        Check.due("an ending that does not come", -1, () -> s.way(1, 0, 0));
    }

    /** A key in a box, a locked door, a guard who walks, and a timer: the way told leads there. */
    private static void theWayCanBePlayed() {
        StoryStates s = new StoryStates();
        s.room();
        s.room();
        s.thing(0, 2);
        s.thing(7, 1);
        s.thing(0, 0);
        s.exit(0, 0, 1, 2);
        s.number(0, 1);
        s.ending(true);
        s.ending(false);
        s.rule(7, 1, 2, 10);
        s.condition(0, 1, 1, 6);
        s.effect(0, 2, 2, 1);
        s.rule(0, 0, -1, 11);
        s.condition(1, 2, 2, 1);
        s.effect(1, 0, 1, 0);
        s.effect(1, 4, 0, 0);
        s.rule(8, -1, -1, 12);
        s.effect(2, 4, 1, 0);
        s.timer(2, 7);
        Check.due("finished", 1, () -> s.explore(1000));
        Check.due("the good one comes", 1, () -> s.reach(0, false));
        Check.due("in four commands", 4, () -> s.reach(0, true));
        Check.due("the bad one in seven", 7, () -> s.reach(1, true));
        for (int ending = 0; ending < 2; ending++) {
            int e = ending;
            s.begin();
            int length = s.reach(e, true);
            for (int i = 0; i < length; i++) {
                Check.due("not over before", -1, () -> s.state(4, 0));
                s.command(s.way(e, i, 0), s.way(e, i, 1), s.way(e, i, 2));
            }
            Check.due("over with it", e, () -> s.state(4, 0));
        }
    }
}
