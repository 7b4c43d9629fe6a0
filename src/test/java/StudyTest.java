/** Promise 21: what the states tell. */
public final class StudyTest {
    public static void main(String[] args) {
        studyIsLookedAt();
        unfinishedIsUnknown();
        hopeIsTold();
        aBadEndingIsHopeless();
        everythingIsHopeless();
        aWonPlayIsNotHopeless();
        theSpoilingTurnIsTold();
        timeSpoilsToo();
        beginAndUndoMend();
        stuckStatesAreCounted();
        hopeGoesRoundInCircles();
        hopeComesFromStatesFoundEarlier();
        theWorldBeforeDoesNotShow();
        idleRulesAreTold();
        timersRulesAreIdleToo();
        aRuleWithoutEffectsIsDone();
        Check.end("StudyTest");
    }

    private static void studyIsLookedAt() {
        StoryStates s = new StoryStates();
        Check.refused("no room", Check.STATE, () -> s.study(0, 0));
        Check.refused("no room and no what", Check.STATE, () -> s.study(5, 0));
        s.room();
        for (int bad : new int[] {-1, 5, Integer.MAX_VALUE, Integer.MIN_VALUE}) {
            Check.refused("what " + bad, Check.ARGUMENT, () -> s.study(bad, 0));
        }
        Check.due("i does not matter", 1, () -> s.study(0, Integer.MIN_VALUE));
    }

    /** A glass that breaks when it is dropped by verb 7, and a toast with it, verb 8. */
    private static StoryStates glass() {
        StoryStates s = new StoryStates();
        s.room();
        s.thing(6, 1);
        s.number(0, 1);
        s.ending(true);
        s.ending(false);
        s.rule(7, 0, -1, 1);
        s.effect(0, 3, 0, 1);
        s.rule(8, 0, -1, 2);
        s.condition(1, 4, 0, 0);
        s.effect(1, 4, 0, 0);
        s.rule(8, -1, 0, 3);
        s.effect(2, 4, 1, 0);
        s.rule(8, 0, 0, 4);
        s.condition(3, 3, 0, 2);
        return s;
    }

    private static void unfinishedIsUnknown() {
        StoryStates s = glass();
        for (int fuel = 0; fuel < 3; fuel++) {
            int some = fuel;
            Check.due("hopeless", 2, () -> s.study(1, 0));
            Check.due("spoiling turn", -1, () -> s.study(2, 0));
            Check.due("stuck", -1, () -> s.study(3, 0));
            Check.due("idle", -1, () -> s.study(4, 0));
            Check.due("not finished", 0, () -> s.explore(some));
        }
        Check.due("finished", 1, () -> s.explore(1000));
        Check.due("known now", 0, () -> s.study(1, 0));
        s.condition(0, 0, 0, 0);
        Check.due("unknown again", 2, () -> s.study(1, 0));
    }

    private static void hopeIsTold() {
        StoryStates s = glass();
        s.explore(1000);
        Check.due("at first", 0, () -> s.study(1, 0));
        s.command(2, 0, -1);
        Check.due("dropped", 0, () -> s.study(1, 0));
        s.command(7, 0, -1);
        Check.due("broken", 1, () -> s.study(1, 0));
        Check.due("i does not matter", 1, () -> s.study(1, -5));
        s.undo();
        Check.due("mended", 0, () -> s.study(1, 0));
    }

    private static void aBadEndingIsHopeless() {
        StoryStates s = glass();
        s.explore(1000);
        s.command(6, -1, -1);
        s.command(8, -1, 0);
        Check.due("over with the bad one", 1, () -> s.state(4, 0));
        Check.due("hopeless", 1, () -> s.study(1, 0));
        Check.due("by turn 1", 1, () -> s.study(2, 0));
    }

    private static void everythingIsHopeless() {
        StoryStates s = new StoryStates();
        s.room();
        s.ending(false);
        s.rule(7, -1, -1, 0);
        s.effect(0, 4, 0, 0);
        s.explore(1000);
        Check.due("no good ending", 1, () -> s.study(1, 0));
        Check.due("no turn did it", -1, () -> s.study(2, 0));
        s.command(6, -1, -1);
        s.command(7, -1, -1);
        Check.due("still", 1, () -> s.study(1, 0));
        Check.due("the first state is hopeless, too", -1, () -> s.study(2, 0));
    }

    private static void aWonPlayIsNotHopeless() {
        StoryStates s = glass();
        s.explore(1000);
        s.command(8, 0, -1);
        Check.due("over with the good one", 0, () -> s.state(4, 0));
        Check.due("not hopeless", 0, () -> s.study(1, 0));
        Check.due("no spoiling turn", -1, () -> s.study(2, 0));
    }

    private static void theSpoilingTurnIsTold() {
        StoryStates s = glass();
        s.explore(1000);
        Check.due("no turns", -1, () -> s.study(2, 0));
        s.command(6, -1, -1);
        s.command(2, 0, -1);
        Check.due("not spoiled", -1, () -> s.study(2, 0));
        s.command(7, 0, -1);
        Check.due("spoiled by turn 2", 2, () -> s.study(2, 0));
        s.command(6, -1, -1);
        s.command(1, 0, -1);
        Check.due("still by turn 2", 2, () -> s.study(2, 0));
        StoryStates t = glass();
        t.explore(1000);
        t.command(7, 0, -1);
        Check.due("spoiled by turn 0", 0, () -> t.study(2, 0));
    }

    /** The good ending must come before the timer runs out. */
    private static void timeSpoilsToo() {
        StoryStates s = new StoryStates();
        s.room();
        s.room();
        s.exit(0, 0, 1, -1);
        s.exit(1, 0, 0, -1);
        s.number(0, 1);
        s.ending(true);
        s.rule(8, -1, -1, 0);
        s.condition(0, 0, 1, 0);
        s.condition(0, 4, 0, 0);
        s.effect(0, 4, 0, 0);
        s.rule(8, -2, -2, 1);
        s.effect(1, 3, 0, 1);
        s.timer(1, 3);
        Check.due("finished", 1, () -> s.explore(1000));
        Check.due("hope at first", 0, () -> s.study(1, 0));
        s.command(6, -1, -1);
        Check.due("go and do it: two turns", 0, () -> s.study(1, 0));
        s.command(6, -1, -1);
        Check.due("too late", 1, () -> s.study(1, 0));
        Check.due("by turn 1", 1, () -> s.study(2, 0));
        s.undo();
        s.command(0, 0, -1);
        Check.due("just in time", 0, () -> s.study(1, 0));
    }

    private static void beginAndUndoMend() {
        StoryStates s = glass();
        s.explore(1000);
        s.command(6, -1, -1);
        s.command(7, 0, -1);
        s.command(6, -1, -1);
        Check.due("by turn 1", 1, () -> s.study(2, 0));
        s.undo();
        Check.due("still by turn 1", 1, () -> s.study(2, 0));
        s.undo();
        Check.due("mended by undo", -1, () -> s.study(2, 0));
        s.command(7, 0, -1);
        s.begin();
        Check.due("mended by begin", 0, () -> s.study(1, 0));
        s.command(7, 0, -1);
        Check.due("by turn 0 of this play", 0, () -> s.study(2, 0));
    }

    private static void stuckStatesAreCounted() {
        StoryStates one = new StoryStates();
        one.room();
        one.explore(1000);
        Check.due("a room without anything", 1, () -> one.study(3, 0));
        StoryStates s = new StoryStates();
        for (int i = 0; i < 4; i++) {
            s.room();
        }
        s.exit(0, 0, 1, -1);
        s.exit(0, 1, 2, -1);
        s.exit(0, 2, 3, -1);
        s.exit(3, 0, 0, -1);
        s.exit(2, 0, 2, -1);
        s.ending(false);
        s.rule(8, -1, -1, 0);
        s.condition(0, 0, 3, 0);
        s.effect(0, 4, 0, 0);
        s.explore(1000);
        Check.due("rooms 1 and 2, not the one that is over", 2, () -> s.study(3, 0));
        Check.due("i does not matter", 2, () -> s.study(3, 77));
        StoryStates t = new StoryStates();
        t.room();
        t.rule(7, -1, -1, 0);
        t.timer(0, 3);
        t.explore(1000);
        Check.due("only when the timer has run out", 1, () -> t.study(3, 0));
        StoryStates w = new StoryStates();
        w.room();
        w.thing(0, 0);
        w.walker(0, 0, 0, 0);
        w.explore(1000);
        Check.due("a walker never stands", 0, () -> w.study(3, 0));
    }

    /** The good ending lies behind states with smaller numbers: hope must spread backwards too. */
    private static void hopeGoesRoundInCircles() {
        StoryStates s = new StoryStates();
        for (int i = 0; i < 6; i++) {
            s.room();
        }
        for (int i = 0; i < 5; i++) {
            s.exit(i, 0, i + 1, -1);
        }
        s.exit(5, 1, 1, -1);
        s.number(0, 7);
        s.ending(true);
        s.rule(0, 1, -1, 0);
        s.condition(0, 0, 5, 0);
        s.effect(0, 3, 0, 1);
        s.effect(0, 0, 0, 0);
        s.rule(6, -1, -1, 1);
        s.condition(1, 3, 0, 7);
        s.condition(1, 0, 3, 0);
        s.effect(1, 4, 0, 0);
        Check.due("finished", 1, () -> s.explore(1000));
        Check.due("there is hope at first", 0, () -> s.study(1, 0));
        Check.due("after seven rounds", 7 * 6 + 3 + 1, () -> s.reach(0, true));
        Check.due("no state is stuck", 0, () -> s.study(3, 0));
        for (int i = 0; i < 4; i++) {
            s.command(0, 0, -1);
        }
        Check.due("hope on the way", 0, () -> s.study(1, 0));
    }

    /** Rooms 3, 2 and 1 lead only to the one with the next smaller number. */
    private static void hopeComesFromStatesFoundEarlier() {
        StoryStates s = new StoryStates();
        for (int i = 0; i < 5; i++) {
            s.room();
        }
        for (int i = 0; i < 4; i++) {
            s.exit(0, i, i + 1, -1);
        }
        for (int i = 1; i < 4; i++) {
            s.exit(i, 0, i - 1, -1);
        }
        s.ending(true);
        s.rule(7, -1, -1, 0);
        s.condition(0, 0, 0, 0);
        s.effect(0, 4, 0, 0);
        s.explore(1000);
        for (int direction = 0; direction < 4; direction++) {
            int want = direction == 3 ? 1 : 0;
            s.begin();
            s.command(0, direction, -1);
            Check.due("hopeless in room " + (direction + 1), want, () -> s.study(1, 0));
            Check.due("spoiling turn", want - 1, () -> s.study(2, 0));
        }
        Check.due("room 4 is stuck", 1, () -> s.study(3, 0));
    }

    /** Rules done, states and where they lead are found anew when something was built. */
    private static void theWorldBeforeDoesNotShow() {
        StoryStates s = new StoryStates();
        s.room();
        s.room();
        s.exit(0, 0, 1, -1);
        s.exit(1, 0, 0, -1);
        s.ending(true);
        s.rule(7, -1, -1, 0);
        s.effect(0, 4, 0, 0);
        s.explore(1000);
        s.command(7, -1, -1);
        Check.due("found", 4, () -> s.study(0, 0));
        Check.due("none is stuck", 0, () -> s.study(3, 0));
        Check.due("no rule is idle", -1, () -> s.study(4, 0));
        s.number(0, 1);
        s.condition(0, 3, 0, 1);
        s.exit(0, 0, 0, -1);
        Check.due("finished", 1, () -> s.explore(1));
        Check.due("found then", 1, () -> s.study(0, 0));
        Check.due("it is stuck", 1, () -> s.study(3, 0));
        Check.due("the rule is idle", 0, () -> s.study(4, 0));
        Check.due("hopeless", 1, () -> s.study(1, 0));
        Check.due("the ending does not come", 0, () -> s.reach(0, false));
        Check.due("nor by a way", -1, () -> s.reach(0, true));
    }

    private static void idleRulesAreTold() {
        StoryStates s = glass();
        s.rule(7, 1, -1, 5);
        s.rule(6, 0, -1, 6);
        s.explore(1000);
        Check.due("rule 3: its condition never is so", 3, () -> s.study(4, 0));
        Check.due("rule 4: no such thing", 4, () -> s.study(4, 1));
        Check.due("rule 5: WAIT has no thing", 5, () -> s.study(4, 2));
        for (int i : new int[] {3, -1, 12, Integer.MAX_VALUE, Integer.MIN_VALUE}) {
            Check.due("idle " + i, -1, () -> s.study(4, i));
        }
        StoryStates t = new StoryStates();
        t.room();
        t.rule(6, -1, -1, 0);
        t.rule(6, -1, -1, 1);
        t.explore(1000);
        Check.due("rule 1 stands behind rule 0", 1, () -> t.study(4, 0));
        t.explore(1000);
        t.command(6, -1, -1);
        Check.due("what is played does not count", 1, () -> t.study(4, 0));
        StoryStates u = new StoryStates();
        u.room();
        u.explore(1000);
        Check.due("no rules", -1, () -> u.study(4, 0));
    }

    private static void timersRulesAreIdleToo() {
        StoryStates s = new StoryStates();
        s.room();
        s.room();
        s.rule(6, -1, -1, 0);
        s.rule(6, -1, -1, 1);
        s.condition(1, 0, 1, 0);
        s.timer(0, 2);
        s.timer(1, 2);
        s.explore(1000);
        Check.due("timer 1's rule is not done", 1, () -> s.study(4, 0));
        Check.due("timer 0's is", -1, () -> s.study(4, 1));
    }

    private static void aRuleWithoutEffectsIsDone() {
        StoryStates s = new StoryStates();
        s.room();
        s.rule(6, -1, -1, 0);
        s.explore(1000);
        Check.due("it was said and done", -1, () -> s.study(4, 0));
        Check.due("it leads to itself", 1, () -> s.study(3, 0));
    }
}
