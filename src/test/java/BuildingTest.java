/** Promises 1 to 12: what can be built, and what is refused, in which order. */
public final class BuildingTest {
    private static final int FAR = Integer.MAX_VALUE;
    private static final int LOW = Integer.MIN_VALUE;

    public static void main(String[] args) {
        newObjectIsEmpty();
        clearEmptiesTheWorld();
        clearLeavesNothingBehind();
        roomsAreSix();
        exitsAreLookedAt();
        exitReplacesAnother();
        thingsAreLookedAt();
        thingsAreSix();
        numbersAreLookedAt();
        endingsAreFour();
        rulesAreLookedAt();
        conditionsAreLookedAt();
        conditionsAreThree();
        effectsAreLookedAt();
        effectsAreThree();
        walkersAreLookedAt();
        timersAreLookedAt();
        buildingStartsAnew();
        refusedCallsChangeNothing();
        Check.end("BuildingTest");
    }

    private static void newObjectIsEmpty() {
        isEmpty("new", new StoryStates());
    }

    private static void isEmpty(String name, StoryStates s) {
        Check.refused(name + ": begin", Check.STATE, () -> s.begin());
        Check.refused(name + ": wait", Check.STATE, () -> s.command(6, -1, -1));
        Check.refused(name + ": take", Check.ARGUMENT, () -> s.command(1, 0, -1));
        Check.refused(name + ": state 0", Check.STATE, () -> s.state(0, 0));
        Check.refused(name + ": state 1", Check.INDEX, () -> s.state(1, 0));
        Check.refused(name + ": state 3", Check.INDEX, () -> s.state(3, 0));
        Check.refused(name + ": state 7", Check.INDEX, () -> s.state(7, 0));
        Check.refused(name + ": state 8", Check.INDEX, () -> s.state(8, 0));
        Check.refused(name + ": explore", Check.STATE, () -> s.explore(1));
        Check.refused(name + ": reach", Check.STATE, () -> s.reach(0, true));
        Check.refused(name + ": way", Check.STATE, () -> s.way(0, 0, 0));
        Check.refused(name + ": study", Check.STATE, () -> s.study(0, 0));
        Check.refused(name + ": exit", Check.INDEX, () -> s.exit(0, 0, 0, -1));
        Check.refused(name + ": thing", Check.INDEX, () -> s.thing(0, 0));
        Check.refused(name + ": thing in a thing", Check.INDEX, () -> s.thing(7, 0));
        Check.refused(name + ": condition", Check.INDEX, () -> s.condition(0, 0, 0, 0));
        Check.refused(name + ": effect", Check.INDEX, () -> s.effect(0, 0, 0, 0));
        Check.refused(name + ": walker", Check.INDEX, () -> s.walker(0, 0, 0, 0));
        Check.refused(name + ": timer", Check.INDEX, () -> s.timer(0, 1));
        Check.due(name + ": undo", 0, () -> s.undo());
        Check.due(name + ": said", -1, () -> s.said(0));
        Check.due(name + ": first thing", 0, () -> s.thing(6, 0));
        Check.due(name + ": first number", 0, () -> s.number(0, 1));
        Check.due(name + ": first ending", 0, () -> s.ending(true));
        Check.due(name + ": first rule", 0, () -> s.rule(0, 0, 0, 0));
        Check.due(name + ": first room", 0, () -> s.room());
    }

    private static void clearEmptiesTheWorld() {
        StoryStates s = rich();
        s.command(6, -1, -1);
        s.explore(3);
        s.clear();
        isEmpty("cleared", s);
        StoryStates t = new StoryStates();
        Check.done("clear of nothing", () -> t.clear());
        isEmpty("cleared nothing", t);
    }

    /** Exits, kinds, conditions, timers and walkers of the world before must not show in the next. */
    private static void clearLeavesNothingBehind() {
        StoryStates s = rich();
        s.clear();
        s.room();
        s.room();
        s.thing(1, 0);
        s.number(0, 1);
        s.ending(false);
        s.rule(6, -2, -2, 5);
        s.command(0, 0, -1);
        Check.due("no exit is left", 99, () -> s.said(0));
        Check.due("one text: no timer is left", 1, () -> s.command(6, -1, -1));
        Check.due("the rule is no timer's and has no condition", 5, () -> s.said(0));
        Check.due("no effect is left", -1, () -> s.state(4, 0));
        Check.due("no walker is left", 1, () -> s.state(1, 0));
        Check.due("the thing is not open", 0, () -> s.state(2, 0));
        Check.due("nothing is explored", 1, () -> s.study(0, 0));
        StoryStates t = new StoryStates();
        for (int i = 0; i < 12; i++) {
            t.rule(6, -2, -2, i);
        }
        t.clear();
        t.room();
        t.command(6, -1, -1);
        Check.due("no rule is left", 106, () -> t.said(0));
        t.rule(7, -2, -2, 50);
        t.command(6, -1, -1);
        Check.due("nor behind a new one", 106, () -> t.said(0));
    }

    private static StoryStates rich() {
        StoryStates s = new StoryStates();
        s.room();
        s.room();
        s.exit(0, 0, 1, -1);
        s.thing(0, 7);
        s.number(1, 3);
        s.ending(true);
        s.rule(6, -1, -1, 9);
        s.condition(0, 3, 0, 3);
        s.effect(0, 4, 0, 0);
        s.rule(7, -1, -1, 10);
        s.timer(0, 1);
        s.timer(1, 1);
        s.walker(0, 0, 1, 1);
        return s;
    }

    private static void roomsAreSix() {
        StoryStates s = new StoryStates();
        for (int i = 0; i < 6; i++) {
            int number = i;
            Check.due("room " + i, number, () -> s.room());
        }
        Check.refused("room 6", Check.STATE, () -> s.room());
        Check.done("the last room is there", () -> s.exit(5, 3, 5, -1));
        Check.refused("no room 6", Check.INDEX, () -> s.exit(5, 3, 6, -1));
    }

    private static void exitsAreLookedAt() {
        StoryStates s = new StoryStates();
        s.room();
        s.room();
        s.thing(0, 0);
        Check.done("exit with a door of any kind", () -> s.exit(0, 0, 1, 0));
        Check.done("exit to the same room", () -> s.exit(1, 3, 1, -1));
        Check.refused("from 2", Check.INDEX, () -> s.exit(2, 0, 0, -1));
        Check.refused("from -1", Check.INDEX, () -> s.exit(-1, 0, 0, -1));
        Check.refused("to 2", Check.INDEX, () -> s.exit(0, 0, 2, -1));
        Check.refused("to -1", Check.INDEX, () -> s.exit(0, 0, -1, -1));
        Check.refused("door 1", Check.INDEX, () -> s.exit(0, 0, 1, 1));
        Check.refused("door ANY", Check.INDEX, () -> s.exit(0, 0, 1, -2));
        Check.refused("direction 4", Check.ARGUMENT, () -> s.exit(0, 4, 1, -1));
        Check.refused("direction -1", Check.ARGUMENT, () -> s.exit(0, -1, 1, -1));
        Check.refused("direction far", Check.ARGUMENT, () -> s.exit(0, FAR, 1, -1));
        Check.refused("direction and room", Check.INDEX, () -> s.exit(0, 4, 2, -1));
        Check.refused("direction and door", Check.INDEX, () -> s.exit(0, 4, 1, LOW));
    }

    private static void exitReplacesAnother() {
        StoryStates s = new StoryStates();
        s.room();
        s.room();
        s.room();
        s.thing(0, 2);
        s.exit(0, 2, 1, 0);
        s.exit(0, 2, 2, -1);
        s.command(0, 2, -1);
        Check.due("the later exit leads, without the door", 2, () -> s.state(0, 0));
    }

    private static void thingsAreLookedAt() {
        StoryStates s = new StoryStates();
        Check.refused("room 0 before it is", Check.INDEX, () -> s.thing(0, 0));
        Check.due("in the hands", 0, () -> s.thing(6, 0));
        s.room();
        Check.due("in a room", 1, () -> s.thing(0, 7));
        Check.due("in a thing of any kind", 2, () -> s.thing(7, 1));
        Check.refused("in itself", Check.INDEX, () -> s.thing(10, 1));
        Check.refused("room 1", Check.INDEX, () -> s.thing(1, 0));
        Check.refused("place -1", Check.INDEX, () -> s.thing(-1, 0));
        Check.refused("place far", Check.INDEX, () -> s.thing(FAR, 0));
        Check.refused("place low", Check.INDEX, () -> s.thing(LOW, 0));
        for (int bad : new int[] {-1, 4, 5, 8, FAR, LOW}) {
            Check.refused("kind " + bad, Check.ARGUMENT, () -> s.thing(0, bad));
        }
        Check.refused("place and kind", Check.INDEX, () -> s.thing(1, 4));
        for (int good : new int[] {2, 3, 6}) {
            Check.done("kind " + good, () -> s.thing(0, good));
        }
        Check.due("place of thing 2", 7, () -> s.state(1, 2));
        Check.due("7 is open", 1, () -> s.state(2, 1));
        Check.due("2 is not", 0, () -> s.state(2, 3));
        Check.due("6 is open", 1, () -> s.state(2, 5));
    }

    private static void thingsAreSix() {
        StoryStates s = new StoryStates();
        for (int i = 0; i < 6; i++) {
            int number = i;
            Check.due("thing " + i, number, () -> s.thing(6, 0));
        }
        Check.refused("thing 6", Check.STATE, () -> s.thing(6, 0));
        Check.refused("thing 6 of a wrong kind", Check.ARGUMENT, () -> s.thing(6, 4));
        Check.refused("thing 6 in no place", Check.INDEX, () -> s.thing(13, 4));
        Check.refused("thing 6 in the last thing", Check.STATE, () -> s.thing(12, 0));
    }

    private static void numbersAreLookedAt() {
        StoryStates s = new StoryStates();
        s.room();
        for (int bad : new int[] {0, 8, -1, FAR, LOW}) {
            Check.refused("most " + bad, Check.ARGUMENT, () -> s.number(0, bad));
        }
        Check.refused("first -1", Check.ARGUMENT, () -> s.number(-1, 3));
        Check.refused("first over most", Check.ARGUMENT, () -> s.number(4, 3));
        Check.due("0 of 1", 0, () -> s.number(0, 1));
        Check.due("7 of 7", 1, () -> s.number(7, 7));
        Check.due("3 of 5", 2, () -> s.number(3, 5));
        Check.refused("number 3", Check.STATE, () -> s.number(0, 1));
        Check.refused("number 3 of a wrong most", Check.ARGUMENT, () -> s.number(0, 8));
        Check.due("number 0", 0, () -> s.state(3, 0));
        Check.due("number 1", 7, () -> s.state(3, 1));
        Check.due("number 2", 3, () -> s.state(3, 2));
    }

    private static void endingsAreFour() {
        StoryStates s = new StoryStates();
        for (int i = 0; i < 4; i++) {
            int number = i;
            Check.due("ending " + i, number, () -> s.ending(number % 2 == 0));
        }
        Check.refused("ending 4", Check.STATE, () -> s.ending(true));
    }

    private static void rulesAreLookedAt() {
        StoryStates s = new StoryStates();
        for (int bad : new int[] {-1, 9, FAR, LOW}) {
            Check.refused("verb " + bad, Check.ARGUMENT, () -> s.rule(bad, 0, 0, 0));
        }
        for (int bad : new int[] {-3, 6, FAR, LOW}) {
            Check.refused("first " + bad, Check.ARGUMENT, () -> s.rule(0, bad, 0, 0));
            Check.refused("second " + bad, Check.ARGUMENT, () -> s.rule(0, 0, bad, 0));
        }
        for (int bad : new int[] {-1, 99, FAR, LOW}) {
            Check.refused("text " + bad, Check.ARGUMENT, () -> s.rule(0, 0, 0, bad));
        }
        for (int i = 0; i < 12; i++) {
            int number = i;
            Check.due("rule " + i, number, () -> s.rule(number % 9, number % 8 - 2, 5 - number % 8, number * 98 / 11));
        }
        Check.refused("rule 12", Check.STATE, () -> s.rule(0, 0, 0, 0));
        Check.refused("rule 12 of a wrong verb", Check.ARGUMENT, () -> s.rule(9, 0, 0, 0));
    }

    /** Two rooms, two things, a number, an ending, two rules. */
    private static StoryStates small() {
        StoryStates s = new StoryStates();
        s.room();
        s.room();
        s.thing(0, 1);
        s.thing(0, 2);
        s.number(0, 3);
        s.ending(true);
        s.rule(7, -2, -2, 1);
        s.rule(8, -2, -2, 2);
        return s;
    }

    private static void conditionsAreLookedAt() {
        StoryStates s = small();
        Check.refused("rule 2", Check.INDEX, () -> s.condition(2, 0, 0, 0));
        Check.refused("rule -1", Check.INDEX, () -> s.condition(-1, 0, 0, 0));
        Check.refused("rule before kind", Check.INDEX, () -> s.condition(2, 5, 0, 0));
        for (int bad : new int[] {-1, 5, FAR, LOW}) {
            Check.refused("kind " + bad, Check.ARGUMENT, () -> s.condition(0, bad, 0, 0));
            Check.refused("kind before what it is about " + bad, Check.ARGUMENT, () -> s.condition(0, bad, 9, 9));
        }
        Check.refused("room 2", Check.INDEX, () -> s.condition(0, 0, 2, 0));
        Check.refused("thing 2", Check.INDEX, () -> s.condition(0, 1, 2, 0));
        Check.refused("place of no room", Check.INDEX, () -> s.condition(0, 1, 0, 2));
        Check.refused("place in no thing", Check.INDEX, () -> s.condition(0, 1, 0, 9));
        Check.refused("place -1", Check.INDEX, () -> s.condition(0, 1, 0, -1));
        Check.refused("open of no thing", Check.INDEX, () -> s.condition(0, 2, 2, 0));
        Check.refused("thing before y", Check.INDEX, () -> s.condition(0, 2, 2, 2));
        Check.refused("open 2", Check.ARGUMENT, () -> s.condition(0, 2, 0, 2));
        Check.refused("open -1", Check.ARGUMENT, () -> s.condition(0, 2, 0, -1));
        Check.refused("number 1", Check.INDEX, () -> s.condition(0, 3, 1, 0));
        Check.refused("number before y", Check.INDEX, () -> s.condition(0, 4, 1, 8));
        for (int kind = 3; kind <= 4; kind++) {
            int k = kind;
            Check.refused("amount 8, " + k, Check.ARGUMENT, () -> s.condition(0, k, 0, 8));
            Check.refused("amount -1, " + k, Check.ARGUMENT, () -> s.condition(0, k, 0, -1));
        }
        Check.done("room, with any y", () -> s.condition(0, 0, 1, LOW));
        Check.done("in itself", () -> s.condition(0, 1, 0, 7));
        Check.done("amount over its most", () -> s.condition(0, 3, 0, 7));
        Check.done("thing of no lid open", () -> s.condition(1, 2, 0, 1));
        Check.done("in the hands", () -> s.condition(1, 1, 0, 6));
        Check.done("amount 0 or less", () -> s.condition(1, 4, 0, 0));
    }

    private static void conditionsAreThree() {
        StoryStates s = small();
        for (int i = 0; i < 3; i++) {
            Check.done("condition " + i, () -> s.condition(0, 0, 0, 0));
        }
        Check.refused("condition 3", Check.STATE, () -> s.condition(0, 0, 0, 0));
        Check.refused("condition 3 of a wrong kind", Check.ARGUMENT, () -> s.condition(0, 5, 0, 0));
        Check.refused("condition 3 about nothing", Check.INDEX, () -> s.condition(0, 0, 2, 0));
        Check.refused("condition 3 with a wrong y", Check.ARGUMENT, () -> s.condition(0, 2, 0, 2));
        Check.done("another rule has its own", () -> s.condition(1, 0, 0, 0));
        Check.done("effects are apart", () -> s.effect(0, 0, 0, 0));
    }

    private static void effectsAreLookedAt() {
        StoryStates s = small();
        Check.refused("rule 2", Check.INDEX, () -> s.effect(2, 5, 0, 0));
        for (int bad : new int[] {-1, 5, FAR, LOW}) {
            Check.refused("kind " + bad, Check.ARGUMENT, () -> s.effect(0, bad, 9, 9));
        }
        Check.refused("room 2", Check.INDEX, () -> s.effect(0, 0, 2, 0));
        Check.refused("thing 2", Check.INDEX, () -> s.effect(0, 1, 2, 0));
        Check.refused("place of no room", Check.INDEX, () -> s.effect(0, 1, 0, 2));
        Check.refused("place in no thing", Check.INDEX, () -> s.effect(0, 1, 0, 9));
        Check.refused("open of no thing", Check.INDEX, () -> s.effect(0, 2, 2, 2));
        Check.refused("open 2", Check.ARGUMENT, () -> s.effect(0, 2, 0, 2));
        Check.refused("open -1", Check.ARGUMENT, () -> s.effect(0, 2, 0, -1));
        Check.refused("number 1", Check.INDEX, () -> s.effect(0, 3, 1, 8));
        Check.refused("grows 8", Check.ARGUMENT, () -> s.effect(0, 3, 0, 8));
        Check.refused("grows -8", Check.ARGUMENT, () -> s.effect(0, 3, 0, -8));
        Check.refused("ending 1", Check.INDEX, () -> s.effect(0, 4, 1, 0));
        Check.refused("ending -1", Check.INDEX, () -> s.effect(0, 4, -1, 0));
        Check.done("grows 7", () -> s.effect(0, 3, 0, 7));
        Check.done("grows -7", () -> s.effect(0, 3, 0, -7));
        Check.done("over, with any y", () -> s.effect(0, 4, 0, FAR));
        Check.done("room, with any y", () -> s.effect(1, 0, 1, LOW));
        Check.done("in itself", () -> s.effect(1, 1, 0, 7));
        Check.done("thing of no lid open", () -> s.effect(1, 2, 0, 1));
    }

    private static void effectsAreThree() {
        StoryStates s = small();
        for (int i = 0; i < 3; i++) {
            Check.done("effect " + i, () -> s.effect(0, 0, 0, 0));
        }
        Check.refused("effect 3", Check.STATE, () -> s.effect(0, 0, 0, 0));
        Check.refused("effect 3 of a wrong kind", Check.ARGUMENT, () -> s.effect(0, 5, 0, 0));
        Check.refused("effect 3 about nothing", Check.INDEX, () -> s.effect(0, 0, 2, 0));
        Check.refused("effect 3 with a wrong y", Check.ARGUMENT, () -> s.effect(0, 3, 0, 8));
        Check.done("another rule has its own", () -> s.effect(1, 0, 0, 0));
        Check.done("conditions are apart", () -> s.condition(0, 0, 0, 0));
    }

    private static void walkersAreLookedAt() {
        StoryStates s = small();
        s.thing(6, 0);
        Check.refused("thing 3", Check.INDEX, () -> s.walker(3, 0, 0, 0));
        Check.refused("first 2", Check.INDEX, () -> s.walker(0, 2, 0, 0));
        Check.refused("second 2", Check.INDEX, () -> s.walker(0, 0, 2, 0));
        Check.refused("third -1", Check.INDEX, () -> s.walker(0, 0, 0, -1));
        Check.done("walker 0", () -> s.walker(2, 1, 0, 0));
        Check.due("it is at its first room", 1, () -> s.state(1, 2));
        Check.due("its step is 0", 0, () -> s.state(8, 0));
        Check.refused("it is one", Check.STATE, () -> s.walker(2, 0, 0, 0));
        Check.refused("it is one, no room", Check.INDEX, () -> s.walker(2, 0, 0, 2));
        Check.refused("no walker 1", Check.INDEX, () -> s.state(8, 1));
        Check.done("walker 1", () -> s.walker(0, 0, 1, 1));
        Check.refused("walker 2", Check.STATE, () -> s.walker(1, 0, 0, 0));
        Check.refused("walker 2 of no thing", Check.INDEX, () -> s.walker(3, 0, 0, 0));
        Check.due("walker 1's step", 0, () -> s.state(8, 1));
    }

    private static void timersAreLookedAt() {
        StoryStates s = small();
        s.rule(6, -2, -2, 3);
        Check.refused("rule 3", Check.INDEX, () -> s.timer(3, 1));
        Check.refused("rule -1", Check.INDEX, () -> s.timer(-1, 0));
        for (int bad : new int[] {0, 16, -1, FAR, LOW}) {
            Check.refused("count " + bad, Check.ARGUMENT, () -> s.timer(0, bad));
        }
        Check.done("timer 0", () -> s.timer(0, 1));
        Check.refused("the rule is a timer's", Check.STATE, () -> s.timer(0, 2));
        Check.refused("the rule is a timer's, no count", Check.ARGUMENT, () -> s.timer(0, 16));
        Check.done("timer 1", () -> s.timer(2, 15));
        Check.refused("timer 2", Check.STATE, () -> s.timer(1, 1));
        Check.due("count 0", 1, () -> s.state(7, 0));
        Check.due("count 1", 15, () -> s.state(7, 1));
        Check.refused("no count 2", Check.INDEX, () -> s.state(7, 2));
    }

    private interface Build {
        void into(StoryStates s);
    }

    private static void buildingStartsAnew() {
        startsAnew("room", s -> s.room());
        startsAnew("exit", s -> s.exit(0, 0, 1, -1));
        startsAnew("thing", s -> s.thing(6, 0));
        startsAnew("number", s -> s.number(0, 1));
        startsAnew("ending", s -> s.ending(false));
        startsAnew("rule", s -> s.rule(7, 5, 5, 0));
        startsAnew("condition", s -> s.condition(0, 0, 0, 0));
        startsAnew("effect", s -> s.effect(0, 0, 0, 0));
        startsAnew("walker", s -> s.walker(1, 0, 0, 0));
        startsAnew("timer", s -> s.timer(0, 1));
    }

    private static void startsAnew(String name, Build build) {
        StoryStates s = small();
        s.command(1, 0, -1);
        s.explore(1000);
        build.into(s);
        Check.due(name + ": no turns", 0, () -> s.state(5, 0));
        Check.due(name + ": the first state", 0, () -> s.state(1, 0));
        Check.due(name + ": nothing said", -1, () -> s.said(0));
        Check.due(name + ": nothing to undo", 0, () -> s.undo());
        Check.due(name + ": nothing explored", 1, () -> s.study(0, 0));
        Check.due(name + ": not finished", 2, () -> s.study(1, 0));
        Check.due(name + ": explores from the start", 0, () -> s.explore(0));
    }

    private static void refusedCallsChangeNothing() {
        changesNothing("exit", s -> s.exit(0, 4, 0, -1));
        changesNothing("thing", s -> s.thing(0, 5));
        changesNothing("number", s -> s.number(2, 1));
        changesNothing("rule", s -> s.rule(9, 0, 0, 0));
        changesNothing("condition", s -> s.condition(0, 2, 0, 2));
        changesNothing("effect", s -> s.effect(0, 3, 0, 8));
        changesNothing("walker", s -> s.walker(0, 0, 0, 2));
        changesNothing("timer", s -> s.timer(0, 16));
        changesNothing("command", s -> s.command(1, 0, 0));
        changesNothing("state", s -> s.state(9, 0));
        changesNothing("explore", s -> s.explore(1001));
        changesNothing("reach", s -> s.reach(1, false));
        changesNothing("way", s -> s.way(-1, 0, 0));
        changesNothing("study", s -> s.study(5, 0));
    }

    private static void changesNothing(String name, Build build) {
        StoryStates s = small();
        s.explore(1000);
        int found = s.study(0, 0);
        s.command(1, 0, -1);
        Check.count(name + " is refused", "true",
                String.valueOf(Check.outcomeOfDeed(() -> build.into(s)).startsWith("throws.")));
        Check.due(name + ": the turn stays", 1, () -> s.state(5, 0));
        Check.due(name + ": the state stays", 6, () -> s.state(1, 0));
        Check.due(name + ": what was said stays", 101, () -> s.said(0));
        Check.due(name + ": what was found stays", found, () -> s.study(0, 0));
        Check.due(name + ": it stays finished", 1, () -> s.explore(0));
        Check.due(name + ": the turn can be undone", 1, () -> s.undo());
    }
}
