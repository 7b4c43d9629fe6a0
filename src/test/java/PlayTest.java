/** Promises 13 to 17, and what a turn does. */
public final class PlayTest {
    public static void main(String[] args) {
        beginStartsThePlay();
        commandsAreLookedAt();
        turnsAreSixty();
        overIsNoTurn();
        saidTellsTheLastTurn();
        undoTakesTurnsBack();
        stateIsLookedAt();
        seeingGoesThroughOpenThings();
        goNeedsAnOpenDoor();
        takeAndDrop();
        openAndClose();
        putInto();
        ownVerbsAreRefused();
        rulesFitInOrder();
        rulesNeedThingsSeen();
        rulesMatchNoneAndAny();
        conditionsDecide();
        effectsAreDone();
        effectsStopAtTheEnd();
        nothingIsInItself();
        walkersWalk();
        timersRun();
        timersStopAtTheEnd();
        refusedTurnsPass();
        Check.end("PlayTest");
    }

    private static void turn(String name, StoryStates s, int verb, int a, int b, int... texts) {
        Check.due(name + ": how many texts", texts.length, () -> s.command(verb, a, b));
        for (int i = 0; i < texts.length; i++) {
            int at = i;
            Check.due(name + ": text " + i, texts[i], () -> s.said(at));
        }
        Check.due(name + ": no text more", -1, () -> s.said(texts.length));
    }

    private static void is(String name, StoryStates s, int what, int x, int want) {
        Check.due(name + ": state " + what + " " + x, want, () -> s.state(what, x));
    }

    private static StoryStates twoRooms() {
        StoryStates s = new StoryStates();
        s.room();
        s.room();
        s.exit(0, 1, 1, -1);
        s.exit(1, 3, 0, -1);
        return s;
    }

    private static void beginStartsThePlay() {
        StoryStates s = twoRooms();
        s.explore(1000);
        s.command(0, 1, -1);
        Check.done("begin", () -> s.begin());
        is("begun", s, 0, 0, 0);
        is("begun", s, 5, 0, 0);
        Check.due("nothing said", -1, () -> s.said(0));
        Check.due("nothing to undo", 0, () -> s.undo());
        Check.due("what was explored stays", 2, () -> s.study(0, 0));
        Check.due("and stays finished", 1, () -> s.explore(0));
        Check.done("begin again", () -> s.begin());
        StoryStates t = new StoryStates();
        t.thing(6, 1);
        Check.refused("begin without a room", Check.STATE, () -> t.begin());
    }

    private static void commandsAreLookedAt() {
        StoryStates s = twoRooms();
        s.thing(0, 1);
        s.thing(0, 3);
        int[][] wrong = {
            {-1, 0, -1}, {9, -1, -1}, {9, 0, 0}, {0, 4, -1}, {0, -1, -1}, {0, 0, 0}, {0, 0, -2},
            {1, 2, -1}, {1, -1, -1}, {1, 0, 0}, {2, 2, -1}, {2, 0, 1}, {3, -1, -1}, {3, 1, 0}, {4, 2, -1}, {4, 1, 1},
            {5, 0, -1}, {5, -1, 0}, {5, 0, 2}, {5, 2, 0}, {6, 0, -1}, {6, -1, 0}, {6, -2, -1},
            {7, 2, -1}, {7, -1, 2}, {7, -2, -1}, {8, -1, -2}, {8, 2, 2},
            {Integer.MAX_VALUE, 0, 0}, {Integer.MIN_VALUE, 0, 0}, {7, Integer.MAX_VALUE, 0}, {7, 0, Integer.MIN_VALUE},
        };
        for (int[] c : wrong) {
            Check.refused("command " + c[0] + " " + c[1] + " " + c[2], Check.ARGUMENT,
                    () -> s.command(c[0], c[1], c[2]));
        }
        is("no turn was taken", s, 5, 0, 0);
        int[][] right = {
            {0, 0, -1}, {0, 3, -1}, {1, 0, -1}, {2, 0, -1}, {3, 1, -1}, {4, 1, -1}, {5, 0, 1}, {5, 1, 1}, {6, -1, -1},
            {7, -1, -1}, {7, 1, -1}, {7, -1, 1}, {8, 1, 1}, {8, 0, 1},
        };
        for (int[] c : right) {
            Check.due("command " + c[0] + " " + c[1] + " " + c[2], 1, () -> s.command(c[0], c[1], c[2]));
        }
        is("all turns count", s, 5, 0, right.length);
        StoryStates t = new StoryStates();
        t.thing(6, 0);
        Check.refused("no room", Check.STATE, () -> t.command(2, 0, -1));
        Check.refused("no such command and no room", Check.ARGUMENT, () -> t.command(2, 1, -1));
    }

    private static void turnsAreSixty() {
        StoryStates s = twoRooms();
        for (int i = 0; i < 60; i++) {
            s.command(6, -1, -1);
        }
        is("sixty", s, 5, 0, 60);
        Check.refused("turn 60", Check.STATE, () -> s.command(6, -1, -1));
        Check.refused("no such command", Check.ARGUMENT, () -> s.command(6, 0, -1));
        Check.due("what was said stays", 106, () -> s.said(0));
        s.undo();
        turn("after an undo", s, 0, 1, -1, 100);
        is("sixty again", s, 5, 0, 60);
        is("in room 1", s, 0, 0, 1);
        s.begin();
        turn("after a begin", s, 6, -1, -1, 106);
    }

    private static void overIsNoTurn() {
        StoryStates s = twoRooms();
        s.ending(false);
        s.ending(true);
        s.rule(7, -2, -2, 40);
        s.effect(0, 4, 1, 0);
        is("not over", s, 4, 9, -1);
        turn("over", s, 7, -1, -1, 40);
        is("over", s, 4, 9, 1);
        Check.due("no turn", -1, () -> s.command(6, -1, -1));
        Check.due("nor this", -1, () -> s.command(7, -1, -1));
        Check.refused("the exceptions come before", Check.ARGUMENT, () -> s.command(7, 0, -1));
        is("one turn", s, 5, 0, 1);
        Check.due("what was said stays", 40, () -> s.said(0));
        Check.due("undo", 1, () -> s.undo());
        is("not over any more", s, 4, 9, -1);
        for (int i = 0; i < 59; i++) {
            s.command(6, -1, -1);
        }
        s.command(7, -1, -1);
        is("over at turn 60", s, 4, 0, 1);
        Check.refused("over, and 60 turns", Check.STATE, () -> s.command(6, -1, -1));
    }

    private static void saidTellsTheLastTurn() {
        StoryStates s = twoRooms();
        Check.due("before any turn", -1, () -> s.said(0));
        s.command(6, -1, -1);
        Check.due("text 0", 106, () -> s.said(0));
        Check.due("text 1", -1, () -> s.said(1));
        Check.due("text -1", -1, () -> s.said(-1));
        Check.due("text far", -1, () -> s.said(Integer.MAX_VALUE));
        Check.due("text low", -1, () -> s.said(Integer.MIN_VALUE));
        s.explore(1000);
        Check.due("exploring says nothing", 106, () -> s.said(0));
        s.command(0, 0, -1);
        Check.due("the next turn's", 99, () -> s.said(0));
        s.undo();
        Check.due("behind an undo", -1, () -> s.said(0));
        s.command(6, -1, -1);
        s.begin();
        Check.due("behind a begin", -1, () -> s.said(0));
    }

    private static void undoTakesTurnsBack() {
        StoryStates s = twoRooms();
        s.thing(0, 1);
        s.number(0, 7);
        s.rule(6, -1, -1, 3);
        s.effect(0, 3, 0, 1);
        s.walker(0, 0, 1, 1);
        s.rule(7, -1, -1, 4);
        s.timer(1, 3);
        Check.due("nothing to undo", 0, () -> s.undo());
        s.command(6, -1, -1);
        s.command(0, 1, -1);
        s.command(6, -1, -1);
        is("before", s, 3, 0, 2);
        is("before", s, 7, 0, 0);
        Check.due("undo 2", 1, () -> s.undo());
        is("one number", s, 3, 0, 1);
        is("one count", s, 7, 0, 1);
        is("step", s, 8, 0, 2);
        Check.due("undo 1", 1, () -> s.undo());
        is("room", s, 0, 0, 0);
        is("thing", s, 1, 0, 1);
        is("turns", s, 5, 0, 1);
        Check.due("undo 0", 1, () -> s.undo());
        is("number", s, 3, 0, 0);
        is("step", s, 8, 0, 0);
        is("thing", s, 1, 0, 0);
        is("turns", s, 5, 0, 0);
        Check.due("nothing more to undo", 0, () -> s.undo());
    }

    private static void stateIsLookedAt() {
        StoryStates s = twoRooms();
        s.thing(0, 6);
        s.number(2, 3);
        s.rule(7, -1, -1, 0);
        s.timer(0, 4);
        s.walker(0, 0, 1, 1);
        int[] wants = {0, 0, 1, 2, -1, 0, 1, 4, 0};
        for (int what = 0; what < 9; what++) {
            is("first", s, what, 0, wants[what]);
        }
        for (int what : new int[] {0, 4, 5}) {
            is("x does not matter", s, what, Integer.MIN_VALUE, wants[what]);
        }
        for (int what : new int[] {1, 2, 3, 6, 7, 8}) {
            for (int x : new int[] {1, -1, Integer.MAX_VALUE, Integer.MIN_VALUE}) {
                Check.refused("state " + what + " " + x, Check.INDEX, () -> s.state(what, x));
            }
        }
        for (int what : new int[] {-1, 9, Integer.MAX_VALUE, Integer.MIN_VALUE}) {
            Check.refused("state " + what, Check.ARGUMENT, () -> s.state(what, 9));
        }
        StoryStates t = new StoryStates();
        t.thing(6, 0);
        Check.refused("no room", Check.STATE, () -> t.state(1, 0));
        Check.refused("no room, no thing", Check.INDEX, () -> t.state(1, 1));
        Check.refused("no room, no what", Check.ARGUMENT, () -> t.state(9, 0));
    }

    private static void seeingGoesThroughOpenThings() {
        StoryStates s = twoRooms();
        s.thing(0, 6);
        s.thing(7, 2);
        s.thing(8, 1);
        s.thing(1, 0);
        s.thing(6, 2);
        s.thing(11, 1);
        is("in the room", s, 6, 0, 1);
        is("in an open thing", s, 6, 1, 1);
        is("in one that is not open", s, 6, 2, 0);
        is("in another room", s, 6, 3, 0);
        is("in the hands", s, 6, 4, 1);
        is("in a closed one in the hands", s, 6, 5, 0);
        s.command(3, 1, -1);
        is("in an open one in an open one", s, 6, 2, 1);
        s.command(4, 0, -1);
        is("the outer one is closed", s, 6, 1, 0);
        is("the outer one is closed", s, 6, 2, 0);
        s.command(3, 4, -1);
        s.command(0, 1, -1);
        is("left behind", s, 6, 0, 0);
        is("in the hands", s, 6, 5, 1);
        is("in this room", s, 6, 3, 1);
        StoryStates deep = twoRooms();
        deep.thing(0, 6);
        for (int i = 0; i < 5; i++) {
            deep.thing(7 + i, 6);
        }
        is("six deep", deep, 6, 5, 1);
        deep.command(4, 0, -1);
        is("six deep, the outermost closed", deep, 6, 5, 0);
    }

    private static void goNeedsAnOpenDoor() {
        StoryStates s = twoRooms();
        s.thing(0, 2);
        s.thing(0, 0);
        s.exit(0, 0, 1, 0);
        s.exit(0, 2, 1, 1);
        s.exit(1, 0, 0, 0);
        s.rule(7, -1, -1, 7);
        s.effect(0, 2, 1, 1);
        turn("no exit", s, 0, 3, -1, 99);
        turn("door not open", s, 0, 0, -1, 99);
        turn("a door that may not be opened", s, 0, 2, -1, 99);
        is("still there", s, 0, 0, 0);
        turn("open the door", s, 3, 0, -1, 103);
        turn("through the door", s, 0, 0, -1, 100);
        is("there", s, 0, 0, 1);
        turn("back through the same door, which is not seen", s, 0, 0, -1, 100);
        is("back", s, 0, 0, 0);
        turn("a rule opens the other", s, 7, -1, -1, 7);
        turn("through it", s, 0, 2, -1, 100);
        is("there again", s, 0, 0, 1);
    }

    private static void takeAndDrop() {
        StoryStates s = twoRooms();
        s.thing(0, 1);
        s.thing(0, 2);
        s.thing(8, 1);
        s.thing(1, 1);
        s.thing(6, 7);
        s.thing(11, 1);
        turn("take", s, 1, 0, -1, 101);
        is("in the hands", s, 1, 0, 6);
        turn("take again", s, 1, 0, -1, 99);
        turn("take what may not be taken", s, 1, 1, -1, 99);
        turn("take what is not seen", s, 1, 2, -1, 99);
        turn("take from another room", s, 1, 3, -1, 99);
        turn("drop what is in another room", s, 2, 3, -1, 99);
        turn("drop what is in a thing in the hands", s, 2, 5, -1, 99);
        turn("take it out of that", s, 1, 5, -1, 101);
        is("in the hands", s, 1, 5, 6);
        s.command(0, 1, -1);
        turn("drop", s, 2, 0, -1, 102);
        is("in the player's room", s, 1, 0, 1);
        turn("drop again", s, 2, 0, -1, 99);
        StoryStates t = twoRooms();
        t.thing(6, 0);
        turn("drop what may not be taken", t, 2, 0, -1, 102);
        turn("it can not be taken again", t, 1, 0, -1, 99);
    }

    private static void openAndClose() {
        StoryStates s = twoRooms();
        s.thing(0, 2);
        s.thing(0, 1);
        s.thing(1, 6);
        turn("close what is not open", s, 4, 0, -1, 99);
        turn("open", s, 3, 0, -1, 103);
        is("open", s, 2, 0, 1);
        turn("open again", s, 3, 0, -1, 99);
        turn("close", s, 4, 0, -1, 104);
        is("closed", s, 2, 0, 0);
        turn("open what may not be", s, 3, 1, -1, 99);
        turn("close what is not seen", s, 4, 2, -1, 99);
        is("it stays open", s, 2, 2, 1);
        s.command(0, 1, -1);
        turn("close what is seen", s, 4, 2, -1, 104);
        turn("open what is not seen", s, 3, 0, -1, 99);
    }

    private static void putInto() {
        StoryStates s = twoRooms();
        s.thing(6, 7);
        s.thing(6, 7);
        s.thing(0, 2);
        s.thing(0, 1);
        s.thing(6, 1);
        s.thing(1, 6);
        turn("into itself", s, 5, 0, 0, 99);
        turn("into one not open", s, 5, 0, 2, 99);
        turn("what is not in the hands", s, 5, 3, 0, 99);
        turn("into what may not be opened", s, 5, 0, 4, 99);
        turn("into what is not seen", s, 5, 0, 5, 99);
        turn("into", s, 5, 0, 1, 105);
        is("in it", s, 1, 0, 8);
        turn("what is in what is in the hands", s, 5, 0, 2, 99);
        turn("into what is in it", s, 5, 1, 0, 99);
        turn("a third into the first", s, 5, 4, 0, 105);
        is("in the first", s, 1, 4, 7);
        turn("open the box", s, 3, 2, -1, 103);
        turn("all into the box", s, 5, 1, 2, 105);
        is("in the box", s, 1, 1, 9);
        is("still in it", s, 1, 0, 8);
        is("seen at depth 3", s, 6, 4, 1);
        StoryStates t = twoRooms();
        t.thing(6, 7);
        t.thing(7, 7);
        t.thing(8, 7);
        turn("into something in it at depth 2", t, 5, 0, 2, 99);
        is("in the hands still", t, 1, 0, 6);
        StoryStates u = twoRooms();
        u.thing(6, 1);
        u.thing(0, 1);
        u.rule(7, -1, -1, 0);
        u.effect(0, 2, 1, 1);
        u.command(7, -1, -1);
        is("open by a rule", u, 2, 1, 1);
        turn("into what is open, but may not be opened", u, 5, 0, 1, 99);
        turn("nor may it be closed", u, 4, 1, -1, 99);
    }

    private static void ownVerbsAreRefused() {
        StoryStates s = twoRooms();
        s.thing(0, 1);
        turn("verb 7", s, 7, 0, -1, 99);
        turn("verb 8", s, 8, -1, 0, 99);
        turn("wait", s, 6, -1, -1, 106);
    }

    private static void rulesFitInOrder() {
        StoryStates s = twoRooms();
        s.thing(0, 1);
        s.number(0, 7);
        s.rule(6, -1, -1, 10);
        s.condition(0, 3, 0, 2);
        s.rule(6, -2, -2, 11);
        s.effect(1, 3, 0, 1);
        s.rule(6, -1, -1, 12);
        s.rule(1, 0, -1, 0);
        turn("the first's condition is not so", s, 6, -1, -1, 11);
        turn("still not", s, 6, -1, -1, 11);
        turn("now it is", s, 6, -1, -1, 10);
        is("the second was done twice", s, 3, 0, 2);
        turn("a rule in place of TAKE, text 0", s, 1, 0, -1, 0);
        is("it was not taken", s, 1, 0, 0);
    }

    private static void rulesNeedThingsSeen() {
        StoryStates s = twoRooms();
        s.thing(1, 1);
        s.thing(0, 1);
        s.rule(7, -2, -2, 20);
        s.rule(1, -2, -2, 21);
        s.rule(0, -2, -2, 22);
        s.condition(2, 0, 1, 0);
        turn("a is not seen", s, 7, 0, -1, 99);
        turn("b is not seen", s, 7, 1, 0, 99);
        turn("take what is not seen", s, 1, 0, -1, 99);
        turn("all seen", s, 7, 1, 1, 20);
        turn("no things", s, 7, -1, -1, 20);
        turn("go to the other room", s, 0, 1, -1, 100);
        turn("now it is seen", s, 7, 0, -1, 20);
        turn("a direction is no thing: 1 is not seen", s, 0, 1, -1, 22);
        is("the rule kept the player", s, 0, 0, 1);
    }

    private static void rulesMatchNoneAndAny() {
        StoryStates s = twoRooms();
        s.thing(0, 1);
        s.thing(0, 1);
        s.rule(7, -1, -1, 30);
        s.rule(7, 0, -1, 31);
        s.rule(7, -1, 1, 32);
        s.rule(7, 0, -2, 33);
        s.rule(8, -2, 1, 34);
        s.rule(0, 3, -1, 35);
        s.rule(0, 2, 0, 36);
        s.rule(1, 5, -2, 37);
        turn("none, none", s, 7, -1, -1, 30);
        turn("0, none", s, 7, 0, -1, 31);
        turn("none, 1", s, 7, -1, 1, 32);
        turn("0, 1", s, 7, 0, 1, 33);
        turn("1, 1", s, 7, 1, 1, 99);
        turn("1, none", s, 7, 1, -1, 99);
        turn("none, 0", s, 7, -1, 0, 99);
        turn("any, 1: none", s, 8, -1, 1, 34);
        turn("any, 1: 0", s, 8, 0, 1, 34);
        turn("any, 0", s, 8, 0, 0, 99);
        turn("go 3", s, 0, 3, -1, 35);
        turn("go 2 has no second", s, 0, 2, -1, 99);
    }

    private static void conditionsDecide() {
        conditionDecides("in room 0", 0, 0, 5, true);
        conditionDecides("in room 1", 0, 1, 5, false);
        conditionDecides("thing at its place", 1, 0, 6, true);
        conditionDecides("thing at another place", 1, 0, 0, false);
        conditionDecides("thing in a thing", 1, 2, 8, true);
        conditionDecides("thing in another thing", 1, 2, 7, false);
        conditionDecides("in what holds what it is in: not", 1, 2, 0, false);
        conditionDecides("open", 2, 1, 1, true);
        conditionDecides("not open", 2, 1, 0, false);
        conditionDecides("open, is not", 2, 0, 1, false);
        conditionDecides("not open, is not", 2, 0, 0, true);
        conditionDecides("3 or more", 3, 0, 3, true);
        conditionDecides("2 or more", 3, 0, 2, true);
        conditionDecides("4 or more", 3, 0, 4, false);
        conditionDecides("3 or less", 4, 0, 3, true);
        conditionDecides("4 or less", 4, 0, 4, true);
        conditionDecides("2 or less", 4, 0, 2, false);
    }

    private static void conditionDecides(String name, int kind, int x, int y, boolean so) {
        StoryStates s = conditioned();
        s.condition(0, kind, x, y);
        turn(name, s, 6, -1, -1, so ? 50 : 106);
        StoryStates t = conditioned();
        t.condition(0, 0, 0, 0);
        t.condition(0, kind, x, y);
        t.condition(0, 4, 0, 7);
        turn(name + " among three", t, 6, -1, -1, so ? 50 : 106);
    }

    private static StoryStates conditioned() {
        StoryStates s = twoRooms();
        s.thing(6, 3);
        s.thing(0, 6);
        s.thing(8, 1);
        s.number(3, 5);
        s.rule(6, -1, -1, 50);
        return s;
    }

    private static void effectsAreDone() {
        StoryStates s = twoRooms();
        s.thing(0, 0);
        s.thing(0, 0);
        s.number(3, 5);
        s.number(4, 7);
        s.rule(7, -1, -1, 1);
        s.effect(0, 0, 1, 9);
        s.effect(0, 1, 0, 6);
        s.effect(0, 2, 1, 1);
        s.rule(7, -1, 0, 2);
        s.effect(1, 3, 0, 7);
        s.effect(1, 3, 1, -7);
        s.effect(1, 1, 0, 8);
        s.rule(7, 0, -1, 3);
        s.effect(2, 3, 0, -2);
        s.effect(2, 3, 1, 2);
        s.effect(2, 2, 1, 0);
        turn("rule 0", s, 7, -1, -1, 1);
        is("room", s, 0, 0, 1);
        is("place", s, 1, 0, 6);
        is("open, though it may not be opened", s, 2, 1, 1);
        turn("rule 1", s, 7, -1, 0, 2);
        is("to its most", s, 3, 0, 5);
        is("to 0", s, 3, 1, 0);
        is("in a thing of any kind", s, 1, 0, 8);
        s.undo();
        turn("rule 2", s, 7, 0, -1, 3);
        is("less", s, 3, 0, 1);
        is("more", s, 3, 1, 6);
        is("not open", s, 2, 1, 0);
        is("an open thing of no lid lets see", s, 6, 0, 1);
    }

    private static void effectsStopAtTheEnd() {
        StoryStates s = twoRooms();
        s.number(0, 7);
        s.ending(false);
        s.ending(false);
        s.rule(6, -1, -1, 1);
        s.effect(0, 3, 0, 1);
        s.effect(0, 4, 1, 0);
        s.effect(0, 4, 0, 0);
        s.rule(7, -1, -1, 2);
        s.effect(1, 4, 0, 0);
        s.effect(1, 3, 0, 5);
        s.effect(1, 0, 1, 0);
        turn("over at the second effect", s, 6, -1, -1, 1);
        is("the first was done", s, 3, 0, 1);
        is("the third was not", s, 4, 0, 1);
        s.undo();
        turn("over at the first effect", s, 7, -1, -1, 2);
        is("ending", s, 4, 0, 0);
        is("number", s, 3, 0, 0);
        is("room", s, 0, 0, 0);
    }

    private static void nothingIsInItself() {
        StoryStates s = twoRooms();
        s.thing(0, 7);
        s.thing(7, 7);
        s.thing(8, 7);
        s.number(0, 7);
        s.rule(7, -1, -1, 1);
        s.effect(0, 1, 0, 7);
        s.effect(0, 1, 0, 9);
        s.effect(0, 3, 0, 1);
        s.rule(8, -1, -1, 2);
        s.effect(1, 1, 1, 6);
        s.effect(1, 1, 0, 9);
        turn("into itself, and into what is in it at depth 2", s, 7, -1, -1, 1);
        is("it stays", s, 1, 0, 0);
        is("the effect behind is done", s, 3, 0, 1);
        turn("out of it first", s, 8, -1, -1, 2);
        is("the inner one is in the hands", s, 1, 1, 6);
        is("the outer one is in what was in it", s, 1, 0, 9);
    }

    private static void walkersWalk() {
        StoryStates s = twoRooms();
        s.room();
        s.thing(6, 1);
        s.thing(0, 7);
        s.walker(0, 0, 1, 2);
        s.walker(1, 2, 2, 0);
        is("first room", s, 1, 0, 0);
        turn("1", s, 6, -1, -1, 106);
        is("second room", s, 1, 0, 1);
        is("step", s, 8, 0, 1);
        is("second room of the other", s, 1, 1, 2);
        turn("2", s, 6, -1, -1, 106);
        is("third room", s, 1, 0, 2);
        is("step", s, 8, 0, 2);
        is("third room of the other", s, 1, 1, 0);
        turn("3", s, 6, -1, -1, 106);
        is("first room again", s, 1, 0, 0);
        is("step", s, 8, 0, 0);
        turn("taken", s, 1, 0, -1, 101);
        is("carried: it does not walk", s, 1, 0, 6);
        is("carried: no step", s, 8, 0, 0);
        is("the other walks", s, 8, 1, 1);
        turn("dropped", s, 2, 0, -1, 102);
        is("it walks from the step that it had", s, 1, 0, 1);
        is("step", s, 8, 0, 1);
    }

    private static void timersRun() {
        StoryStates s = twoRooms();
        s.number(0, 7);
        s.rule(6, -2, -2, 60);
        s.effect(0, 3, 0, 1);
        s.rule(6, -2, -2, 61);
        s.condition(1, 3, 0, 2);
        s.timer(0, 2);
        s.timer(1, 3);
        turn("a timer's rule does not fit a command", s, 6, -1, -1, 106);
        is("count 0", s, 7, 0, 1);
        is("count 1", s, 7, 1, 2);
        turn("the first timer", s, 6, -1, -1, 106, 60);
        is("number", s, 3, 0, 1);
        turn("the second's condition is not so", s, 6, -1, -1, 106);
        is("count 1", s, 7, 1, 0);
        turn("no count below 0", s, 6, -1, -1, 106);
        is("count 0", s, 7, 0, 0);
        StoryStates t = twoRooms();
        t.number(0, 7);
        t.rule(7, -2, -2, 70);
        t.effect(0, 3, 0, 1);
        t.rule(7, -2, -2, 71);
        t.condition(1, 3, 0, 1);
        t.rule(6, -2, -2, 72);
        t.timer(1, 1);
        t.timer(0, 1);
        turn("timers in the order of their making", t, 6, -1, -1, 72, 70);
        StoryStates u = twoRooms();
        u.number(0, 7);
        u.rule(7, -2, -2, 70);
        u.effect(0, 3, 0, 1);
        u.rule(7, -2, -2, 71);
        u.condition(1, 3, 0, 1);
        u.timer(0, 1);
        u.timer(1, 1);
        turn("three texts, the second timer sees what the first did", u, 6, -1, -1, 106, 70, 71);
    }

    private static void timersStopAtTheEnd() {
        StoryStates s = twoRooms();
        s.thing(0, 1);
        s.walker(0, 0, 1, 1);
        s.ending(true);
        s.rule(7, -1, -1, 1);
        s.effect(0, 4, 0, 0);
        s.rule(8, -1, -1, 2);
        s.effect(1, 4, 0, 0);
        s.rule(8, -1, -1, 3);
        s.timer(1, 1);
        s.timer(2, 1);
        turn("over by a command", s, 7, -1, -1, 1);
        is("no walker walks", s, 8, 0, 0);
        is("no timer runs", s, 7, 0, 1);
        s.undo();
        turn("over by a timer", s, 6, -1, -1, 106, 2);
        is("over", s, 4, 0, 0);
        is("walkers come before", s, 8, 0, 1);
        is("the first ran", s, 7, 0, 0);
        is("the second did not", s, 7, 1, 1);
    }

    private static void refusedTurnsPass() {
        StoryStates s = twoRooms();
        s.thing(0, 1);
        s.walker(0, 0, 1, 1);
        s.rule(8, -1, -1, 3);
        s.timer(0, 2);
        turn("refused", s, 0, 0, -1, 99);
        is("the turn counts", s, 5, 0, 1);
        is("the walker walked", s, 8, 0, 1);
        is("the timer ran", s, 7, 0, 1);
        turn("refused again", s, 7, -1, -1, 99, 3);
    }
}
