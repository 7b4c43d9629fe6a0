/** The edges of a turn: each sentence of "Terms" that names one, just inside of it and just outside. */
public final class TurnBoundsTest {
    private static final Setting EMPTY = Settings.EMPTY;

    public static void main(String[] args) {
        thePlayerIsInRoomZeroAtFirst();
        allPartsOfAStateStandApart();
        seenThroughOpenThings();
        seenInRoomOrHands();
        numbersOrMore();
        numbersOrLess();
        numbersGrow();
        thingsGoToAllPlaces();
        thingsIntoThemselves();
        thingsIntoWhatIsInThem();
        openOrNot();
        effectsUpToTheEnd();
        firstRuleFits();
        anyAndNone();
        rulesOfDirections();
        conditionsAreAllSo();
        thingsInTheCommandAreSeen();
        directionsAreNoThings();
        goThroughExits();
        takeIsRefused();
        takeIsDone();
        dropIsRefused();
        dropIsDone();
        openIsRefused();
        closeIsRefused();
        putIsRefused();
        putIsDone();
        putIntoWhatIsInIt();
        ownVerbsAreRefused();
        refusedTurnsPass();
        walkersStepFromTwoToZero();
        walkersInRoomsAlone();
        walkersInTheirOrder();
        timersCountDown();
        timersAtZero();
        timersWhoseConditionsAreNotSo();
        timersInTheirOrder();
        nothingWalksWhenItIsOver();
        noTimerWhenItIsOver();
        timersRulesFitNoCommand();
        Check.end("TurnBoundsTest");
    }

    private static void is(String name, StoryStates s, int what, int x, int want) {
        Check.due(name + ": state(" + what + ", " + x + ")", want, () -> s.state(what, x));
    }

    /** A turn that says just this. */
    private static void turn(String name, StoryStates s, int verb, int a, int b, int... texts) {
        Check.due(name + ": how many texts", texts.length, () -> s.command(verb, a, b));
        for (int i = 0; i < texts.length; i++) {
            int at = i;
            Check.due(name + ": text " + i, texts[i], () -> s.said(at));
        }
    }

    /** "99 is said, and nothing is done": only the turns have grown. */
    private static void refusedTurn(String name, Setting in, int verb, int a, int b) {
        StoryStates s = in.make();
        String before = Look.parts(s);
        int turns = s.state(5, 0);
        turn(name, s, verb, a, b, 99);
        Check.count(name + ": nothing is done", before, Look.parts(s));
        is(name, s, 5, 0, turns + 1);
    }

    private static Setting after(Setting in, int verb, int a, int b) {
        return in.then("command(" + verb + ", " + a + ", " + b + ")", s -> s.command(verb, a, b));
    }

    private static StoryStates rooms(int count) {
        StoryStates s = EMPTY.make();
        addRooms(s, count);
        return s;
    }

    private static void addRooms(StoryStates s, int count) {
        for (int i = 0; i < count; i++) {
            s.room();
        }
    }

    private static StoryStates chain(int place, int kind) {
        return chained(place, kind).make();
    }

    /** Six things, each in the one before, the first at a place. */
    private static Setting chained(int place, int kind) {
        return EMPTY.then("six things, each in the one before", s -> {
            addRooms(s, 2);
            s.thing(place, kind);
            for (int i = 0; i < 5; i++) {
                s.thing(7 + i, kind);
            }
        });
    }

    private static void thePlayerIsInRoomZeroAtFirst() {
        Check.sentence("the player's room (0 at first) .. each walker's step (0 at first)");
        StoryStates s = rooms(6);
        is("six rooms", s, 0, 0, 0);
        s.thing(0, 0);
        s.thing(0, 0);
        s.walker(0, 5, 4, 3);
        s.walker(1, 5, 4, 3);
        is("first walker", s, 8, 0, 0);
        is("second walker", s, 8, 1, 0);
        is("not over", s, 4, 0, -1);
    }

    private static void allPartsOfAStateStandApart() {
        Check.sentence("A STATE: the player's room, each thing's place and whether it is open, each number, each walker's "
                + "step, each timer's count, and whether it is over, with which ending.");
        for (int high = 0; high <= 1; high++) {
            for (int x = 0; x < 6; x++) {
                changesOnly(high == 1, 0, x, 0, "state(0, 0)", x);
                for (int place = 0; place <= 12; place++) {
                    if (place != 7 + x) {
                        changesOnly(high == 1, 1, x, place, "state(1, " + x + ")", place);
                    }
                }
                changesOnly(high == 1, 2, x, 0, "state(2, " + x + ")", 0);
                changesOnly(high == 1, 2, x, 1, "state(2, " + x + ")", 1);
            }
            for (int x = 0; x < 3; x++) {
                changesOnly(high == 1, 3, x, high == 1 ? -7 : 7, "state(3, " + x + ")", high == 1 ? 0 : 7);
            }
            for (int x = 0; x < 4; x++) {
                changesOnly(high == 1, 4, x, 0, "state(4, 0)", x);
            }
        }
        for (int amount : new int[] {0, 4, 7}) {
            countsStandApart(15, 15, amount);
            countsStandApart(15, 1, amount);
            countsStandApart(1, 15, amount);
        }
    }

    /** All parts as low as can be, or as high, and verb 7 does one effect. */
    private static void changesOnly(boolean high, int kind, int x, int y, String part, int want) {
        StoryStates s = rooms(6);
        for (int thing = 0; thing < 6; thing++) {
            s.thing(high ? 6 : 0, high ? 7 : 0);
        }
        for (int number = 0; number < 3; number++) {
            s.number(high ? 7 : 0, 7);
        }
        for (int ending = 0; ending < 4; ending++) {
            s.ending(false);
        }
        s.exit(0, 0, high ? 5 : 0, -1);
        s.effect(s.rule(7, -1, -1, 0), kind, x, y);
        s.command(0, 0, -1);
        String[] before = Look.parts(s).split("\n");
        s.command(7, -1, -1);
        String[] after = Look.parts(s).split("\n");
        for (int i = 0; i < before.length; i++) {
            // whether things are seen hangs on other parts
            if (!before[i].startsWith("state(6,")) {
                String due = before[i].startsWith(part) ? part + " answers " + want : before[i];
                Check.count("effect " + kind + " " + x + " " + y + (high ? " high" : " low"), due, after[i]);
            }
        }
    }

    /** Steps and counts move beside numbers at 0 or at their most. */
    private static void countsStandApart(int first, int second, int amount) {
        StoryStates s = rooms(1);
        s.thing(0, 6);
        s.thing(0, 6);
        s.number(amount, 7);
        s.number(amount, 7);
        s.number(amount, 7);
        s.walker(0, 0, 0, 0);
        s.walker(1, 0, 0, 0);
        s.rule(8, -1, -1, 0);
        s.rule(8, -1, -1, 0);
        s.timer(0, first);
        s.timer(1, second);
        for (int turn = 0; turn < 16; turn++) {
            is("turn " + turn, s, 7, 0, Math.max(0, first - turn));
            is("turn " + turn, s, 7, 1, Math.max(0, second - turn));
            is("turn " + turn, s, 8, 0, turn % 3);
            is("turn " + turn, s, 8, 1, turn % 3);
            for (int number = 0; number < 3; number++) {
                is("turn " + turn, s, 3, number, amount);
            }
            is("turn " + turn, s, 4, 0, -1);
            s.command(6, -1, -1);
        }
    }

    private static void seenThroughOpenThings() {
        Check.sentence("A thing is SEEN when it is .. in a thing that is seen and open.");
        for (int place : new int[] {0, 6}) {
            for (int closed = 0; closed <= 6; closed++) {
                StoryStates s = chain(place, 7);
                s.rule(7, -1, -1, 0);
                if (closed < 6) {
                    s.effect(0, 2, closed, 0);
                }
                s.command(7, -1, -1);
                for (int thing = 0; thing < 6; thing++) {
                    is("closed " + closed + " at " + place, s, 6, thing, thing <= closed ? 1 : 0);
                }
            }
        }
        StoryStates far = chain(1, 7);
        for (int thing = 0; thing < 6; thing++) {
            is("in another room", far, 6, thing, 0);
        }
        StoryStates closed = chain(0, 0);
        for (int thing = 0; thing < 6; thing++) {
            is("none is open", closed, 6, thing, thing == 0 ? 1 : 0);
        }
    }

    private static void seenInRoomOrHands() {
        Check.sentence("A thing is SEEN when it is in the player's room or hands");
        for (int room = 0; room < 6; room++) {
            StoryStates s = rooms(6);
            s.thing(6, 0);
            for (int at = 0; at < 5; at++) {
                s.thing((room + at) % 6, 0);
            }
            s.exit(0, 0, room, -1);
            s.command(0, 0, -1);
            is("hands, in room " + room, s, 6, 0, 1);
            is("in room " + room, s, 6, 1, 1);
            for (int thing = 2; thing < 6; thing++) {
                is("not in room " + room, s, 6, thing, 0);
            }
        }
    }

    /** A number of so much, and a rule of WAIT with a condition on it. */
    private static int textWith(int amount, int kind, int y) {
        StoryStates s = rooms(1);
        s.number(amount, 7);
        s.rule(6, -1, -1, 7);
        s.condition(0, kind, 0, y);
        s.command(6, -1, -1);
        return s.said(0);
    }

    private static void numbersOrMore() {
        Check.sentence("3 number x is y or more");
        for (int amount = 0; amount <= 7; amount++) {
            for (int y = 0; y <= 7; y++) {
                int is = amount;
                int level = y;
                Check.due(is + " is " + level + " or more", is >= level ? 7 : 106, () -> textWith(is, 3, level));
            }
        }
    }

    private static void numbersOrLess() {
        Check.sentence("4 number x is y or less");
        for (int amount = 0; amount <= 7; amount++) {
            for (int y = 0; y <= 7; y++) {
                int is = amount;
                int level = y;
                Check.due(is + " is " + level + " or less", is <= level ? 7 : 106, () -> textWith(is, 4, level));
            }
        }
    }

    private static void numbersGrow() {
        Check.sentence("3 number x grows by y (-7 .. 7), to its most or 0 where it would go beyond");
        for (int most = 1; most <= 7; most++) {
            for (int first = 0; first <= most; first++) {
                for (int y = -7; y <= 7; y++) {
                    int sum = first + y;
                    int want = sum < 0 ? 0 : sum > most ? most : sum;
                    StoryStates s = rooms(1);
                    s.number(first, most);
                    s.effect(s.rule(6, -1, -1, 7), 3, 0, y);
                    s.command(6, -1, -1);
                    is(first + " of " + most + " grows by " + y, s, 3, 0, want);
                }
            }
        }
        StoryStates s = rooms(1);
        s.number(0, 2);
        s.effect(s.rule(7, -1, -1, 7), 3, 0, 1);
        s.effect(s.rule(8, -1, -1, 7), 3, 0, -1);
        int[] up = {1, 2, 2, 2};
        for (int want : up) {
            s.command(7, -1, -1);
            is("step by step to its most", s, 3, 0, want);
        }
        int[] down = {1, 0, 0, 0};
        for (int want : down) {
            s.command(8, -1, -1);
            is("step by step to 0", s, 3, 0, want);
        }
    }

    private static void thingsGoToAllPlaces() {
        Check.sentence("1 thing x is at place y (condition and effect)");
        for (int place = 0; place <= 11; place++) {
            StoryStates s = rooms(6);
            for (int thing = 0; thing < 6; thing++) {
                s.thing(6, 0);
            }
            s.effect(s.rule(7, -1, -1, 1), 1, 5, place);
            s.rule(8, -1, -1, 2);
            s.condition(1, 1, 5, place);
            turn("the effect", s, 7, -1, -1, 1);
            is("it is there", s, 1, 5, place);
            turn("the condition is so", s, 8, -1, -1, 2);
            s.begin();
            turn("at first it is not, but for the hands", s, 8, -1, -1, place == 6 ? 2 : 99);
        }
    }

    private static void thingsIntoThemselves() {
        Check.sentence("(nothing, if that is itself ..)");
        for (int thing = 0; thing < 6; thing++) {
            StoryStates s = rooms(2);
            for (int i = 0; i < 6; i++) {
                s.thing(1, 7);
            }
            s.number(0, 1);
            s.rule(7, -1, -1, 1);
            s.effect(0, 1, thing, 7 + thing);
            s.effect(0, 3, 0, 1);
            turn("its text is said", s, 7, -1, -1, 1);
            is("it stays where it was", s, 1, thing, 1);
            is("the effect behind is done", s, 3, 0, 1);
        }
    }

    private static void thingsIntoWhatIsInThem() {
        Check.sentence("(nothing, if that is .. in something in it at any depth)");
        for (int thing = 0; thing < 6; thing++) {
            for (int goal = 0; goal < 6; goal++) {
                StoryStates s = chain(0, 0);
                s.effect(s.rule(7, -1, -1, 1), 1, thing, 7 + goal);
                turn("its text is said", s, 7, -1, -1, 1);
                int before = thing == 0 ? 0 : 6 + thing;
                is(thing + " into " + goal, s, 1, thing, goal < thing ? 7 + goal : before);
            }
        }
        StoryStates out = chain(0, 0);
        out.rule(7, -1, -1, 1);
        out.effect(0, 1, 5, 6);
        out.effect(0, 1, 0, 12);
        turn("out of it first", out, 7, -1, -1, 1);
        is("then it goes in", out, 1, 0, 12);
    }

    private static void openOrNot() {
        Check.sentence("2 thing x is open (1) or not (0) (condition and effect)");
        for (int kind : new int[] {0, 1, 2, 3, 6, 7}) {
            for (int y = 0; y <= 1; y++) {
                StoryStates s = rooms(1);
                s.thing(0, kind);
                s.effect(s.rule(7, -1, -1, 1), 2, 0, y);
                s.rule(8, -1, -1, 2);
                s.condition(1, 2, 0, y);
                turn("at first", s, 8, -1, -1, kind / 4 == y ? 2 : 99);
                s.command(7, -1, -1);
                is("kind " + kind, s, 2, 0, y);
                turn("then", s, 8, -1, -1, 2);
            }
        }
    }

    private static void effectsUpToTheEnd() {
        Check.sentence("its effects are done in their order, up to one that makes the play over");
        for (int end = 0; end < 4; end++) {
            StoryStates s = rooms(1);
            s.number(0, 7);
            s.ending(true);
            s.rule(7, -1, -1, 1);
            for (int i = 0; i < 3; i++) {
                s.effect(0, i == end ? 4 : 3, 0, i == end ? 0 : 1 + i);
            }
            turn("the text", s, 7, -1, -1, 1);
            is("over at " + end, s, 4, 0, end < 3 ? 0 : -1);
            is("done before " + end, s, 3, 0, new int[] {0, 1, 3, 6}[end]);
        }
        StoryStates twice = rooms(1);
        twice.ending(true);
        twice.ending(false);
        twice.rule(7, -1, -1, 1);
        twice.effect(0, 4, 1, 0);
        twice.effect(0, 4, 0, 0);
        twice.command(7, -1, -1);
        is("the first ending stands", twice, 4, 0, 1);
        StoryStates order = rooms(1);
        order.number(6, 7);
        order.rule(7, -1, -1, 1);
        order.effect(0, 3, 0, 7);
        order.effect(0, 3, 0, -7);
        order.effect(0, 3, 0, 2);
        order.command(7, -1, -1);
        is("in their order", order, 3, 0, 2);
    }

    private static void firstRuleFits() {
        Check.sentence("The first rule FITS, by their numbers");
        for (int first = 0; first < 12; first++) {
            StoryStates s = rooms(2);
            for (int rule = 0; rule < 12; rule++) {
                s.rule(6, -1, -1, rule);
                if (rule < first) {
                    s.condition(rule, 0, 1, 0);
                }
            }
            turn("rule " + first + " is the first", s, 6, -1, -1, first);
        }
        StoryStates none = rooms(2);
        for (int rule = 0; rule < 12; rule++) {
            none.rule(6, -1, -1, rule);
            none.condition(rule, 0, 1, 0);
        }
        turn("none fits", none, 6, -1, -1, 106);
    }

    private static void anyAndNone() {
        Check.sentence("whose first and second each are ANY or the command's a and b");
        for (int first = -2; first <= 5; first++) {
            for (int second = -2; second <= 5; second++) {
                StoryStates s = rooms(1);
                for (int thing = 0; thing < 6; thing++) {
                    s.thing(0, 0);
                }
                s.rule(8, first, second, 1);
                for (int a = -1; a <= 5; a++) {
                    for (int b = -1; b <= 5; b++) {
                        boolean fits = (first == -2 || first == a) && (second == -2 || second == b);
                        turn(first + " " + second + " for " + a + " " + b, s, 8, a, b, fits ? 1 : 99);
                        s.undo();
                    }
                }
            }
        }
    }

    private static void rulesOfDirections() {
        Check.sentence("whose first and second each are ANY or the command's a and b (GO)");
        for (int first = -2; first <= 5; first++) {
            for (int second = -2; second <= 5; second++) {
                StoryStates s = rooms(1);
                s.rule(0, first, second, 1);
                for (int a = 0; a <= 3; a++) {
                    boolean fits = (first == -2 || first == a) && second <= -1;
                    turn("GO " + a + ", rule of " + first + " " + second, s, 0, a, -1, fits ? 1 : 99);
                }
            }
        }
    }

    private static void conditionsAreAllSo() {
        Check.sentence("whose conditions are all so (up to 3)");
        for (int so = 0; so < 8; so++) {
            StoryStates s = rooms(2);
            s.rule(6, -1, -1, 1);
            for (int i = 0; i < 3; i++) {
                s.condition(0, 0, (so >> i & 1) == 1 ? 0 : 1, 0);
            }
            turn("which are so: " + so, s, 6, -1, -1, so == 7 ? 1 : 106);
        }
        StoryStates without = rooms(1);
        without.rule(6, -1, -1, 1);
        turn("without conditions", without, 6, -1, -1, 1);
    }

    private static void thingsInTheCommandAreSeen() {
        Check.sentence("if all things in the command are seen");
        Setting ruled = EMPTY.then("a rule for each verb", s -> {
            addRooms(s, 2);
            s.thing(0, 1);
            s.thing(1, 1);
            for (int verb = 1; verb <= 8; verb++) {
                s.rule(verb, -2, -2, verb);
            }
        });
        for (int verb = 1; verb <= 4; verb++) {
            turn("seen", ruled.make(), verb, 0, -1, verb);
            refusedTurn("not seen", ruled, verb, 1, -1);
        }
        turn("both seen", ruled.make(), 5, 0, 0, 5);
        refusedTurn("a is not seen", ruled, 5, 1, 0);
        refusedTurn("b is not seen", ruled, 5, 0, 1);
        for (int verb = 7; verb <= 8; verb++) {
            turn("no things", ruled.make(), verb, -1, -1, verb);
            turn("a is seen", ruled.make(), verb, 0, -1, verb);
            turn("b is seen", ruled.make(), verb, -1, 0, verb);
            refusedTurn("a is not seen", ruled, verb, 1, -1);
            refusedTurn("b is not seen", ruled, verb, -1, 1);
            refusedTurn("one of two is not seen", ruled, verb, 0, 1);
            refusedTurn("the other of two is not seen", ruled, verb, 1, 0);
        }
    }

    private static void directionsAreNoThings() {
        Check.sentence("if all things in the command are seen (a direction is none)");
        StoryStates s = rooms(2);
        for (int thing = 0; thing < 4; thing++) {
            s.thing(1, 0);
        }
        s.rule(0, -2, -2, 1);
        for (int direction = 0; direction <= 3; direction++) {
            turn("GO " + direction, s, 0, direction, -1, 1);
        }
    }

    private static void goThroughExits() {
        Check.sentence("GO through an exit whose door, if it has one, is open");
        Setting hall = EMPTY.then("a hall", s -> {
            addRooms(s, 2);
            s.thing(0, 2);
            s.thing(1, 6);
            s.exit(0, 0, 1, 0);
            s.exit(0, 1, 1, 1);
            s.exit(0, 2, 1, -1);
        });
        refusedTurn("the door is not open", hall, 0, 0, -1);
        refusedTurn("there is no exit", hall, 0, 3, -1);
        goes("the door is open, though not seen", hall, 1);
        goes("without a door", hall, 2);
        goes("the door is open now", after(hall, 3, 0, -1), 0);
        for (int direction = 0; direction <= 3; direction++) {
            refusedTurn("no exit leads back", after(hall, 0, 2, -1), 0, direction, -1);
        }
    }

    private static void goes(String name, Setting in, int direction) {
        StoryStates s = in.make();
        turn(name, s, 0, direction, -1, 100);
        is(name, s, 0, 0, 1);
    }

    /** 0 in the hands, 1 in 0 (open), 2 here, not to be taken, 3 in 2 (closed), 4 in the other room, 5 here. */
    private static final Setting PANTRY = EMPTY.then("a pantry", s -> {
        addRooms(s, 2);
        s.thing(6, 7);
        s.thing(7, 3);
        s.thing(0, 2);
        s.thing(9, 3);
        s.thing(1, 3);
        s.thing(0, 1);
    });

    private static void takeIsRefused() {
        Check.sentence("TAKE a thing that is seen, may be taken and is not in the hands (place 6) .. If that can not be .. "
                + "99 is said, and nothing is done.");
        refusedTurn("it is in the hands", PANTRY, 1, 0, -1);
        refusedTurn("it may not be taken", PANTRY, 1, 2, -1);
        refusedTurn("it is in what is closed", PANTRY, 1, 3, -1);
        refusedTurn("it is in another room", PANTRY, 1, 4, -1);
        refusedTurn("it was taken before", after(PANTRY, 1, 5, -1), 1, 5, -1);
    }

    private static void takeIsDone() {
        Check.sentence("TAKE a thing that is seen, may be taken and is not in the hands (place 6) .. Then 100 + verb is said.");
        takes("it is in what is in the hands", PANTRY, 1);
        takes("it is here", PANTRY, 5);
        takes("it is in what is open now", after(PANTRY, 3, 2, -1), 3);
    }

    private static void takes(String name, Setting in, int thing) {
        StoryStates s = in.make();
        turn(name, s, 1, thing, -1, 101);
        is(name, s, 1, thing, 6);
    }

    private static void dropIsRefused() {
        Check.sentence("DROP one that is in the hands .. If that can not be .. 99 is said, and nothing is done.");
        refusedTurn("it is in what is in the hands", PANTRY, 2, 1, -1);
        refusedTurn("it is here", PANTRY, 2, 5, -1);
        refusedTurn("it is in another room", PANTRY, 2, 4, -1);
        refusedTurn("it is in what is closed", PANTRY, 2, 3, -1);
        refusedTurn("it was dropped before", after(PANTRY, 2, 0, -1), 2, 0, -1);
    }

    private static void dropIsDone() {
        Check.sentence("DROP one that is in the hands: it is in the player's room then");
        for (int room = 0; room < 6; room++) {
            StoryStates s = rooms(6);
            s.thing(6, 0);
            s.exit(0, 0, room, -1);
            s.command(0, 0, -1);
            turn("in room " + room, s, 2, 0, -1, 102);
            is("it is in the player's room", s, 1, 0, room);
        }
    }

    private static void openIsRefused() {
        Check.sentence("OPEN one that is seen, may be opened and is not open");
        refusedTurn("it is open", PANTRY, 3, 0, -1);
        refusedTurn("it may not be opened", PANTRY, 3, 5, -1);
        refusedTurn("it is in what is closed", PANTRY, 3, 3, -1);
        refusedTurn("it is in another room", PANTRY, 3, 4, -1);
        refusedTurn("it was opened before", after(PANTRY, 3, 2, -1), 3, 2, -1);
        turnsLid("it is here", PANTRY, 3, 2);
        turnsLid("it is in what is open", after(PANTRY, 3, 2, -1), 3, 3);
        turnsLid("it is in what is in the hands", PANTRY, 3, 1);
    }

    private static void closeIsRefused() {
        Check.sentence("(CLOSE) one that is seen, may be opened and .. (is open)");
        Setting shelf = EMPTY.then("a shelf", s -> {
            addRooms(s, 2);
            s.thing(0, 6);
            s.thing(0, 2);
            s.thing(1, 6);
            s.thing(8, 6);
            s.thing(0, 1);
            s.effect(s.rule(7, -1, -1, 1), 2, 4, 1);
        });
        refusedTurn("it is not open", shelf, 4, 1, -1);
        refusedTurn("it is in another room", shelf, 4, 2, -1);
        refusedTurn("it is in what is closed", shelf, 4, 3, -1);
        refusedTurn("it is open, but may not be opened", after(shelf, 7, -1, -1), 4, 4, -1);
        refusedTurn("it was closed before", after(shelf, 4, 0, -1), 4, 0, -1);
        turnsLid("it is here", shelf, 4, 0);
        turnsLid("it is in what is open", after(shelf, 3, 1, -1), 4, 3);
        turnsLid("it is in the hands", PANTRY, 4, 0);
    }

    private static void turnsLid(String name, Setting in, int verb, int thing) {
        StoryStates s = in.make();
        turn(name, s, verb, thing, -1, 100 + verb);
        is(name, s, 2, thing, verb == 3 ? 1 : 0);
    }

    /** 0 in the hands, 1 in it, 2 here, closed, 3 elsewhere, 4 of no lid, 5 in 2; verb 7 opens 4, verb 8 takes 1 out. */
    private static final Setting TABLE = EMPTY.then("a table", s -> {
        addRooms(s, 2);
        s.thing(6, 7);
        s.thing(7, 7);
        s.thing(0, 2);
        s.thing(1, 6);
        s.thing(0, 1);
        s.thing(9, 6);
        s.effect(s.rule(7, -1, -1, 1), 2, 4, 1);
        s.effect(s.rule(8, -1, -1, 1), 1, 1, 6);
    });

    private static void putIsRefused() {
        Check.sentence("PUT a b: a is in the hands, b is seen, may be opened, is open, is not a .. If that can not be .. 99 "
                + "is said, and nothing is done.");
        refusedTurn("a is in what is in the hands", TABLE, 5, 1, 0);
        refusedTurn("a is here", TABLE, 5, 4, 0);
        refusedTurn("a is in another room", TABLE, 5, 3, 0);
        refusedTurn("b is in another room", TABLE, 5, 0, 3);
        refusedTurn("b is in what is closed", TABLE, 5, 0, 5);
        refusedTurn("b may not be opened", TABLE, 5, 0, 4);
        refusedTurn("b is not open", TABLE, 5, 0, 2);
        refusedTurn("b is a", TABLE, 5, 0, 0);
        refusedTurn("b is in a", TABLE, 5, 0, 1);
        refusedTurn("b is open, but may not be opened", after(TABLE, 7, -1, -1), 5, 0, 4);
        refusedTurn("it was put before", after(after(TABLE, 3, 2, -1), 5, 0, 2), 5, 0, 2);
    }

    private static void putIsDone() {
        Check.sentence("PUT a b: .. a is in b then");
        puts("b is in the hands", after(TABLE, 8, -1, -1), 1, 0);
        puts("b was in a before", after(TABLE, 8, -1, -1), 0, 1);
        puts("b is here", after(TABLE, 3, 2, -1), 0, 2);
        puts("b is in what is open", after(TABLE, 3, 2, -1), 0, 5);
    }

    private static void puts(String name, Setting in, int thing, int box) {
        StoryStates s = in.make();
        turn(name, s, 5, thing, box, 105);
        is(name, s, 1, thing, 7 + box);
    }

    private static void putIntoWhatIsInIt() {
        Check.sentence("(a thing in something in it at any depth: not)");
        for (int depth = 0; depth < 6; depth++) {
            refusedTurn("into what is in it at depth " + depth, chained(6, 7), 5, 0, depth);
        }
        Setting out = after(chained(6, 7), 1, 5, -1);
        puts("the innermost is in the hands now", out, 0, 5);
        Setting turned = after(out, 5, 0, 5);
        for (int depth = 0; depth < 6; depth++) {
            refusedTurn("now the innermost is the outermost", turned, 5, 5, depth);
        }
    }

    private static void ownVerbsAreRefused() {
        Check.sentence("or the verb is one of the world's own, 99 is said, and nothing is done.");
        for (int verb = 7; verb <= 8; verb++) {
            refusedTurn("no things", PANTRY, verb, -1, -1);
            refusedTurn("one thing", PANTRY, verb, 0, -1);
            refusedTurn("two things", PANTRY, verb, 0, 5);
        }
        turn("WAIT is not", PANTRY.make(), 6, -1, -1, 106);
    }

    private static void refusedTurnsPass() {
        Check.sentence("99 is said, and nothing is done. Then .. each walker .. each timer");
        StoryStates s = rooms(2);
        s.thing(0, 1);
        s.walker(0, 0, 1, 1);
        s.timer(s.rule(8, -1, -1, 3), 2);
        turn("refused", s, 8, -1, -1, 99);
        is("the turn counts", s, 5, 0, 1);
        is("the walker walked", s, 1, 0, 1);
        is("the timer counted", s, 7, 0, 1);
        turn("refused again", s, 1, 0, -1, 99, 3);
    }

    private static void walkersStepFromTwoToZero() {
        Check.sentence("the step grows by 1, from 2 to 0, and the thing is in the room that it has for it");
        StoryStates s = rooms(6);
        s.thing(6, 0);
        s.thing(6, 0);
        s.walker(0, 5, 0, 3);
        s.walker(1, 2, 2, 4);
        int[][] wants = {{5, 2}, {0, 2}, {3, 4}};
        for (int turn = 0; turn <= 60; turn++) {
            is("turn " + turn, s, 8, 0, turn % 3);
            is("turn " + turn, s, 8, 1, turn % 3);
            is("turn " + turn, s, 1, 0, wants[turn % 3][0]);
            is("turn " + turn, s, 1, 1, wants[turn % 3][1]);
            if (turn < 60) {
                s.command(6, -1, -1);
            }
        }
    }

    private static void walkersInRoomsAlone() {
        Check.sentence("each walker .. whose thing's place is a room, makes a step");
        for (int place = 0; place <= 11; place++) {
            StoryStates s = rooms(6);
            for (int thing = 0; thing < 6; thing++) {
                s.thing(0, 0);
            }
            s.walker(5, 0, 4, 2);
            s.effect(s.rule(7, -1, -1, 1), 1, 5, place);
            s.command(7, -1, -1);
            is("moved to " + place, s, 8, 0, place < 6 ? 1 : 0);
            is("moved to " + place, s, 1, 5, place < 6 ? 4 : place);
            s.command(6, -1, -1);
            is("a turn later", s, 8, 0, place < 6 ? 2 : 0);
            is("a turn later", s, 1, 5, place < 6 ? 2 : place);
        }
        StoryStates carried = rooms(2);
        carried.thing(0, 1);
        carried.walker(0, 0, 1, 0);
        carried.command(6, -1, -1);
        carried.command(6, -1, -1);
        turn("taken at step 2", carried, 1, 0, -1, 101);
        is("no step", carried, 8, 0, 2);
        turn("dropped", carried, 2, 0, -1, 102);
        is("from 2 to 0", carried, 8, 0, 0);
        is("in its first room", carried, 1, 0, 0);
    }

    private static void walkersInTheirOrder() {
        Check.sentence("at most 2 walkers, each with a step of its own");
        StoryStates s = rooms(2);
        s.thing(0, 1);
        s.thing(0, 1);
        s.walker(1, 0, 1, 1);
        s.walker(0, 0, 0, 1);
        s.command(1, 0, -1);
        is("the first made walker is thing 1", s, 8, 0, 1);
        is("it walks", s, 1, 1, 1);
        is("the second is carried", s, 8, 1, 0);
        is("the second is carried", s, 1, 0, 6);
    }

    /** A timer whose rule says 50 and lets a number grow. */
    private static StoryStates clock(int count) {
        StoryStates s = rooms(2);
        s.exit(0, 0, 1, -1);
        s.number(0, 7);
        s.rule(7, -2, -2, 50);
        s.effect(0, 3, 0, 1);
        s.timer(0, count);
        return s;
    }

    private static void timersCountDown() {
        Check.sentence("the count gets less by 1; at 0, if the conditions of its rule are so, that is said and done");
        for (int count = 1; count <= 15; count++) {
            StoryStates s = clock(count);
            for (int turn = 1; turn < count; turn++) {
                turn("count " + count + ", turn " + turn, s, 6, -1, -1, 106);
                is("count " + count, s, 7, 0, count - turn);
                is("count " + count, s, 3, 0, 0);
            }
            turn("count " + count + " runs out", s, 6, -1, -1, 106, 50);
            is("count " + count, s, 7, 0, 0);
            is("count " + count, s, 3, 0, 1);
        }
    }

    private static void timersAtZero() {
        Check.sentence("each timer .. whose count is not 0");
        StoryStates s = clock(1);
        turn("it runs out", s, 6, -1, -1, 106, 50);
        for (int turn = 1; turn < 60; turn++) {
            turn("turn " + turn, s, 6, -1, -1, 106);
            is("turn " + turn, s, 7, 0, 0);
            is("turn " + turn, s, 3, 0, 1);
        }
        s.begin();
        is("begun", s, 7, 0, 1);
        turn("it runs out again", s, 6, -1, -1, 106, 50);
        s.undo();
        is("undone", s, 7, 0, 1);
        turn("and again", s, 6, -1, -1, 106, 50);
    }

    private static void timersWhoseConditionsAreNotSo() {
        Check.sentence("at 0, if the conditions of its rule are so (else nothing, and not later)");
        StoryStates s = clock(2);
        s.condition(0, 0, 1, 0);
        turn("count 1", s, 6, -1, -1, 106);
        turn("count 0, not there", s, 6, -1, -1, 106);
        is("count", s, 7, 0, 0);
        is("not done", s, 3, 0, 0);
        turn("there, too late", s, 0, 0, -1, 100);
        is("not done", s, 3, 0, 0);
        s.begin();
        turn("count 1", s, 6, -1, -1, 106);
        turn("count 0, just there", s, 0, 0, -1, 100, 50);
        is("done", s, 3, 0, 1);
    }

    private static void timersInTheirOrder() {
        Check.sentence("Then each timer, in their order");
        for (int first = 0; first <= 1; first++) {
            StoryStates s = rooms(1);
            s.number(0, 7);
            s.rule(7, -1, -1, 60);
            s.effect(0, 3, 0, 1);
            s.rule(7, -1, -1, 61);
            s.effect(1, 3, 0, 2);
            s.effect(1, 3, 0, -1);
            s.timer(first, 3);
            s.timer(1 - first, 3);
            Settings.waitFor(s, 2);
            turn("the first made speaks first", s, 6, -1, -1, 106, 60 + first, 61 - first);
        }
        StoryStates sees = rooms(1);
        sees.number(0, 7);
        sees.rule(7, -1, -1, 60);
        sees.condition(0, 3, 0, 1);
        sees.rule(7, -1, -1, 61);
        sees.effect(1, 3, 0, 1);
        sees.timer(1, 1);
        sees.timer(0, 1);
        turn("the second sees what the first did", sees, 6, -1, -1, 106, 61, 60);
    }

    /** Verb 7 ends the play, and so does timer 0 in a turn; a walker and timer 1 come along. */
    private static StoryStates deadline(int count) {
        StoryStates s = rooms(2);
        s.thing(0, 1);
        s.walker(0, 0, 1, 1);
        s.ending(true);
        s.ending(false);
        s.effect(s.rule(7, -1, -1, 70), 4, 0, 0);
        s.effect(s.rule(8, -1, -1, 71), 4, 1, 0);
        s.rule(8, -1, -1, 72);
        s.timer(1, count);
        s.timer(2, 1);
        return s;
    }

    private static void nothingWalksWhenItIsOver() {
        Check.sentence("Then, if the play is not over: each walker");
        StoryStates s = deadline(1);
        turn("over by a command", s, 7, -1, -1, 70);
        is("no step", s, 8, 0, 0);
        is("where it was", s, 1, 0, 0);
        is("the first timer stands", s, 7, 0, 1);
        is("the second timer stands", s, 7, 1, 1);
        is("with the command's ending", s, 4, 0, 0);
    }

    private static void noTimerWhenItIsOver() {
        Check.sentence("each timer .. (while the play is not over)");
        StoryStates s = deadline(1);
        turn("over by a timer", s, 6, -1, -1, 106, 71);
        is("its ending", s, 4, 0, 1);
        is("the walker came before", s, 8, 0, 1);
        is("the first ran out", s, 7, 0, 0);
        is("the second stands", s, 7, 1, 1);
        StoryStates later = deadline(2);
        turn("not over: both count", later, 6, -1, -1, 106, 72);
        is("the first", later, 7, 0, 1);
        is("the second", later, 7, 1, 0);
    }

    private static void timersRulesFitNoCommand() {
        Check.sentence("that is no timer's");
        StoryStates s = rooms(1);
        s.rule(7, -2, -2, 1);
        s.rule(7, -2, -2, 2);
        turn("before", s, 7, -1, -1, 1);
        s.timer(0, 15);
        turn("the next rule fits", s, 7, -1, -1, 2);
        s.timer(1, 15);
        turn("none fits", s, 7, -1, -1, 99);
    }
}
