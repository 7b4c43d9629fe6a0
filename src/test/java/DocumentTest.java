import java.nio.file.Files;
import java.nio.file.Path;
import java.util.Collections;
import java.util.TreeSet;

/**
 * The document from its first line to its last: all its words, in their order, each sentence with calls whose
 * answers were worked out by hand from these words alone.
 */
public final class DocumentTest {
    private static Walk walk;

    public static void main(String[] args) throws Exception {
        walk = new Walk(Files.readString(Path.of("../shared/DOC.md")));
        whatItIs();
        thePublicFace();
        howMuchAWorldHas();
        placesAndKinds();
        exitsNumbersWalkersTimers();
        rulesAndConditions();
        effects();
        states();
        commands();
        whichRuleFits();
        whatARuleDoes();
        whenNoneFits();
        putAndWait();
        whatCanNotBe();
        walkersAndTimersInATurn();
        exploring();
        building();
        throwing();
        promisesOneToThree();
        promisesFourAndFive();
        promisesSixToEight();
        promisesNineAndTen();
        promisesElevenAndTwelve();
        promisesThirteenAndFourteen();
        promisesFifteenAndSixteen();
        promiseSeventeen();
        promiseEighteen();
        promiseNineteen();
        promiseTwenty();
        promiseTwentyOne();
        notPromised();
        walk.end();
        Check.end("DocumentTest");
    }

    private static void words(String words) {
        walk.words(words);
    }

    private static StoryStates run(String... calls) {
        return Walk.run(calls);
    }

    private static String times(int count, String call) {
        return String.join("; ", Collections.nCopies(count, call));
    }

    private static void whatItIs() {
        walk.pass("# StoryStates ## What it is");
        words("Small worlds of rooms, things and rules that are played turn by turn, and of which all states that any "
                + "commands can lead to are found: which endings can come and by which shortest commands, from where "
                + "no good one can come any more, which turn of this play spoiled it, and which rules never fire.");
        // a glass, in the hands or on the floor, whole or broken, makes 4 states; the toast comes from both whole ones
        run("room; thing 6 1; number 0 1; ending true; ending false; rule 7 0 -1 1; effect 0 3 0 1",
                "rule 8 0 -1 2; condition 1 4 0 0; effect 1 4 0 0; rule 8 -1 0 3; condition 2 3 0 2; effect 2 4 1 0",
                "explore 1000 = 1; study 0 0 = 6; reach 0 false = 1; reach 1 false = 0",
                "reach 0 true = 1; way 0 0 0 = 8; way 0 0 1 = 0; way 0 0 2 = -1; way 0 1 0 = -1",
                "command 6 -1 -1 says 106; study 1 0 = 0; command 7 0 -1 says 1; study 1 0 = 1; study 2 0 = 1",
                "command 6 -1 -1 says 106; study 2 0 = 1; study 4 0 = 2; study 4 1 = -1");
        words("An object is used for at most 512 calls after it has been made; what later calls answer is free.");
        StoryStates s = new StoryStates();
        int calls = 0;
        for (int round = 0; round < 56; round++) {
            Walk.go(s, "room = 0; thing 0 1 = 0; explore 9 = 1; study 0 0 = 2; command 1 0 -1 = 1; said 0 = 101",
                    "undo = true; state 1 0 = 0; clear");
            calls += 9;
        }
        Walk.go(s, "room = 0; thing 0 1 = 0; thing 0 1 = 1; explore 1000 = 1; study 0 0 = 4; command 1 1 -1 = 1",
                "state 1 1 = 6; study 1 0 = 1");
        Check.count("calls", "512", String.valueOf(calls + 8));
    }

    private static void thePublicFace() {
        walk.pass("## The public face ```java");
        words("public final class StoryStates {");
        TreeSet<String> face = new TreeSet<>();
        for (String member : walk.passTo("} ```").replace("} ```", "").trim().split("; ?")) {
            face.add(member.replace("public ", "").replaceAll("\\b(int|boolean) \\w+(?=[,)])", "$1")
                    .replace(", ", ","));
        }
        face.remove("static final int NONE = -1");
        face.remove("static final int ANY = -2");
        face.remove("StoryStates()");
        Check.count("methods of the document", String.valueOf(FaceTest.methodsOf(StoryStates.class)), face.toString());
    }

    private static void howMuchAWorldHas() {
        walk.pass("## Terms");
        words("A WORLD has ROOMS 0 .. (at most 6),");
        run("room = 0; room = 1; room = 2; room = 3; room = 4; room = 5; room throws State");
        words("THINGS 0 .. (at most 6),");
        run("thing 6 0 = 0; thing 6 0 = 1; thing 6 0 = 2; thing 6 0 = 3; thing 6 0 = 4; thing 6 0 = 5",
                "thing 6 0 throws State");
        words("NUMBERS 0 .. (at most 3),");
        run("number 0 1 = 0; number 0 1 = 1; number 0 1 = 2; number 0 1 throws State");
        words("ENDINGS 0 .. (at most 4, each good or not),");
        run("ending true = 0; ending false = 1; ending true = 2; ending false = 3; ending true throws State");
        run("room; ending false; ending true; rule 7 -1 -1 0; rule 8 -1 -1 0; effect 0 4 0 0; effect 1 4 1 0",
                "explore 3 = 1; command 7 -1 -1 = 1; study 1 0 = 1; undo; command 8 -1 -1 = 1; study 1 0 = 0");
        words("RULES 0 .. (at most 12),");
        run("rule 0 0 0 0 = 0; rule 0 0 0 0 = 1; rule 0 0 0 0 = 2; rule 0 0 0 0 = 3; rule 0 0 0 0 = 4",
                "rule 0 0 0 0 = 5; rule 0 0 0 0 = 6; rule 0 0 0 0 = 7; rule 0 0 0 0 = 8; rule 0 0 0 0 = 9",
                "rule 0 0 0 0 = 10; rule 0 0 0 0 = 11; rule 0 0 0 0 throws State");
        words("WALKERS and TIMERS (at most 2 each).");
        run("room; thing 0 0; thing 0 0; thing 0 0; walker 0 0 0 0; walker 1 0 0 0; walker 2 0 0 0 throws State",
                "state 8 1 = 0; state 8 2 throws Index");
        run("room; rule 0 0 0 0; rule 0 0 0 0; rule 0 0 0 0; timer 0 1; timer 1 2; timer 2 3 throws State",
                "state 7 1 = 2; state 7 2 throws Index");
    }

    private static void placesAndKinds() {
        words("PLACES: 0 .. 5 a room, 6 the PLAYER's hands, 7 + t in thing t.");
        run(times(6, "room"), "thing 0 0; thing 5 0; thing 6 6; thing 9 0; thing 7 0",
                "state 1 0 = 0; state 1 1 = 5; state 1 2 = 6; state 1 3 = 9; state 1 4 = 7",
                "state 6 0 = 1; state 6 1 = 0; state 6 2 = 1; state 6 3 = 1; state 6 4 = 0",
                "command 2 2 -1 says 102; command 2 0 -1 says 99");
        words("KINDS of things, a sum: 1 one may TAKE it,");
        run("room; thing 0 0; thing 0 1; thing 0 2; thing 0 3; thing 0 6; thing 0 7",
                "command 1 0 -1 says 99; command 1 1 -1 says 101; command 1 2 -1 says 99; command 1 3 -1 says 101",
                "command 1 4 -1 says 99; command 1 5 -1 says 101");
        words("2 it may be OPENED and closed (and have things in it),");
        run("room; thing 0 0; thing 0 1; thing 0 2; thing 0 3; thing 0 6; thing 6 7",
                "command 3 0 -1 says 99; command 3 1 -1 says 99; command 3 2 -1 says 103; command 3 3 -1 says 103",
                "command 4 0 -1 says 99; command 4 1 -1 says 99; command 4 2 -1 says 104; command 4 3 -1 says 104",
                "command 5 5 0 says 99; command 5 5 2 says 99; command 5 5 4 says 105; state 1 5 = 11",
                "command 4 4 -1 says 104; state 6 5 = 0");
        words("4 it is open at first (only with 2).");
        run("room; thing 0 4 throws Argument; thing 0 5 throws Argument; thing 0 6 = 0; thing 0 7 = 1; thing 0 3 = 2",
                "state 2 0 = 1; state 2 1 = 1; state 2 2 = 0; command 3 0 -1 says 99; command 4 1 -1 says 104");
    }

    private static void exitsNumbersWalkersTimers() {
        words("A room may have an EXIT in each DIRECTION 0 .. 3, to a room, perhaps with a DOOR, a thing: one can not "
                + "go there while that is not open.");
        run(times(5, "room"), "exit 0 0 1 -1; exit 0 1 2 -1; exit 0 2 3 -1; exit 0 3 4 -1",
                "exit 0 4 1 -1 throws Argument",
                "command 0 0 -1 says 100; state 0 0 = 1; undo; command 0 1 -1 says 100; state 0 0 = 2; undo",
                "command 0 2 -1 says 100; state 0 0 = 3; undo; command 0 3 -1 says 100; state 0 0 = 4",
                "command 0 3 -1 says 99");
        run("room; room; thing 0 2; exit 0 2 1 0; exit 1 0 0 0; command 0 2 -1 says 99; state 0 0 = 0",
                "command 3 0 -1 says 103; command 0 2 -1 says 100; state 0 0 = 1; command 4 0 -1 says 99",
                "command 0 0 -1 says 100; command 4 0 -1 says 104; command 0 2 -1 says 99");
        words("A number is from 0 to its MOST (1 .. 7).");
        run("number 0 0 throws Argument; number 0 8 throws Argument; number 0 1 = 0; number 7 7 = 1; number 3 5 = 2",
                "room; state 3 0 = 0; state 3 1 = 7; state 3 2 = 3");
        words("A walker is a thing with three rooms that it goes to in turn.");
        run("room; room; room; thing 0 0; walker 0 2 0 1; state 1 0 = 2; command 6 -1 -1; state 1 0 = 0",
                "command 6 -1 -1; state 1 0 = 1; command 6 -1 -1; state 1 0 = 2; command 6 -1 -1; state 1 0 = 0");
        words("A timer has a count (1 .. 15) and a rule.");
        run("room; rule 7 -1 -1 33; timer 0 0 throws Argument; timer 0 16 throws Argument; timer 1 1 throws Index",
                "timer 0 15; state 7 0 = 15", times(14, "command 6 -1 -1 says 106"), "state 7 0 = 1",
                "command 6 -1 -1 says 106 33; state 7 0 = 0; command 6 -1 -1 says 106");
        run("room; rule 7 -1 -1 34; timer 0 1; command 6 -1 -1 says 106 34");
    }

    private static void rulesAndConditions() {
        words("A RULE has a VERB, a FIRST and a SECOND (a number, or ANY), a TEXT, and up to 3 CONDITIONS and 3 "
                + "EFFECTS.");
        run("room; thing 0 0; thing 0 0; number 0 7; rule 8 1 -2 42; command 7 1 0 says 99; command 8 1 0 says 42",
                "command 8 1 -1 says 42; command 8 0 1 says 99");
        run("room; number 0 7; rule 7 -1 -1 1", times(3, "condition 0 3 0 0"), "condition 0 3 0 0 throws State",
                times(3, "effect 0 3 0 1"), "effect 0 3 0 1 throws State; command 7 -1 -1 says 1; state 3 0 = 3");
        words("CONDITIONS: 0 the player is in room x;");
        run("room; room; exit 0 0 1 -1; rule 7 -1 -1 5; condition 0 0 1 0; command 7 -1 -1 says 99; command 0 0 -1",
                "command 7 -1 -1 says 5");
        words("1 thing x is at place y;");
        run("room; thing 0 1; rule 7 -1 -1 5; condition 0 1 0 6; command 7 -1 -1 says 99; command 1 0 -1",
                "command 7 -1 -1 says 5; command 2 0 -1; command 7 -1 -1 says 99");
        words("2 thing x is open (y = 1) or not (0);");
        run("room; thing 0 2; rule 7 -1 -1 5; condition 0 2 0 1; rule 8 -1 -1 6; condition 1 2 0 0",
                "command 7 -1 -1 says 99; command 8 -1 -1 says 6; command 3 0 -1; command 7 -1 -1 says 5",
                "command 8 -1 -1 says 99");
        words("3 number x is y or more;");
        run("room; number 0 7; number 3 7; rule 7 -1 -1 5; condition 0 3 1 3; rule 8 -1 -1 6; condition 1 3 1 4",
                "command 7 -1 -1 says 5; command 8 -1 -1 says 99");
        words("4 number x is y or less.");
        run("room; number 0 7; number 3 7; rule 7 -1 -1 5; condition 0 4 1 3; rule 8 -1 -1 6; condition 1 4 1 2",
                "command 7 -1 -1 says 5; command 8 -1 -1 says 99");
    }

    private static void effects() {
        words("EFFECTS: 0 the player is in room x;");
        run("room; room; room; rule 7 -1 -1 5; effect 0 0 2 0; command 7 -1 -1 says 5; state 0 0 = 2",
                "command 7 -1 -1 says 5; state 0 0 = 2");
        words("1 thing x is at place y (nothing, if that is itself or in something in it at any depth);");
        run("room; room; thing 0 0; rule 7 -1 -1 5; effect 0 1 0 1; rule 8 -1 -1 6; effect 1 1 0 6",
                "command 7 -1 -1 says 5; state 1 0 = 1; command 8 -1 -1 says 6; state 1 0 = 6");
        String nest = "room; thing 0 0; thing 7 0; thing 8 0; thing 0 0; rule 7 -1 -1 5; ";
        run(nest + "effect 0 1 0 7; command 7 -1 -1 says 5; state 1 0 = 0");
        run(nest + "effect 0 1 0 8; command 7 -1 -1 says 5; state 1 0 = 0; state 1 1 = 7");
        run(nest + "effect 0 1 0 9; command 7 -1 -1 says 5; state 1 0 = 0; state 1 2 = 8");
        run(nest + "effect 0 1 0 10; command 7 -1 -1 says 5; state 1 0 = 10; state 1 1 = 7; state 1 2 = 8");
        run(nest + "effect 0 1 2 7; command 7 -1 -1 says 5; state 1 2 = 7");
        words("2 thing x is open (1) or not (0);");
        run("room; thing 0 2; rule 7 -1 -1 5; effect 0 2 0 1; rule 8 -1 -1 6; effect 1 2 0 0",
                "command 8 -1 -1 says 6; state 2 0 = 0; command 7 -1 -1 says 5; state 2 0 = 1",
                "command 7 -1 -1 says 5; state 2 0 = 1; command 8 -1 -1 says 6; state 2 0 = 0");
        words("3 number x grows by y (-7 .. 7), to its most or 0 where it would go beyond;");
        run("room; number 2 5; rule 7 -1 -1 5; effect 0 3 0 2; rule 8 -1 -1 6; effect 1 3 0 -3",
                "command 7 -1 -1; state 3 0 = 4; command 7 -1 -1; state 3 0 = 5; command 8 -1 -1; state 3 0 = 2",
                "command 8 -1 -1; state 3 0 = 0");
        run("room; number 3 7; rule 7 -1 -1 5; effect 0 3 0 8 throws Argument; effect 0 3 0 7; rule 8 -1 -1 6",
                "effect 1 3 0 -8 throws Argument; effect 1 3 0 -7; command 7 -1 -1; state 3 0 = 7; command 8 -1 -1",
                "state 3 0 = 0");
        words("4 the play is OVER with ending x.");
        run("room; ending true; ending false; rule 7 -1 -1 5; effect 0 4 1 0; state 4 0 = -1; command 7 -1 -1 says 5",
                "state 4 0 = 1; command 7 -1 -1 = -1; command 6 -1 -1 = -1");
    }

    private static void states() {
        words("A STATE: the player's room (0 at first),");
        run("room; room; state 0 0 = 0; rule 7 -1 -1 1; effect 0 0 1 0; explore 9 = 1; study 0 0 = 2");
        words("each thing's place and whether it is open,");
        run("room; thing 0 1; explore 9 = 1; study 0 0 = 2");
        run("room; thing 0 2; explore 9 = 1; study 0 0 = 2");
        run("room; thing 0 3; explore 9 = 1; study 0 0 = 4");
        words("each number,");
        run("room; number 2 3; rule 7 -1 -1 1; effect 0 3 0 1; explore 9 = 1; study 0 0 = 2");
        run("room; number 0 3; number 0 2; rule 7 -1 -1 1; effect 0 3 0 1; rule 8 -1 -1 1; effect 1 3 1 1",
                "explore 99 = 1; study 0 0 = 12");
        words("each walker's step (0 at first),");
        run("room; thing 0 0; walker 0 0 0 0; state 8 0 = 0; explore 9 = 1; study 0 0 = 3");
        words("each timer's count,");
        run("room; rule 7 -1 -1 1; timer 0 4; state 7 0 = 4; explore 9 = 1; study 0 0 = 5");
        words("and whether it is over, with which ending.");
        run("room; ending true; ending true; rule 7 -1 -1 1; effect 0 4 0 0; rule 8 -1 -1 1; effect 1 4 1 0",
                "state 4 0 = -1; explore 9 = 1; study 0 0 = 3; reach 0 false = 1; reach 1 false = 1");
        words("A thing is SEEN when it is in the player's room or hands, or in a thing that is seen and open.");
        run("room; room; thing 0 0; thing 1 0; thing 6 6; thing 9 2; thing 10 0; thing 8 0; exit 0 0 1 -1",
                "state 6 0 = 1; state 6 1 = 0; state 6 2 = 1; state 6 3 = 1; state 6 4 = 0; state 6 5 = 0",
                "command 3 3 -1 says 103; state 6 4 = 1; command 0 0 -1 says 100; state 6 0 = 0; state 6 1 = 1",
                "state 6 2 = 1; state 6 4 = 1; state 6 5 = 0; command 4 2 -1; state 6 3 = 0; state 6 4 = 0");
    }

    private static void commands() {
        words("COMMANDS are verb, a, b: 0 GO a (a direction), 1 TAKE a, 2 DROP a, 3 OPEN a, 4 CLOSE a, 5 PUT a b, "
                + "6 WAIT, 7 and 8 of the world's own, with a and b things or NONE.");
        run("room; thing 0 1; thing 0 2; exit 0 3 0 -1; command 0 3 -1 says 100; command 1 0 -1 says 101",
                "command 2 0 -1 says 102; command 3 1 -1 says 103; command 1 0 -1 says 101; command 5 0 1 says 105",
                "command 4 1 -1 says 104; command 6 -1 -1 says 106; command 7 -1 -1 says 99; command 7 0 1 says 99",
                "command 8 1 -1 says 99; command 8 -1 0 says 99; command 9 -1 -1 throws Argument");
        words("What a command does not have is NONE.");
        run("room; thing 0 1; command 0 0 0 throws Argument; command 1 0 0 throws Argument",
                "command 2 0 0 throws Argument",
                "command 3 0 0 throws Argument; command 4 0 0 throws Argument; command 6 0 -1 throws Argument",
                "command 6 -1 0 throws Argument; command 5 0 -1 throws Argument; command 5 -1 0 throws Argument",
                "command 0 -1 -1 throws Argument; command 1 -1 -1 throws Argument; state 5 0 = 0");
        words("All commands of a world, in order: by verbs, then a, then b, NONE first; a direction is 0 .. 3, a "
                + "thing any that there is.");
        String over = "room; thing 0 0; thing 0 0; ending true; ";
        firstWay(over + "rule 8 -2 -2 1; effect 0 4 0 0; rule 7 -2 -2 1; effect 1 4 0 0", 7, -1, -1);
        firstWay(over + "rule 6 -2 -2 1; effect 0 4 0 0; rule 5 -2 -2 1; effect 1 4 0 0", 5, 0, 0);
        firstWay(over + "rule 1 1 -1 1; effect 0 4 0 0; rule 0 3 -1 1; effect 1 4 0 0", 0, 3, -1);
        firstWay(over + "rule 7 1 -1 1; effect 0 4 0 0; rule 7 0 1 1; effect 1 4 0 0", 7, 0, 1);
        firstWay(over + "rule 7 0 0 1; effect 0 4 0 0; rule 7 -1 1 1; effect 1 4 0 0", 7, -1, 1);
        firstWay(over + "rule 7 0 1 1; effect 0 4 0 0; rule 7 0 0 1; effect 1 4 0 0", 7, 0, 0);
        run("room; command 0 3 -1 says 99; command 0 4 -1 throws Argument; command 1 0 -1 throws Argument; thing 0 1",
                "command 1 0 -1 says 101; command 1 1 -1 throws Argument");
    }

    /** Of all the commands that end the play, the way has the first one. */
    private static void firstWay(String world, int verb, int a, int b) {
        run(world, "explore 1000 = 1; reach 0 true = 1", "way 0 0 0 = " + verb, "way 0 0 1 = " + a,
                "way 0 0 2 = " + b);
    }

    private static void whichRuleFits() {
        words("A TURN. The first rule FITS, by their numbers,");
        run("room; rule 7 -1 -1 3; rule 7 -2 -2 4; command 7 -1 -1 says 3");
        run("room; rule 7 -2 -2 4; rule 7 -1 -1 3; command 7 -1 -1 says 4");
        words("that is no timer's,");
        run("room; rule 7 -1 -1 3; rule 7 -1 -1 4; timer 0 15; command 7 -1 -1 says 4");
        run("room; rule 6 -1 -1 3; timer 0 15; command 6 -1 -1 says 106");
        words("has the command's verb,");
        run("room; rule 8 -1 -1 3; command 7 -1 -1 says 99; command 8 -1 -1 says 3");
        words("whose first and second each are ANY or the command's a and b,");
        run("room; thing 0 0; thing 0 0; rule 7 0 1 3; command 7 0 1 says 3; command 7 1 0 says 99",
                "command 7 0 -1 says 99; command 7 -1 1 says 99; command 7 0 0 says 99");
        run("room; thing 0 0; rule 7 -2 0 3; rule 7 -1 -2 4; command 7 -1 0 says 3; command 7 0 0 says 3",
                "command 7 -1 -1 says 4; command 7 0 -1 says 99");
        run("room; rule 0 2 -1 3; command 0 2 -1 says 3; command 0 1 -1 says 99");
        words("whose conditions are all so,");
        run("room; number 1 7; rule 7 -1 -1 3; condition 0 3 0 1; condition 0 4 0 2; condition 0 0 0 0",
                "command 7 -1 -1 says 3");
        run("room; number 1 7; rule 7 -1 -1 3; condition 0 3 0 1; condition 0 4 0 2; condition 0 3 0 2",
                "rule 7 -1 -1 4; command 7 -1 -1 says 4");
        run("room; number 1 7; rule 7 -1 -1 3; condition 0 3 0 2; condition 0 4 0 2; command 7 -1 -1 says 99");
        words("if all things in the command are seen.");
        run("room; room; thing 0 0; thing 1 0; rule 7 -2 -2 3; command 7 0 -1 says 3; command 7 0 1 says 99",
                "command 7 1 0 says 99; command 7 1 -1 says 99; command 7 -1 1 says 99; command 7 -1 -1 says 3");
        run("room; room; thing 1 0; rule 0 0 -1 3; command 0 0 -1 says 3");
    }

    private static void whatARuleDoes() {
        words("Its text is said,");
        run("room; rule 6 -1 -1 0; rule 7 -1 -1 98; command 6 -1 -1 says 0; command 7 -1 -1 says 98");
        words("and its effects are done in their order, up to one that makes the play over.");
        run("room; number 3 4; rule 7 -1 -1 1; effect 0 3 0 3; effect 0 3 0 -2; command 7 -1 -1 says 1; state 3 0 = 2");
        run("room; number 3 4; rule 7 -1 -1 1; effect 0 3 0 -2; effect 0 3 0 3; command 7 -1 -1 says 1; state 3 0 = 4");
        run("room; number 0 7; ending true; ending true; rule 7 -1 -1 1; effect 0 3 0 2; effect 0 4 1 0",
                "effect 0 3 0 4",
                "command 7 -1 -1 says 1; state 3 0 = 2; state 4 0 = 1");
        run("room; ending true; ending true; rule 7 -1 -1 1; effect 0 4 1 0; effect 0 4 0 0; command 7 -1 -1 says 1",
                "state 4 0 = 1");
    }

    private static void whenNoneFits() {
        words("If none fits: GO through an exit whose door, if it has one, is open;");
        run("room; room; thing 0 2; exit 0 0 1 0; exit 0 1 1 -1; command 0 0 -1 says 99; command 0 2 -1 says 99",
                "command 0 1 -1 says 100; state 0 0 = 1; undo; command 3 0 -1; command 0 0 -1 says 100; state 0 0 = 1");
        words("TAKE a thing that is seen, may be taken and is not in the hands (place 6);");
        run("room; room; thing 0 1; thing 1 1; thing 0 0; thing 6 1; thing 6 6; thing 11 1; command 1 0 -1 says 101",
                "state 1 0 = 6; command 1 0 -1 says 99; command 1 1 -1 says 99; state 1 1 = 1; command 1 2 -1 says 99",
                "command 1 3 -1 says 99; command 1 5 -1 says 101; state 1 5 = 6");
        words("DROP one that is in the hands: it is in the player's room then;");
        run("room; room; thing 6 0; thing 0 1; thing 6 6; thing 9 1; exit 0 0 1 -1; command 2 1 -1 says 99",
                "command 2 3 -1 says 99; state 1 3 = 9; command 0 0 -1; command 2 0 -1 says 102; state 1 0 = 1");
        walk.pass("```text");
        words("OPEN (CLOSE) one that is seen, may be opened and is not open (is open);");
        run("room; room; thing 0 2; thing 1 2; thing 0 0; thing 1 6; command 3 0 -1 says 103; state 2 0 = 1",
                "command 3 0 -1 says 99; command 4 0 -1 says 104; state 2 0 = 0; command 4 0 -1 says 99",
                "command 3 1 -1 says 99; state 2 1 = 0; command 3 2 -1 says 99; command 4 3 -1 says 99; state 2 3 = 1");
    }

    private static void putAndWait() {
        words("PUT a b: a is in the hands, b is seen, may be opened, is open, is not a: a is in b then (a thing in "
                + "something in it at any depth: not);");
        run("room; room; thing 6 0; thing 0 6; thing 1 6; thing 0 2; thing 0 0; thing 0 1",
                "command 5 5 1 says 99; state 1 5 = 0; command 5 0 2 says 99; command 5 0 3 says 99",
                "command 5 0 4 says 99; state 1 0 = 6; command 5 0 1 says 105; state 1 0 = 8; command 5 0 1 says 99");
        run("room; thing 6 6; thing 7 6; thing 8 6; thing 6 6; command 5 0 0 says 99; command 5 0 1 says 99",
                "command 5 0 2 says 99; state 1 0 = 6; command 5 0 3 says 105; state 1 0 = 10; state 1 2 = 8",
                "command 5 3 2 says 99; state 1 3 = 6");
        words("WAIT.");
        run("room; thing 0 1; command 6 -1 -1 says 106; state 1 0 = 0; state 0 0 = 0; state 5 0 = 1");
        words("Then 100 + verb is said.");
        run("room; thing 0 3; thing 0 6; exit 0 0 0 -1; command 0 0 -1 says 100; command 1 0 -1 says 101",
                "command 2 0 -1 says 102; command 3 0 -1 says 103; command 4 0 -1 says 104; command 1 0 -1 says 101",
                "command 5 0 1 says 105; command 6 -1 -1 says 106");
    }

    private static void whatCanNotBe() {
        words("If that can not be, or the verb is one of the world's own, 99 is said, and nothing is done.");
        StoryStates s = run("room; thing 0 0; thing 0 6; number 3 7");
        String before = Look.parts(s);
        Walk.go(s, "command 0 0 -1 says 99; command 1 0 -1 says 99; command 2 0 -1 says 99; command 3 1 -1 says 99",
                "command 4 0 -1 says 99; command 5 0 1 says 99; command 7 0 1 says 99; command 8 -1 -1 says 99");
        Check.count("nothing is done", before, Look.parts(s));
        Walk.go(s, "state 5 0 = 8");
    }

    private static void walkersAndTimersInATurn() {
        words("Then, if the play is not over: each walker, in their order, whose thing's place is a room, makes a "
                + "step: the step grows by 1, from 2 to 0, and the thing is in the room that it has for it.");
        run("room; room; room; thing 0 1; thing 0 0; walker 1 1 2 0; walker 0 0 0 2; state 8 0 = 0",
                "command 7 -1 -1 says 99; state 8 0 = 1; state 8 1 = 1; state 1 1 = 2; state 1 0 = 0",
                "command 1 0 -1 says 101; state 8 0 = 2; state 8 1 = 1; state 1 1 = 0; state 1 0 = 6",
                "command 6 -1 -1; state 8 0 = 0; state 8 1 = 1; state 1 1 = 1",
                "command 2 0 -1 says 102; state 8 1 = 2; state 1 0 = 2; command 6 -1 -1; state 8 1 = 0; state 1 0 = 0");
        run("room; thing 0 0; walker 0 0 0 0; ending true; rule 7 -1 -1 1; effect 0 4 0 0; command 7 -1 -1 says 1",
                "state 8 0 = 0");
        words("Then each timer, in their order, whose count is not 0 (while the play is not over): the count gets "
                + "less by 1;");
        run("room; rule 7 -1 -1 1; rule 7 -1 -1 2; timer 1 1; timer 0 3; command 7 -1 -1 says 99 2; state 7 0 = 0",
                "state 7 1 = 2; command 6 -1 -1 says 106; state 7 0 = 0; state 7 1 = 1; command 6 -1 -1 says 106 1",
                "state 7 1 = 0; command 6 -1 -1 says 106; state 7 1 = 0");
        run("room; ending true; rule 7 -1 -1 1; effect 0 4 0 0; rule 8 -1 -1 2; timer 0 1; timer 1 1",
                "command 6 -1 -1 says 106 1; state 7 0 = 0; state 7 1 = 1; state 4 0 = 0");
        run("room; ending true; rule 7 -1 -1 1; effect 0 4 0 0; rule 8 -1 -1 2; timer 1 1",
                "command 7 -1 -1 says 1; state 7 0 = 1");
        words("at 0, if the conditions of its rule are so, that is said and done.");
        run("room; room; thing 0 0; number 0 7; walker 0 0 1 1; rule 0 0 0 9; condition 0 1 0 1; effect 0 3 0 2",
                "rule 0 0 0 8; condition 1 3 0 2; effect 1 3 0 1; timer 0 1; timer 1 1",
                "command 6 -1 -1 says 106 9 8; state 3 0 = 3");
        run("room; number 0 7; rule 0 0 0 9; condition 0 3 0 1; effect 0 3 0 1; timer 0 1; rule 7 -1 -1 5",
                "effect 1 3 0 1",
                "command 6 -1 -1 says 106; state 7 0 = 0; command 7 -1 -1 says 5; state 3 0 = 1; undo; undo",
                "command 7 -1 -1 says 5 9; state 3 0 = 2");
        walk.pass("```");
    }

    /** 8 x 5 x 4 states: three verbs that make three numbers grow. */
    private static final String OF_160 = "room; number 0 7; number 0 4; number 0 3; ending true; ending false; "
            + "rule 6 -1 -1 1; effect 0 3 0 1; rule 7 -1 -1 2; effect 1 3 1 1; rule 8 -1 -1 3; effect 2 3 2 1; ";

    /** One state more: the last of the 160 has the ending behind it. */
    private static final String OF_161 = OF_160 + "rule 0 0 -1 4; condition 3 3 0 7; condition 3 3 1 4; "
            + "condition 3 3 2 3; effect 3 4 0 0; ";

    private static void exploring() {
        words("EXPLORING finds states, from the first one (number 0) on: the states found are gone through by their "
                + "numbers;");
        // three numbers of a ladder: 0 leads to 1, 1 leads to 2 and to the ending, whatever the play is at
        String ladder = "room; number 0 2; ending true; rule 7 -1 -1 1; effect 0 3 0 1; rule 8 -1 -1 2; "
                + "condition 1 3 0 1; effect 1 4 0 0; ";
        run(ladder + "command 7 -1 -1; command 7 -1 -1; explore 0 = 0; study 0 0 = 1; explore 1 = 0; study 0 0 = 2",
                "explore 1 = 0; study 0 0 = 4; reach 0 false = 1; explore 1 = 0; study 0 0 = 5; explore 9 = 1");
        words("one that is not over: all commands in order are tried, and each state that was not found gets the next "
                + "number, with this state and command as where it comes from.");
        run(ladder + "explore 9 = 1; study 0 0 = 5; reach 0 true = 2; way 0 0 0 = 7; way 0 1 0 = 8; way 0 2 0 = -1");
        // the ending comes in two rooms; the first state over with it is the one of the lower direction
        run("room; room; room; ending true; exit 0 1 2 -1; exit 0 3 1 -1; rule 7 -1 -1 1; condition 0 0 1 0",
                "effect 0 4 0 0; rule 7 -1 -1 1; condition 1 0 2 0; effect 1 4 0 0; explore 99 = 1; study 0 0 = 5",
                "reach 0 true = 2; way 0 0 0 = 0; way 0 0 1 = 1; way 0 1 0 = 7");
        words("There is room for 160 states: when there would be one more, the LIMIT is met, and exploring ends "
                + "there.");
        run(OF_160 + "explore 1000 = 1; study 0 0 = 160; study 3 0 = 1");
        run(OF_161 + "explore 159 = 0; study 0 0 = 160; explore 1 = 2; study 0 0 = 160; explore 1000 = 2",
                "reach 0 false = 2; reach 0 true = -1");
        words("It is FINISHED when all were gone through.");
        run(OF_160 + "explore 159 = 0; study 3 0 = -1; explore 0 = 0; explore 1 = 1; study 3 0 = 1; explore 0 = 1");
    }

    private static void building() {
        words("Whenever something is built into the world, the play is at its first state, without turns, and nothing "
                + "is explored.");
        String[] built = {"room", "exit 0 0 1 -1", "thing 0 0", "number 1 1", "ending true", "rule 0 0 0 0",
            "condition 0 0 0 0", "effect 0 0 0 0", "walker 0 1 1 1", "timer 0 1", "clear; room; thing 0 1"};
        for (String call : built) {
            run("room; room; thing 0 1; rule 8 0 0 1; explore 1000 = 1; command 1 0 -1 says 101; state 5 0 = 1", call,
                    "said 0 = -1; study 0 0 = 1; study 1 0 = 2; study 3 0 = -1; state 5 0 = 0; state 0 0 = 0",
                    call.startsWith("walker") ? "state 1 0 = 1" : "state 1 0 = 0", "undo = false");
        }
    }

    private static void throwing() {
        words("A call that throws changes nothing;");
        String[] thrown = {"exit 0 9 0 -1 throws Argument", "exit 0 0 7 -1 throws Index", "thing 0 4 throws Argument",
            "thing 9 0 throws Index", "number 2 1 throws Argument", "rule 9 0 0 0 throws Argument",
            "condition 0 5 0 0 throws Argument", "effect 0 4 0 0 throws Index", "walker 1 0 0 0 throws Index",
            "timer 0 16 throws Argument", "command 1 1 -1 throws Argument", "state 9 0 throws Argument",
            "explore -1 throws Argument", "reach 0 true throws Index", "way 0 0 0 throws Index",
            "study 5 0 throws Argument"};
        for (String call : thrown) {
            run("room; thing 0 1; rule 8 0 0 1; explore 1000 = 1; command 1 0 -1 says 101", call,
                    "said 0 = 101; state 5 0 = 1; state 1 0 = 6; study 0 0 = 2; study 1 0 = 1; study 4 0 = -1",
                    "undo = true; thing 0 1 = 1; rule 0 0 0 0 = 1");
        }
        words("where several exceptions fit, the one named first is thrown;");
        run("exit 0 9 0 -1 throws Index; thing 0 4 throws Index; command 9 0 0 throws Argument; state 1 0 throws Index",
                "state 9 0 throws Argument; explore -1 throws State; reach 0 true throws State; way 0 0 0 throws State",
                "study 5 0 throws State; walker 0 0 0 0 throws Index; timer 0 0 throws Index");
        run(times(6, "thing 6 0"), times(3, "number 0 1"), times(12, "rule 0 0 0 0"), "thing 13 4 throws Index",
                "thing 6 4 throws Argument; number 0 0 throws Argument; rule 9 0 0 0 throws Argument",
                "timer 0 1; timer 1 1; timer 2 0 throws Argument; timer 12 0 throws Index");
        words("for a condition and an effect it is looked at whether there is the rule, then the kind, then whether "
                + "there is what it is about, then y, then whether the rule has 3.");
        for (String kind : new String[] {"condition", "effect"}) {
            run("room; thing 0 0; rule 0 0 0 0", times(3, kind + " 0 0 0 0"), kind + " 1 5 9 9 throws Index",
                    kind + " 0 5 9 9 throws Argument", kind + " 0 2 9 9 throws Index",
                    kind + " 0 2 0 9 throws Argument",
                    kind + " 0 1 0 9 throws Index", kind + " 0 2 0 1 throws State");
        }
    }

    private static void promisesOneToThree() {
        walk.pass("## Promise 1: A new object `StoryStates()`:");
        words("A world without anything.");
        run("begin throws State; state 1 0 throws Index; state 3 0 throws Index; state 7 0 throws Index",
                "state 8 0 throws Index; state 0 0 throws State; said 0 = -1; undo = false; room = 0; study 0 0 = 1");
        run("thing 6 0 = 0");
        run("number 0 1 = 0; ending true = 0; rule 0 0 0 0 = 0");
        walk.pass("## Promise 2: clear `void clear()`:");
        words("A world without anything, in place of this one.");
        run("room; room; thing 0 3; number 1 1; ending true; exit 0 0 1 -1; rule 6 -1 -1 1; condition 0 0 0 0",
                "effect 0 4 0 0; rule 0 0 0 0; timer 1 1; walker 0 1 1 1; command 6 -1 -1; explore 9; clear; clear",
                "said 0 = -1; undo = false; begin throws State; state 1 0 throws Index; state 3 0 throws Index",
                "state 7 0 throws Index; state 8 0 throws Index; room = 0; reach 0 true throws Index",
                "command 0 0 -1 says 99; command 6 -1 -1 says 106; room = 1; thing 0 0 = 0; state 1 0 = 0",
                "number 0 1 = 0; ending false = 0; rule 6 -1 -1 7 = 0; timer 0 1; command 6 -1 -1 says 106 7");
        walk.pass("## Promise 3: room `int room() throws IllegalStateException`:");
        words("A new room; answers its number. IllegalStateException when there are 6.");
        run("room = 0; room = 1; room = 2; room = 3; room = 4; room = 5; room throws State; state 0 0 = 0");
    }

    private static void promisesFourAndFive() {
        walk.pass("## Promise 4: exit `void exit(int from, int direction, int to, int door) throws "
                + "IndexOutOfBoundsException, IllegalArgumentException`:");
        words("An exit of a room, in place of one in that direction; door is a thing (of any kind) or NONE.");
        run("room; room; room; thing 0 0; exit 0 0 1 0; command 0 0 -1 says 99; exit 0 0 2 -1; command 0 0 -1 says 100",
                "state 0 0 = 2; exit 0 0 0 0; command 0 0 -1 says 99; rule 7 -1 -1 1; effect 0 2 0 1",
                "command 7 -1 -1; command 0 0 -1 says 100; state 0 0 = 0");
        words("IndexOutOfBoundsException when there is no such room or thing; IllegalArgumentException when direction "
                + "is not 0 .. 3.");
        run("room; thing 0 0; exit 1 0 0 -1 throws Index; exit -1 0 0 -1 throws Index; exit 0 0 1 -1 throws Index",
                "exit 0 0 -1 -1 throws Index; exit 0 0 0 1 throws Index; exit 0 0 0 -2 throws Index",
                "exit 0 -1 0 0 throws Argument; exit 0 4 0 0 throws Argument; exit 0 0 0 0; exit 0 3 0 -1");
        walk.pass("## Promise 5: thing `int thing(int place, int kind) throws IndexOutOfBoundsException, "
                + "IllegalArgumentException, IllegalStateException`:");
        words("A new thing, at a place that there is (in any thing that there is); answers its number.");
        run("room; thing 0 0 = 0; thing 7 1 = 1; thing 6 2 = 2; thing 9 3 = 3; thing 10 6 = 4; thing 8 7 = 5",
                "state 1 0 = 0; state 1 1 = 7; state 1 2 = 6; state 1 3 = 9; state 1 4 = 10; state 1 5 = 8");
        words("IndexOutOfBoundsException when there is no such place; IllegalArgumentException when kind is not "
                + "0 .. 7, or 4 or 5; IllegalStateException when there are 6.");
        run("thing 0 0 throws Index; thing 7 0 throws Index; room; thing 1 0 throws Index; thing 5 0 throws Index",
                "thing -1 0 throws Index; thing 0 -1 throws Argument; thing 0 8 throws Argument",
                "thing 0 4 throws Argument; thing 0 5 throws Argument; thing 0 7 = 0; thing 8 0 throws Index",
                times(5, "thing 7 0"), "thing 12 0 throws State; thing 13 0 throws Index");
    }

    private static void promisesSixToEight() {
        walk.pass("## Promise 6: number `int number(int first, int most) throws IllegalArgumentException, "
                + "IllegalStateException`:");
        words("A new number, with how much it is at first; answers its number.");
        run("room; number 0 1 = 0; number 4 7 = 1; number 5 5 = 2; state 3 0 = 0; state 3 1 = 4; state 3 2 = 5");
        words("IllegalArgumentException when most is not 1 .. 7, or first not 0 .. most; IllegalStateException when "
                + "there are 3.");
        run("number 0 0 throws Argument; number 0 8 throws Argument; number -1 3 throws Argument",
                "number 4 3 throws Argument; number 3 3 = 0; number 0 7 = 1; number 1 1 = 2; number 0 1 throws State");
        walk.pass("## Promise 7: ending `int ending(boolean good) throws IllegalStateException`:");
        words("A new ending; answers its number. IllegalStateException when there are 4.");
        run("ending false = 0; ending true = 1; ending false = 2; ending true = 3; ending false throws State",
                "room; reach 3 false = 2; reach 4 false throws Index");
        walk.pass("## Promise 8: rule `int rule(int verb, int first, int second, int text) throws "
                + "IllegalArgumentException, IllegalStateException`:");
        words("A new rule; answers its number.");
        run("rule 0 -2 -2 0 = 0; rule 8 5 5 98 = 1; room; command 0 3 -1 says 0");
        words("IllegalArgumentException when verb is not 0 .. 8, first or second not -2 .. 5, or text not 0 .. 98; "
                + "IllegalStateException when there are 12.");
        run("rule -1 0 0 0 throws Argument; rule 9 0 0 0 throws Argument; rule 0 -3 0 0 throws Argument",
                "rule 0 6 0 0 throws Argument; rule 0 0 -3 0 throws Argument; rule 0 0 6 0 throws Argument",
                "rule 0 0 0 -1 throws Argument; rule 0 0 0 99 throws Argument; rule 0 0 0 0 = 0",
                times(11, "rule 8 5 -2 98"), "rule 0 0 0 0 throws State");
    }

    private static void promisesNineAndTen() {
        walk.pass("## Promise 9: condition `void condition(int rule, int kind, int x, int y) throws "
                + "IndexOutOfBoundsException, IllegalArgumentException, IllegalStateException`:");
        words("A rule gets a condition more.");
        run("room; number 1 7; rule 7 -1 -1 1; command 7 -1 -1 says 1; condition 0 3 0 1; command 7 -1 -1 says 1",
                "condition 0 3 0 2; command 7 -1 -1 says 99");
        words("IndexOutOfBoundsException when there is no such rule, or no such room, thing, place or number as it "
                + "says; IllegalArgumentException when kind is not 0 .. 4, or y is none for it (2: 0 or 1, 3 and 4: "
                + "0 .. 7; 0: any); IllegalStateException when it has 3.");
        String one = "room; thing 0 0; number 0 1; ending true; rule 0 0 0 0; ";
        run(one + "condition 1 0 0 0 throws Index; condition -1 0 0 0 throws Index; condition 0 0 1 0 throws Index",
                "condition 0 1 1 0 throws Index; condition 0 1 0 1 throws Index; condition 0 1 0 8 throws Index",
                "condition 0 1 0 -1 throws Index; condition 0 2 1 0 throws Index; condition 0 3 1 0 throws Index",
                "condition 0 4 1 0 throws Index; condition 0 4 -1 0 throws Index; condition 0 -1 0 0 throws Argument",
                "condition 0 5 0 0 throws Argument; condition 0 2 0 2 throws Argument",
                "condition 0 2 0 -1 throws Argument",
                "condition 0 3 0 8 throws Argument; condition 0 3 0 -1 throws Argument",
                "condition 0 4 0 8 throws Argument",
                "condition 0 4 0 -1 throws Argument; condition 0 0 0 -99; condition 0 1 0 7; condition 0 3 0 7",
                "condition 0 4 0 0 throws State");
        walk.pass("## Promise 10: effect `void effect(int rule, int kind, int x, int y) throws "
                + "IndexOutOfBoundsException, IllegalArgumentException, IllegalStateException`:");
        words("A rule gets an effect more.");
        run("room; number 0 7; rule 7 -1 -1 1; effect 0 3 0 1; command 7 -1 -1; state 3 0 = 1; effect 0 3 0 2",
                "command 7 -1 -1; state 3 0 = 3; effect 0 3 0 -1; command 7 -1 -1; state 3 0 = 2");
        words("IndexOutOfBoundsException when there is no such rule, or no such room, thing, place, number or ending "
                + "as it says; IllegalArgumentException when kind is not 0 .. 4, or y is none for it (2: 0 or 1, 3: "
                + "-7 .. 7; 0 and 4: any); IllegalStateException when it has 3.");
        run(one + "effect 1 0 0 0 throws Index; effect -1 0 0 0 throws Index; effect 0 0 1 0 throws Index",
                "effect 0 1 1 0 throws Index; effect 0 1 0 1 throws Index; effect 0 1 0 8 throws Index",
                "effect 0 2 1 0 throws Index; effect 0 3 1 0 throws Index; effect 0 4 1 0 throws Index",
                "effect 0 4 -1 0 throws Index; effect 0 -1 0 0 throws Argument; effect 0 5 0 0 throws Argument",
                "effect 0 2 0 2 throws Argument; effect 0 2 0 -1 throws Argument; effect 0 3 0 8 throws Argument",
                "effect 0 3 0 -8 throws Argument; effect 0 0 0 99; effect 0 4 0 -99; effect 0 3 0 -7",
                "effect 0 1 0 7 throws State");
    }

    private static void promisesElevenAndTwelve() {
        walk.pass("## Promise 11: walker `void walker(int thing, int first, int second, int third) throws "
                + "IndexOutOfBoundsException, IllegalStateException`:");
        words("A thing becomes a walker, at the first of the rooms at first (wherever it was to be).");
        run("room; room; room; thing 6 1; thing 7 1; walker 1 2 1 0; state 1 1 = 2; walker 0 1 1 2; state 1 0 = 1",
                "command 6 -1 -1; state 1 1 = 1; state 1 0 = 1; begin; state 1 1 = 2; state 8 1 = 0");
        words("IndexOutOfBoundsException when there is no such thing or room; IllegalStateException when there are 2, "
                + "or it is one.");
        run("room; thing 0 0; thing 0 0; thing 0 0; walker 3 0 0 0 throws Index; walker -1 0 0 0 throws Index",
                "walker 0 1 0 0 throws Index; walker 0 0 1 0 throws Index; walker 0 0 0 1 throws Index",
                "walker 0 -1 0 0 throws Index; walker 0 0 0 0; walker 0 0 0 0 throws State",
                "walker 0 0 0 1 throws Index",
                "walker 2 0 0 0; walker 1 0 0 0 throws State; walker 3 0 0 0 throws Index");
        walk.pass("## Promise 12: timer `void timer(int rule, int count) throws IndexOutOfBoundsException, "
                + "IllegalArgumentException, IllegalStateException`:");
        words("A new timer. IndexOutOfBoundsException when there is no such rule; "
                + "IllegalArgumentException when count is "
                + "not 1 .. 15; IllegalStateException when there are 2, or the rule is a timer's.");
        run("room; timer 0 1 throws Index; rule 0 0 0 0; rule 0 0 0 0; rule 0 0 0 0; timer -1 1 throws Index",
                "timer 3 1 throws Index; timer 0 0 throws Argument; timer 0 16 throws Argument; timer 0 15",
                "timer 0 1 throws State; timer 0 16 throws Argument; state 7 0 = 15; timer 2 1; timer 1 1 throws State",
                "timer 3 1 throws Index; state 7 1 = 1");
    }

    private static void promisesThirteenAndFourteen() {
        walk.pass("## Promise 13: begin `void begin() throws IllegalStateException`:");
        words("The play is at its first state, without turns (what was explored stays).");
        run("room; thing 0 1; explore 1 = 0; command 1 0 -1; begin; state 1 0 = 0; state 5 0 = 0; said 0 = -1",
                "undo = false; study 0 0 = 2; explore 1 = 1; begin; study 0 0 = 2; study 1 0 = 1; study 3 0 = 0");
        words("IllegalStateException when there is no room.");
        run("begin throws State; thing 6 1; begin throws State; room; begin");
        walk.pass("## Promise 14: command `int command(int verb, int a, int b) throws IllegalArgumentException, "
                + "IllegalStateException`:");
        words("A turn; answers how many texts were said;");
        run("room; rule 6 -1 -1 7; rule 0 0 0 8; rule 0 0 0 9; timer 1 2; timer 2 2; command 6 -1 -1 says 7",
                "command 6 -1 -1 says 7 8 9; state 5 0 = 2; command 7 -1 -1 says 99");
        words("NONE when the play is over (it is no turn then; the exceptions come before).");
        run("room; ending true; rule 7 -1 -1 3; effect 0 4 0 0; command 7 -1 -1 says 3; command 6 -1 -1 = -1",
                "state 5 0 = 1; said 0 = 3; command 6 0 -1 throws Argument; undo = true; state 4 0 = -1",
                times(59, "command 6 -1 -1"), "command 7 -1 -1 says 3; state 5 0 = 60; command 6 -1 -1 throws State");
        words("IllegalArgumentException when there is no such command; IllegalStateException when there is no room, or "
                + "there were 60 turns.");
        run("command 6 -1 -1 throws State; command 1 0 -1 throws Argument; thing 6 1; command 1 0 -1 throws State",
                "room", times(60, "command 6 -1 -1 = 1"), "command 6 -1 -1 throws State",
                "command 1 1 -1 throws Argument",
                "undo; command 2 0 -1 says 102; command 6 -1 -1 throws State");
    }

    private static void promisesFifteenAndSixteen() {
        walk.pass("## Promise 15: said `int said(int i)`:");
        words("Text i (from 0) that was said in the last turn; NONE when there is none such (and behind a begin or an "
                + "undo).");
        run("said 0 = -1; room; rule 0 0 0 8; timer 0 1; said 0 = -1; command 6 -1 -1 = 2; said 0 = 106; said 1 = 8",
                "said 2 = -1; said -1 = -1; said 2147483647 = -1; said -2147483648 = -1; explore 1000; said 1 = 8",
                "command 7 -1 -1 = 1; said 0 = 99; said 1 = -1; undo; said 0 = -1; command 7 -1 -1; begin",
                "said 0 = -1");
        walk.pass("## Promise 16: undo `boolean undo()`:");
        words("Takes the last turn back; false when there is none.");
        run("undo = false; room; thing 0 1; undo = false; rule 0 0 0 0; timer 0 9; thing 0 0; walker 1 0 0 0",
                "command 1 0 -1; command 6 -1 -1; undo = true; state 1 0 = 6; state 7 0 = 8; state 8 0 = 1",
                "state 5 0 = 1",
                "undo = true; state 1 0 = 0; state 7 0 = 9; state 8 0 = 0; state 5 0 = 0; undo = false; state 7 0 = 9");
    }

    private static void promiseSeventeen() {
        walk.pass("## Promise 17: state `int state(int what, int x) throws IndexOutOfBoundsException, "
                + "IllegalArgumentException, IllegalStateException`:");
        String world = "room; room; thing 0 6; thing 7 1; number 2 3; ending true; ending true; exit 0 0 1 -1; "
                + "rule 0 0 0 0; timer 0 9; thing 1 0; walker 2 1 1 0; rule 7 -1 -1 0; effect 1 4 1 0; ";
        words("Of the state of the play: what = 0 the player's room, 1 thing x's place, 2 whether thing x is open "
                + "(1 or 0), 3 number x, 4 the ending with which it is over (NONE if it is not; x does not matter for "
                + "0, 4, 5), 5 how many turns there were, 6 whether thing x is seen (1 or 0), 7 timer x's count, 8 "
                + "walker x's step.");
        run(world + "state 0 -99 = 0; state 1 0 = 0; state 1 1 = 7; state 2 0 = 1; state 2 1 = 0; state 3 0 = 2",
                "state 4 99 = -1; state 5 -1 = 0; state 6 1 = 1; state 6 2 = 0; state 7 0 = 9; state 8 0 = 0",
                "command 1 1 -1; command 0 0 -1; state 0 99 = 1; state 1 1 = 6; state 6 0 = 0; state 6 1 = 1",
                "state 1 2 = 0; state 8 0 = 2; state 7 0 = 7; state 5 99 = 2; command 7 -1 -1; state 4 -1 = 1",
                "state 5 0 = 3");
        words("IndexOutOfBoundsException when there is no such thing, number, timer or walker; "
                + "IllegalArgumentException when what is none of these; IllegalStateException when there is no room.");
        run(world + "state 1 3 throws Index; state 1 -1 throws Index; state 2 3 throws Index; state 6 3 throws Index",
                "state 3 1 throws Index; state 3 -1 throws Index; state 7 1 throws Index; state 7 -1 throws Index",
                "state 8 1 throws Index; state 8 -1 throws Index; state -1 0 throws Argument",
                "state 9 0 throws Argument");
        run("thing 6 0; number 0 1; rule 0 0 0 0; timer 0 1; state 0 0 throws State; state 1 0 throws State",
                "state 3 0 throws State; state 4 0 throws State; state 5 0 throws State; state 7 0 throws State",
                "state 1 1 throws Index; state 9 0 throws Argument");
    }

    private static void promiseEighteen() {
        walk.pass("## Promise 18: explore `int explore(int fuel) throws IllegalStateException, "
                + "IllegalArgumentException`:");
        words("Explores: goes through fuel states more, or as many as there are (behind the LIMIT none); "
                + "answers 1 when "
                + "it is finished, 0 when it is not, 2 when the limit is met.");
        run("room; number 0 7; rule 7 -1 -1 1; effect 0 3 0 1; explore 0 = 0; study 0 0 = 1; explore 3 = 0",
                "study 0 0 = 4",
                "explore 4 = 0; study 0 0 = 8; explore 0 = 0; explore 1 = 1; explore 0 = 1; explore 1000 = 1",
                "study 0 0 = 8");
        // an ending is gone through like any other state
        run("room; ending true; rule 7 -1 -1 1; effect 0 4 0 0; explore 1 = 0; study 0 0 = 2; explore 1 = 1");
        run(OF_161 + "explore 160 = 2; study 0 0 = 160; explore 0 = 2; explore 1000 = 2; study 0 0 = 160");
        words("IllegalStateException when there is no room; IllegalArgumentException when fuel is not 0 .. 1000.");
        run("explore 0 throws State; explore 1001 throws State; room; explore -1 throws Argument",
                "explore 1001 throws Argument; study 0 0 = 1; study 3 0 = -1; explore 1000 = 1");
    }

    private static void promiseNineteen() {
        walk.pass("## Promise 19: reach `int reach(int ending, boolean length) throws IllegalStateException, "
                + "IndexOutOfBoundsException`:");
        // ending 0 comes behind two turns of verb 7, ending 1 never, ending 2 at once
        String three = "room; number 0 2; ending true; ending true; ending false; rule 7 -1 -1 1; condition 0 3 0 2; "
                + "effect 0 4 0 0; rule 7 -1 -1 2; effect 1 3 0 1; rule 8 -1 -1 3; effect 2 4 2 0; ";
        words("Of an ending: whether a state that was found is over with it (1; "
                + "otherwise 0 when exploring is finished, "
                + "else 2);");
        run(three + "reach 0 false = 2; reach 1 false = 2; explore 1 = 0; reach 0 false = 2; reach 2 false = 1",
                "explore 1000 = 1; reach 0 false = 1; reach 1 false = 0; reach 2 false = 1");
        words("when length, how many commands lead to the first state found (by number) that is over with it, by where "
                + "states come from; NONE when there is none.");
        run(three + "reach 0 true = -1; reach 2 true = -1; explore 1 = 0; reach 0 true = -1; reach 2 true = 1",
                "explore 1000 = 1; reach 0 true = 3; reach 1 true = -1; reach 2 true = 1");
        words("IllegalStateException when there is no room; IndexOutOfBoundsException when there is no such ending.");
        run("reach 0 true throws State; ending true; reach 0 false throws State; room; reach 0 false = 2",
                "reach 1 false throws Index; reach -1 true throws Index");
    }

    private static void promiseTwenty() {
        walk.pass("## Promise 20: way `int way(int ending, int i, int what) throws IllegalStateException, "
                + "IndexOutOfBoundsException`:");
        words("Of command i (from 0) of that way: what = 0 its verb, 1 its a, 2 its b; NONE when there is no such "
                + "command or what.");
        run("room; room; thing 1 1; thing 0 2; ending true; ending true; exit 0 2 1 -1; exit 1 0 0 -1; rule 7 1 0 1",
                "condition 0 1 0 8; effect 0 4 0 0; way 0 0 0 = -1; explore 1000 = 1; reach 0 true = 6",
                "way 0 0 0 = 0; way 0 0 1 = 2; way 0 0 2 = -1; way 0 1 0 = 1; way 0 1 1 = 0; way 0 1 2 = -1",
                "way 0 2 0 = 0; way 0 2 1 = 0; way 0 3 0 = 3; way 0 3 1 = 1; way 0 4 0 = 5; way 0 4 1 = 0",
                "way 0 4 2 = 1",
                "way 0 5 0 = 7; way 0 5 1 = 1; way 0 5 2 = 0; way 0 6 0 = -1; way 0 -1 0 = -1; way 0 0 3 = -1",
                "way 0 0 -1 = -1; way 1 0 0 = -1");
        words("IllegalStateException when there is no room; IndexOutOfBoundsException when there is no such ending.");
        run("way 0 0 0 throws State; ending true; way 0 0 0 throws State; room; way 0 0 0 = -1; way 1 0 0 throws Index",
                "way -1 9 9 throws Index");
    }

    private static void promiseTwentyOne() {
        walk.pass("## Promise 21: study `int study(int what, int i) throws IllegalStateException, "
                + "IllegalArgumentException`: What the states tell.");
        // a glass in the hands that verb 7 breaks and verb 8 drinks from; verb 8 with itself spills it
        String glass = "room; thing 6 0; number 0 1; ending true; ending false; rule 7 0 -1 1; effect 0 3 0 1; "
                + "rule 8 0 -1 2; condition 1 4 0 0; effect 1 4 0 0; rule 8 0 0 3; effect 2 4 1 0; rule 8 0 -1 4; "
                + "condition 3 4 0 0; rule 6 0 -2 5; ";
        words("what = 0: how many were found (1 when nothing was explored yet).");
        run(glass + "study 0 0 = 1; explore 0; study 0 0 = 1; explore 1; study 0 7 = 5; explore 1000 = 1",
                "study 0 0 = 10");
        words("The others need that exploring is finished, and are 2 (1) or NONE if it is not.");
        run(glass + "study 1 0 = 2; study 2 0 = -1; study 3 0 = -1; study 4 0 = -1; explore 9 = 0; study 1 0 = 2",
                "study 2 0 = -1; study 3 0 = -1; study 4 0 = -1; explore 1 = 1; study 1 0 = 0; study 3 0 = 0",
                "study 4 0 = 3");
        run(OF_161 + "explore 1000 = 2; study 1 0 = 2; study 2 0 = -1; study 3 0 = -1; study 4 0 = -1");
        words("1: whether the present state is HOPELESS, that is, no commands lead from it to a state that is over "
                + "with a good ending (itself, too): 1 or 0.");
        run(glass + "explore 1000 = 1; study 1 0 = 0; command 8 0 -1 says 2; study 1 0 = 0; undo; command 8 0 0 says 3",
                "study 1 0 = 1; undo; command 7 0 -1 says 1; study 1 0 = 1; undo; study 1 0 = 0");
        words("2: when it is, the number of the last turn (from 0) of this play before which the state was not; "
                + "NONE when "
                + "it is not, or the first state is hopeless, too.");
        run(glass + "explore 1000 = 1; study 2 0 = -1; command 6 -1 -1; command 6 -1 -1; study 2 0 = -1",
                "command 7 0 -1",
                "study 2 0 = 2; command 6 -1 -1; study 2 0 = 2; undo; undo; study 2 0 = -1; begin",
                "command 7 0 -1; study 2 0 = 0");
        run("room; ending false; rule 7 -1 -1 1; effect 0 4 0 0; explore 9 = 1; command 6 -1 -1; command 7 -1 -1",
                "study 1 0 = 1; study 2 0 = -1");
        words("3: how many states are not over, and all commands lead from them to themselves.");
        run("room; explore 9 = 1; study 3 0 = 1");
        run("room; ending true; rule 7 -1 -1 1; effect 0 4 0 0; explore 9 = 1; study 0 0 = 2; study 3 0 = 0");
        run("room; number 0 3; rule 7 -1 -1 1; effect 0 3 0 1; explore 9 = 1; study 0 0 = 4; study 3 0 = 1");
        run("room; thing 0 0; walker 0 0 0 0; explore 9 = 1; study 3 0 = 0");
        words("4: the i-th rule (from 0, by number) that no turn from any state has done; "
                + "NONE when there is none such.");
        run(glass + "explore 1000 = 1; study 4 0 = 3; study 4 1 = 4; study 4 2 = -1; study 4 -1 = -1");
        run("room; rule 0 0 0 1; rule 7 -1 -1 2; rule 0 0 0 3; condition 2 0 0 0; timer 0 3; explore 9 = 1",
                "study 4 0 = 2",
                "study 4 1 = -1");
        words("IllegalStateException when there is no room; IllegalArgumentException when what is none of these.");
        run("study 0 0 throws State; study 5 0 throws State; room; study 5 0 throws Argument",
                "study -1 0 throws Argument",
                "study 4 0 = -1");
    }

    private static void notPromised() {
        walk.pass("## Not promised How the state is held inside the object is free, as are the speed of each call, the "
                + "text of toString and the behaviour of equals and hashCode. Use of one object from several threads "
                + "at once is not promised to be safe. Nothing is promised beyond the answers and state changes "
                + "described above, and nothing about an object after its 512th call.");
    }
}
