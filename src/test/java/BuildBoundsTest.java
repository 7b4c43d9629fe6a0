/** The edges of what can be built: each sentence of promises 1 to 12 at the last value allowed and the first beyond. */
public final class BuildBoundsTest {
    private static final String DONE = Setting.DONE;
    private static final String INDEX = Check.INDEX;
    private static final String ARGUMENT = Check.ARGUMENT;
    private static final String STATE = Check.STATE;
    private static final int FAR = Settings.FAR;
    private static final int LOW = Settings.LOW;
    private static final Setting EMPTY = Settings.EMPTY;
    private static final Setting ROOMLESS = Settings.ROOMLESS;
    private static final Setting SMALL = Settings.SMALL;
    private static final Setting PLAYED = Settings.PLAYED;
    private static final Setting FULL = Settings.FULL;
    private static final Setting FULL_PLAYED = Settings.FULL_PLAYED;

    public static void main(String[] args) {
        aWorldWithoutAnything();
        clearIsAsNew();
        sixRooms();
        exitsOfRooms();
        exitsInDirections();
        exitsInPlaceOfOthers();
        doorsOfAnyKind();
        placesOfThings();
        kindsOfThings();
        sixThings();
        howMuchNumbersAre();
        threeNumbers();
        fourEndings();
        verbsOfRules();
        firstsAndSeconds();
        textsOfRules();
        twelveRules();
        rulesOfConditions();
        kindsOfConditions();
        whatConditionsAreAbout();
        levelsOfConditions();
        threeConditions();
        rulesOfEffects();
        kindsOfEffects();
        whatEffectsAreAbout();
        levelsOfEffects();
        threeEffects();
        clausesAreLookedAtInOrder();
        thingsAndRoomsOfWalkers();
        walkersStartAtTheirFirstRoom();
        twoWalkers();
        rulesOfTimers();
        countsOfTimers();
        twoTimers();
        buildingStartsThePlay();
        buildingForgetsWhatWasExplored();
        Check.end("BuildBoundsTest");
    }

    private static Setting with(String name, int times, Setting.Use use) {
        return new Setting(times + " times " + name, s -> repeat(s, times, use));
    }

    private static void repeat(StoryStates s, int times, Setting.Use use) {
        for (int i = 0; i < times; i++) {
            use.on(s);
        }
    }

    private static void aWorldWithoutAnything() {
        Check.sentence("A world without anything.");
        EMPTY.begin(STATE);
        EMPTY.state(STATE, 0, 0);
        EMPTY.exit(INDEX, 0, 0, 0, -1);
        EMPTY.thing(INDEX, 0, 0);
        EMPTY.thing(INDEX, 7, 0);
        EMPTY.condition(INDEX, 0, 0, 0, 0);
        EMPTY.effect(INDEX, 0, 0, 0, 0);
        EMPTY.walker(INDEX, 0, 0, 0, 0);
        EMPTY.timer(INDEX, 0, 1);
        EMPTY.state(INDEX, 1, 0);
        EMPTY.state(INDEX, 3, 0);
        EMPTY.state(INDEX, 7, 0);
        EMPTY.state(INDEX, 8, 0);
        EMPTY.reach(STATE, 0, false);
        EMPTY.then("a room", s -> s.room()).reach(INDEX, 0, false);
        EMPTY.undo("0");
        EMPTY.said("-1", 0);
        EMPTY.room("0");
        EMPTY.thing("0", 6, 0);
        EMPTY.number("0", 0, 1);
        EMPTY.ending("0", true);
        EMPTY.rule("0", 0, 0, 0, 0);
    }

    private static void clearIsAsNew() {
        Check.sentence("A world without anything, in place of this one.");
        EMPTY.clear(DONE);
        Setting[] all = {EMPTY, ROOMLESS, SMALL, PLAYED, Settings.FOUND, Settings.SPOILED, Settings.OVER, Settings.SIXTY,
            FULL, FULL_PLAYED, Settings.LIMIT};
        for (Setting one : all) {
            Setting cleared = one.then("cleared", s -> s.clear());
            cleared.looksLike(EMPTY);
        }
        FULL_PLAYED.then("cleared, and a room", s -> {
            s.clear();
            s.room();
        }).looksLike(EMPTY.then("a room", s -> s.room()));
        FULL.then("cleared, and rules", s -> {
            s.clear();
            buildPlain(s);
        }).looksLike(EMPTY.then("the same", BuildBoundsTest::buildPlain));
    }

    /** Things, exits and rules where the full world has others with doors, lids, clauses and timers. */
    private static void buildPlain(StoryStates s) {
        repeat(s, 6, t -> t.room());
        repeat(s, 6, t -> t.thing(0, 1));
        repeat(s, 3, t -> t.number(0, 2));
        repeat(s, 4, t -> t.ending(false));
        repeat(s, 12, t -> t.rule(8, -2, -1, 3));
    }

    private static void sixRooms() {
        Check.sentence("A new room; answers its number. IllegalStateException when there are 6.");
        for (int rooms = 0; rooms < 6; rooms++) {
            with("room", rooms, s -> s.room()).room(String.valueOf(rooms));
        }
        with("room", 6, s -> s.room()).room(STATE);
        FULL.room(STATE);
        FULL_PLAYED.room(STATE);
        Settings.LIMIT.room(STATE);
    }

    private static void exitsOfRooms() {
        Check.sentence("IndexOutOfBoundsException when there is no such room or thing");
        for (int bad : new int[] {-1, -2, 2, 6, FAR, LOW}) {
            PLAYED.exit(INDEX, bad, 0, 1, -1);
            PLAYED.exit(INDEX, 0, 0, bad, -1);
        }
        for (int bad : new int[] {-2, 3, 6, 7, FAR, LOW}) {
            PLAYED.exit(INDEX, 0, 0, 1, bad);
        }
        PLAYED.exit(DONE, 1, 0, 1, 2);
        PLAYED.exit(DONE, 0, 0, 0, 0);
        FULL_PLAYED.exit(DONE, 5, 0, 5, 5);
        FULL_PLAYED.exit(INDEX, 6, 0, 5, 5);
        FULL_PLAYED.exit(INDEX, 5, 0, 6, 5);
        FULL_PLAYED.exit(INDEX, 5, 0, 5, 6);
        ROOMLESS.exit(INDEX, 0, 0, 0, 0);
        Setting thingless = EMPTY.then("a room", s -> s.room());
        thingless.exit(INDEX, 0, 0, 0, 0);
        thingless.exit(DONE, 0, 0, 0, -1);
    }

    private static void exitsInDirections() {
        Check.sentence("IllegalArgumentException when direction is not 0 .. 3.");
        for (int direction = 0; direction <= 3; direction++) {
            PLAYED.exit(DONE, 0, direction, 1, -1);
        }
        for (int bad : new int[] {-1, -2, 4, FAR, LOW}) {
            PLAYED.exit(ARGUMENT, 0, bad, 1, -1);
            PLAYED.exit(INDEX, 2, bad, 1, -1);
            PLAYED.exit(INDEX, 0, bad, 2, -1);
            PLAYED.exit(INDEX, 0, bad, 1, 3);
        }
        for (int way = 0; way <= 3; way++) {
            int only = way;
            StoryStates s = EMPTY.make();
            repeat(s, 6, t -> t.room());
            s.exit(0, only, 5, -1);
            for (int direction = 0; direction <= 3; direction++) {
                int tried = direction;
                s.begin();
                s.command(0, tried, -1);
                Check.due("exit " + only + ", GO " + tried, tried == only ? 5 : 0, () -> s.state(0, 0));
            }
            s.begin();
            s.command(0, only, -1);
            s.command(0, only, -1);
            Check.due("the last room has none", 99, () -> s.said(0));
        }
    }

    private static void exitsInPlaceOfOthers() {
        Check.sentence("An exit of a room, in place of one in that direction");
        Setting doors = EMPTY.then("exits", s -> {
            repeat(s, 3, t -> t.room());
            s.thing(0, 2);
            s.exit(0, 3, 1, 0);
            s.exit(0, 2, 1, -1);
        });
        StoryStates s = doors.make();
        s.exit(0, 3, 2, -1);
        s.command(0, 3, -1);
        Check.due("the new one leads, without a door", 2, () -> s.state(0, 0));
        s.begin();
        s.command(0, 2, -1);
        Check.due("that in the other direction stays", 1, () -> s.state(0, 0));
        StoryStates t = doors.make();
        t.exit(0, 2, 2, 0);
        t.command(0, 2, -1);
        Check.due("the new one has a door", 99, () -> t.said(0));
    }

    private static void doorsOfAnyKind() {
        Check.sentence("door is a thing (of any kind) or NONE");
        for (int kind : new int[] {0, 1, 2, 3, 6, 7}) {
            StoryStates s = EMPTY.make();
            s.room();
            s.room();
            s.thing(1, kind);
            s.exit(0, 0, 1, 0);
            s.command(0, 0, -1);
            Check.due("kind " + kind, kind >= 6 ? 100 : 99, () -> s.said(0));
            s.exit(0, 0, 1, -1);
            s.command(0, 0, -1);
            Check.due("NONE", 100, () -> s.said(0));
        }
    }

    private static void placesOfThings() {
        Check.sentence("at a place that there is (in any thing that there is) .. IndexOutOfBoundsException when there is no "
                + "such place");
        for (int place : new int[] {0, 1, 6, 7, 8, 9}) {
            PLAYED.thing("3", place, 0);
            StoryStates s = PLAYED.make();
            s.thing(place, 0);
            Check.due("it is there", place, () -> s.state(1, 3));
        }
        for (int bad : new int[] {-1, -2, 2, 5, 10, 12, 13, 100, FAR, LOW}) {
            PLAYED.thing(INDEX, bad, 0);
        }
        Setting five = EMPTY.then("6 rooms, 5 things", s -> {
            repeat(s, 6, t -> t.room());
            repeat(s, 5, t -> t.thing(6, 0));
        });
        five.thing("5", 0, 0);
        five.thing("5", 5, 0);
        five.thing("5", 11, 0);
        five.thing(INDEX, 12, 0);
        ROOMLESS.thing(INDEX, 0, 0);
        ROOMLESS.thing(INDEX, 5, 0);
        ROOMLESS.thing("2", 6, 0);
        ROOMLESS.thing("2", 8, 0);
        ROOMLESS.thing(INDEX, 9, 0);
        EMPTY.thing(INDEX, 7, 0);
        EMPTY.thing("0", 6, 0);
    }

    private static void kindsOfThings() {
        Check.sentence("IllegalArgumentException when kind is not 0 .. 7, or 4 or 5");
        for (int kind : new int[] {0, 1, 2, 3, 6, 7}) {
            PLAYED.thing("3", 0, kind);
            StoryStates s = PLAYED.make();
            s.thing(0, kind);
            Check.due("open at first, kind " + kind, kind / 4, () -> s.state(2, 3));
            s.command(3, 3, -1);
            Check.due("OPEN, kind " + kind, kind == 2 || kind == 3 ? 103 : 99, () -> s.said(0));
            s.command(1, 3, -1);
            Check.due("TAKE, kind " + kind, kind % 2 == 1 ? 101 : 99, () -> s.said(0));
            s.command(4, 3, -1);
            Check.due("CLOSE, kind " + kind, kind >= 2 ? 104 : 99, () -> s.said(0));
        }
        for (int bad : new int[] {-1, 4, 5, 8, 12, 14, FAR, LOW}) {
            PLAYED.thing(ARGUMENT, 0, bad);
            PLAYED.thing(INDEX, 2, bad);
        }
    }

    private static void sixThings() {
        Check.sentence("answers its number .. IllegalStateException when there are 6. (thing)");
        for (int things = 0; things < 6; things++) {
            with("thing", things, s -> s.thing(6, 0)).thing(String.valueOf(things), 6, 0);
        }
        with("thing", 6, s -> s.thing(6, 0)).thing(STATE, 6, 0);
        FULL_PLAYED.thing(STATE, 12, 7);
        FULL_PLAYED.thing(ARGUMENT, 12, 8);
        FULL_PLAYED.thing(ARGUMENT, 12, 4);
        FULL_PLAYED.thing(INDEX, 13, 4);
        FULL_PLAYED.thing(INDEX, 13, 0);
        FULL_PLAYED.thing(INDEX, -1, 0);
    }

    private static void howMuchNumbersAre() {
        Check.sentence("IllegalArgumentException when most is not 1 .. 7, or first not 0 .. most");
        for (int most = 1; most <= 7; most++) {
            for (int first = 0; first <= most; first++) {
                int want = first;
                PLAYED.number("1", first, most);
                StoryStates s = PLAYED.make();
                s.number(first, most);
                Check.due("at first, of " + most, want, () -> s.state(3, 1));
            }
            PLAYED.number(ARGUMENT, -1, most);
            PLAYED.number(ARGUMENT, most + 1, most);
        }
        for (int bad : new int[] {0, 8, -1, FAR, LOW}) {
            PLAYED.number(ARGUMENT, 0, bad);
            PLAYED.number(ARGUMENT, bad, bad);
        }
        PLAYED.number(ARGUMENT, FAR, 7);
        PLAYED.number(ARGUMENT, LOW, 7);
    }

    private static void threeNumbers() {
        Check.sentence("answers its number .. IllegalStateException when there are 3.");
        for (int numbers = 0; numbers < 3; numbers++) {
            with("number", numbers, s -> s.number(0, 1)).number(String.valueOf(numbers), 0, 1);
        }
        with("number", 3, s -> s.number(0, 1)).number(STATE, 0, 1);
        FULL_PLAYED.number(STATE, 7, 7);
        FULL_PLAYED.number(ARGUMENT, 0, 8);
        FULL_PLAYED.number(ARGUMENT, 2, 1);
    }

    private static void fourEndings() {
        Check.sentence("A new ending; answers its number. IllegalStateException when there are 4.");
        for (int endings = 0; endings < 4; endings++) {
            with("ending", endings, s -> s.ending(false)).ending(String.valueOf(endings), true);
        }
        with("ending", 4, s -> s.ending(true)).ending(STATE, true);
        FULL_PLAYED.ending(STATE, true);
        FULL_PLAYED.ending(STATE, false);
    }

    private static void verbsOfRules() {
        Check.sentence("IllegalArgumentException when verb is not 0 .. 8");
        for (int verb = 0; verb <= 8; verb++) {
            PLAYED.rule("3", verb, 0, 0, 0);
        }
        for (int bad : new int[] {-1, -2, 9, FAR, LOW}) {
            PLAYED.rule(ARGUMENT, bad, 0, 0, 0);
        }
    }

    private static void firstsAndSeconds() {
        Check.sentence("first or second not -2 .. 5");
        for (int x = -2; x <= 5; x++) {
            PLAYED.rule("3", 8, x, 0, 0);
            PLAYED.rule("3", 8, 0, x, 0);
        }
        for (int bad : new int[] {-3, 6, FAR, LOW}) {
            PLAYED.rule(ARGUMENT, 8, bad, 0, 0);
            PLAYED.rule(ARGUMENT, 8, 0, bad, 0);
        }
    }

    private static void textsOfRules() {
        Check.sentence("or text not 0 .. 98");
        for (int text : new int[] {0, 1, 97, 98}) {
            PLAYED.rule("3", 6, -1, -1, text);
            StoryStates s = PLAYED.make();
            s.rule(6, -1, -1, text);
            s.command(6, -1, -1);
            Check.due("text " + text, text, () -> s.said(0));
        }
        for (int bad : new int[] {-1, 99, 100, FAR, LOW}) {
            PLAYED.rule(ARGUMENT, 6, -1, -1, bad);
        }
    }

    private static void twelveRules() {
        Check.sentence("A new rule; answers its number .. IllegalStateException when there are 12.");
        for (int rules = 0; rules < 12; rules++) {
            with("rule", rules, s -> s.rule(0, 0, 0, 0)).rule(String.valueOf(rules), 0, 0, 0, 0);
        }
        with("rule", 12, s -> s.rule(0, 0, 0, 0)).rule(STATE, 0, 0, 0, 0);
        FULL_PLAYED.rule(STATE, 8, 5, 5, 98);
        FULL_PLAYED.rule(ARGUMENT, 9, 0, 0, 0);
        FULL_PLAYED.rule(ARGUMENT, 0, 6, 0, 0);
        FULL_PLAYED.rule(ARGUMENT, 0, 0, -3, 0);
        FULL_PLAYED.rule(ARGUMENT, 0, 0, 0, 99);
    }

    private static void rulesOfConditions() {
        Check.sentence("condition: IndexOutOfBoundsException when there is no such rule");
        PLAYED.condition(DONE, 0, 0, 0, 0);
        PLAYED.condition(DONE, 2, 0, 0, 0);
        for (int bad : new int[] {-1, 3, 12, FAR, LOW}) {
            PLAYED.condition(INDEX, bad, 0, 0, 0);
        }
        Setting twelve = with("rule", 12, s -> s.rule(6, -1, -1, 0)).then("a room", s -> s.room());
        twelve.condition(DONE, 11, 0, 0, 0);
        twelve.condition(INDEX, 12, 0, 0, 0);
    }

    private static void kindsOfConditions() {
        Check.sentence("condition: IllegalArgumentException when kind is not 0 .. 4");
        for (int kind = 0; kind <= 4; kind++) {
            PLAYED.condition(DONE, 2, kind, 0, 0);
        }
        for (int bad : new int[] {-1, 5, FAR, LOW}) {
            PLAYED.condition(ARGUMENT, 2, bad, 0, 0);
        }
    }

    private static void whatConditionsAreAbout() {
        Check.sentence("condition: or no such room, thing, place or number as it says");
        int[] last = {1, 2, 2, 0, 0};
        for (int kind = 0; kind <= 4; kind++) {
            PLAYED.condition(DONE, 2, kind, last[kind], 0);
            for (int bad : new int[] {-1, last[kind] + 1, 6, FAR, LOW}) {
                PLAYED.condition(INDEX, 2, kind, bad, 0);
            }
        }
        for (int place : new int[] {0, 1, 6, 7, 8, 9}) {
            PLAYED.condition(DONE, 2, 1, 2, place);
        }
        for (int bad : new int[] {-1, 2, 5, 10, 12, 13, FAR, LOW}) {
            PLAYED.condition(INDEX, 2, 1, 2, bad);
        }
        ROOMLESS.condition(INDEX, 1, 0, 0, 0);
        ROOMLESS.condition(INDEX, 1, 1, 0, 0);
        ROOMLESS.condition(DONE, 1, 1, 0, 6);
    }

    private static void levelsOfConditions() {
        Check.sentence("condition: or y is none for it (2: 0 or 1, 3 and 4: 0 .. 7; 0: any)");
        for (int y : new int[] {0, 1}) {
            PLAYED.condition(DONE, 2, 2, 0, y);
        }
        for (int bad : new int[] {-1, 2, 7, FAR, LOW}) {
            PLAYED.condition(ARGUMENT, 2, 2, 0, bad);
        }
        for (int kind = 3; kind <= 4; kind++) {
            for (int y : new int[] {0, 3, 4, 7}) {
                PLAYED.condition(DONE, 2, kind, 0, y);
            }
            for (int bad : new int[] {-1, 8, FAR, LOW}) {
                PLAYED.condition(ARGUMENT, 2, kind, 0, bad);
            }
        }
        for (int y : new int[] {-1, 0, 6, 99, FAR, LOW}) {
            PLAYED.condition(DONE, 2, 0, 1, y);
        }
    }

    private static void threeConditions() {
        Check.sentence("A rule gets a condition more .. IllegalStateException when it has 3. (condition)");
        for (int has = 0; has < 3; has++) {
            conditioned(has).condition(DONE, 2, 0, 0, 0);
        }
        Setting three = conditioned(3);
        for (int kind = 0; kind <= 4; kind++) {
            three.condition(STATE, 2, kind, 0, 0);
        }
        three.condition(DONE, 0, 0, 0, 0);
        three.effect(DONE, 2, 0, 0, 0);
        for (int rule = 0; rule < 12; rule++) {
            FULL_PLAYED.condition(STATE, rule, 0, 0, 0);
        }
    }

    private static Setting conditioned(int times) {
        return PLAYED.then(times + " conditions", s -> repeat(s, times, t -> t.condition(2, 0, 0, 0)));
    }

    private static void rulesOfEffects() {
        Check.sentence("effect: IndexOutOfBoundsException when there is no such rule");
        PLAYED.effect(DONE, 0, 0, 0, 0);
        PLAYED.effect(DONE, 2, 0, 0, 0);
        for (int bad : new int[] {-1, 3, 12, FAR, LOW}) {
            PLAYED.effect(INDEX, bad, 0, 0, 0);
        }
        Setting twelve = with("rule", 12, s -> s.rule(6, -1, -1, 0)).then("a room", s -> s.room());
        twelve.effect(DONE, 11, 0, 0, 0);
        twelve.effect(INDEX, 12, 0, 0, 0);
    }

    private static void kindsOfEffects() {
        Check.sentence("effect: IllegalArgumentException when kind is not 0 .. 4");
        for (int kind = 0; kind <= 4; kind++) {
            PLAYED.effect(DONE, 2, kind, 0, 0);
        }
        for (int bad : new int[] {-1, 5, FAR, LOW}) {
            PLAYED.effect(ARGUMENT, 2, bad, 0, 0);
        }
    }

    private static void whatEffectsAreAbout() {
        Check.sentence("effect: or no such room, thing, place, number or ending as it says");
        int[] last = {1, 2, 2, 0, 1};
        for (int kind = 0; kind <= 4; kind++) {
            PLAYED.effect(DONE, 2, kind, last[kind], 0);
            for (int bad : new int[] {-1, last[kind] + 1, 6, FAR, LOW}) {
                PLAYED.effect(INDEX, 2, kind, bad, 0);
            }
        }
        for (int place : new int[] {0, 1, 6, 7, 8, 9}) {
            PLAYED.effect(DONE, 2, 1, 2, place);
        }
        for (int bad : new int[] {-1, 2, 5, 10, 12, 13, FAR, LOW}) {
            PLAYED.effect(INDEX, 2, 1, 2, bad);
        }
        ROOMLESS.effect(INDEX, 1, 0, 0, 0);
        ROOMLESS.effect(INDEX, 1, 1, 0, 0);
        ROOMLESS.effect(DONE, 1, 1, 0, 8);
    }

    private static void levelsOfEffects() {
        Check.sentence("effect: or y is none for it (2: 0 or 1, 3: -7 .. 7; 0 and 4: any)");
        for (int y : new int[] {0, 1}) {
            PLAYED.effect(DONE, 2, 2, 0, y);
        }
        for (int bad : new int[] {-1, 2, 7, FAR, LOW}) {
            PLAYED.effect(ARGUMENT, 2, 2, 0, bad);
        }
        for (int y : new int[] {-7, -1, 0, 1, 7}) {
            PLAYED.effect(DONE, 2, 3, 0, y);
        }
        for (int bad : new int[] {-8, 8, FAR, LOW}) {
            PLAYED.effect(ARGUMENT, 2, 3, 0, bad);
        }
        for (int y : new int[] {-8, -1, 0, 8, FAR, LOW}) {
            PLAYED.effect(DONE, 2, 0, 1, y);
            PLAYED.effect(DONE, 2, 4, 1, y);
        }
    }

    private static void threeEffects() {
        Check.sentence("A rule gets an effect more .. IllegalStateException when it has 3. (effect)");
        for (int has = 0; has < 3; has++) {
            effected(has).effect(DONE, 1, 0, 0, 0);
        }
        Setting three = effected(3);
        for (int kind = 0; kind <= 4; kind++) {
            three.effect(STATE, 1, kind, 0, 0);
        }
        three.effect(DONE, 0, 0, 0, 0);
        three.condition(DONE, 1, 0, 0, 0);
        for (int rule = 0; rule < 12; rule++) {
            FULL_PLAYED.effect(STATE, rule, 0, 0, 0);
        }
    }

    /** A world whose rule 1 has that many effects. */
    private static Setting effected(int times) {
        return new Setting("a world with " + times + " effects", s -> {
            s.room();
            s.thing(0, 1);
            s.number(0, 1);
            s.ending(true);
            repeat(s, 2, t -> t.rule(6, -1, -1, 5));
            repeat(s, times, t -> t.effect(1, 0, 0, 0));
            s.command(1, 0, -1);
        });
    }

    private static void clausesAreLookedAtInOrder() {
        Check.sentence("for a condition and an effect it is looked at whether there is the rule, then the kind, then whether "
                + "there is what it is about, then y, then whether the rule has 3.");
        for (Setting in : new Setting[] {PLAYED, FULL_PLAYED}) {
            in.condition(INDEX, 12, 5, 6, 8);
            in.condition(INDEX, 12, 5, 0, 0);
            in.condition(ARGUMENT, 2, 5, 6, 8);
            in.condition(ARGUMENT, 2, -1, -1, -1);
            in.condition(INDEX, 2, 2, 6, 2);
            in.condition(INDEX, 2, 3, 3, 8);
            in.condition(INDEX, 2, 4, 3, -1);
            in.condition(INDEX, 2, 1, 6, 13);
            in.condition(ARGUMENT, 2, 2, 0, 2);
            in.condition(ARGUMENT, 2, 3, 0, 8);
            in.condition(ARGUMENT, 2, 4, 0, -1);
            in.condition(INDEX, 2, 1, 0, 13);
            in.effect(INDEX, 12, 5, 6, 8);
            in.effect(INDEX, 12, 5, 0, 0);
            in.effect(ARGUMENT, 2, 5, 6, 8);
            in.effect(ARGUMENT, 2, -1, -1, -1);
            in.effect(INDEX, 2, 2, 6, 2);
            in.effect(INDEX, 2, 3, 3, 8);
            in.effect(INDEX, 2, 1, 6, 13);
            in.effect(INDEX, 2, 4, 4, 0);
            in.effect(ARGUMENT, 2, 2, 0, 2);
            in.effect(ARGUMENT, 2, 3, 0, -8);
            in.effect(INDEX, 2, 1, 0, 13);
        }
    }

    private static void thingsAndRoomsOfWalkers() {
        Check.sentence("walker: IndexOutOfBoundsException when there is no such thing or room");
        PLAYED.walker(DONE, 2, 1, 1, 1);
        PLAYED.walker(DONE, 0, 0, 0, 0);
        for (int bad : new int[] {-1, 3, 6, FAR, LOW}) {
            PLAYED.walker(INDEX, bad, 0, 0, 0);
        }
        for (int bad : new int[] {-1, 2, 6, 7, FAR, LOW}) {
            PLAYED.walker(INDEX, 0, bad, 0, 0);
            PLAYED.walker(INDEX, 0, 0, bad, 0);
            PLAYED.walker(INDEX, 0, 0, 0, bad);
        }
        ROOMLESS.walker(INDEX, 0, 0, 0, 0);
        Setting six = EMPTY.then("6 rooms and things", s -> {
            repeat(s, 6, t -> t.room());
            repeat(s, 6, t -> t.thing(6, 0));
        });
        six.walker(DONE, 5, 5, 5, 5);
        six.walker(INDEX, 6, 5, 5, 5);
        six.walker(INDEX, 5, 6, 5, 5);
        six.walker(INDEX, 5, 5, 6, 5);
        six.walker(INDEX, 5, 5, 5, 6);
    }

    private static void walkersStartAtTheirFirstRoom() {
        Check.sentence("A thing becomes a walker, at the first of the rooms at first (wherever it was to be).");
        for (int place : new int[] {0, 1, 6, 7, 9}) {
            StoryStates s = SMALL.make();
            s.thing(place, 1);
            s.walker(3, 1, 0, 0);
            Check.due("at first, made at " + place, 1, () -> s.state(1, 3));
            Check.due("its step", 0, () -> s.state(8, 0));
            s.command(6, -1, -1);
            s.begin();
            Check.due("at its begin", 1, () -> s.state(1, 3));
        }
    }

    private static void twoWalkers() {
        Check.sentence("IllegalStateException when there are 2, or it is one. (walker)");
        Setting one = PLAYED.then("a walker", s -> {
            s.walker(0, 0, 1, 1);
            s.command(6, -1, -1);
        });
        one.walker(STATE, 0, 1, 0, 0);
        one.walker(INDEX, 0, 2, 0, 0);
        one.walker(DONE, 2, 1, 0, 0);
        Setting two = PLAYED.then("two walkers", s -> {
            s.walker(2, 0, 1, 1);
            s.walker(0, 0, 1, 1);
            s.command(6, -1, -1);
        });
        for (int thing = 0; thing <= 2; thing++) {
            two.walker(STATE, thing, 1, 0, 1);
            two.walker(INDEX, thing, 1, 0, 2);
        }
        two.walker(INDEX, 3, 0, 0, 0);
        FULL_PLAYED.walker(STATE, 0, 0, 0, 0);
    }

    private static void rulesOfTimers() {
        Check.sentence("timer: IndexOutOfBoundsException when there is no such rule");
        PLAYED.timer(DONE, 0, 1);
        PLAYED.timer(DONE, 2, 1);
        for (int bad : new int[] {-1, 3, 12, FAR, LOW}) {
            PLAYED.timer(INDEX, bad, 1);
            PLAYED.timer(INDEX, bad, 16);
        }
        with("rule", 12, s -> s.rule(6, -1, -1, 0)).timer(DONE, 11, 15);
        with("rule", 12, s -> s.rule(6, -1, -1, 0)).timer(INDEX, 12, 15);
    }

    private static void countsOfTimers() {
        Check.sentence("IllegalArgumentException when count is not 1 .. 15");
        for (int count : new int[] {1, 2, 14, 15}) {
            PLAYED.timer(DONE, 0, count);
            StoryStates s = PLAYED.make();
            s.timer(0, count);
            Check.due("at first", count, () -> s.state(7, 0));
        }
        for (int bad : new int[] {0, -1, 16, FAR, LOW}) {
            PLAYED.timer(ARGUMENT, 0, bad);
        }
    }

    private static void twoTimers() {
        Check.sentence("IllegalStateException when there are 2, or the rule is a timer's.");
        Setting one = PLAYED.then("a timer", s -> {
            s.timer(2, 3);
            s.command(6, -1, -1);
        });
        one.timer(STATE, 2, 1);
        one.timer(ARGUMENT, 2, 16);
        one.timer(DONE, 0, 3);
        Setting two = one.then("another", s -> {
            s.timer(0, 3);
            s.command(6, -1, -1);
        });
        for (int rule = 0; rule <= 2; rule++) {
            two.timer(STATE, rule, 1);
            two.timer(ARGUMENT, rule, 0);
        }
        two.timer(INDEX, 3, 0);
        FULL_PLAYED.timer(STATE, 0, 1);
        FULL_PLAYED.timer(ARGUMENT, 0, 16);
    }

    private static final Setting.Use[] BUILDING = {
        s -> s.room(), s -> s.exit(0, 0, 1, -1), s -> s.exit(1, 3, 1, 2), s -> s.thing(8, 3), s -> s.number(2, 2),
        s -> s.ending(true), s -> s.rule(6, -1, -1, 30), s -> s.condition(2, 2, 1, 1), s -> s.effect(0, 2, 1, 1),
        s -> s.walker(2, 0, 1, 0), s -> s.timer(2, 5), s -> s.clear(),
        // with these the good ending, and the rule for it, come no more
        s -> s.condition(1, 3, 0, 3), s -> s.exit(0, 0, 0, -1),
    };

    private static void buildingStartsThePlay() {
        Check.sentence("Whenever something is built into the world, the play is at its first state, without turns, and "
                + "nothing is explored.");
        Setting[] plays = {PLAYED, Settings.FOUND, Settings.SPOILED, Settings.OVER, Settings.SIXTY};
        for (int i = 0; i < BUILDING.length; i++) {
            Setting fresh = SMALL.then("building " + i, BUILDING[i]);
            for (Setting play : plays) {
                play.then("building " + i, BUILDING[i]).looksLike(fresh);
            }
        }
    }

    private static void buildingForgetsWhatWasExplored() {
        Check.sentence("Whenever something is built .. nothing is explored. (behind the limit)");
        Setting.Use exit = s -> s.exit(5, 3, 5, 5);
        Settings.LIMIT.then("an exit", exit).looksLike(FULL.then("an exit", exit));
        FULL_PLAYED.then("an exit", exit).looksLike(FULL.then("an exit", exit));
        Settings.LIMIT.study("160", 0, 0);
        Settings.LIMIT.then("an exit", exit).study("1", 0, 0);
        Settings.LIMIT.then("an exit", exit).explore("0", 0);
    }
}
