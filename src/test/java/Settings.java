/** The settings in which the edges are tried. */
final class Settings {
    static final int FAR = Integer.MAX_VALUE;
    static final int LOW = Integer.MIN_VALUE;

    static final Setting EMPTY = new Setting("a new object", s -> { });

    /** Everything but rooms. */
    static final Setting ROOMLESS = new Setting("a world without rooms", Settings::buildRoomless);

    /**
     * 2 rooms, 3 things, 1 number, 2 endings, 3 rules. It has 58 states: 2 rooms, 4 places of the coin, an open or a
     * closed box and a spoiled coin or not make 32; from 8 of them the good ending comes, and from 18 the bad one.
     */
    static final Setting SMALL = new Setting("a small world", Settings::buildSmall);

    static final Setting PLAYED = SMALL.then("played and explored in part", s -> {
        s.command(1, 0, -1);
        s.command(0, 0, -1);
        s.explore(2);
    });

    static final Setting FOUND = SMALL.then("explored", s -> s.explore(1000));

    static final Setting SPOILED = FOUND.then("spoiled", s -> {
        s.command(1, 0, -1);
        s.command(7, 0, -1);
        s.command(6, -1, -1);
    });

    static final Setting OVER = FOUND.then("over", s -> {
        s.command(0, 0, -1);
        s.command(8, -1, -1);
    });

    static final Setting SIXTY = FOUND.then("60 turns", s -> {
        waitFor(s, 59);
        s.command(1, 0, -1);
    });

    /** As much of everything as there may be. */
    static final Setting FULL = new Setting("a full world", Settings::buildFull);

    static final Setting FULL_PLAYED = FULL.then("played", s -> {
        s.command(1, 2, -1);
        s.command(0, 3, -1);
        s.explore(1);
    });

    static final Setting LIMIT = FULL.then("at the limit", s -> s.explore(1000));

    private Settings() {
    }

    private static void buildRoomless(StoryStates s) {
        s.thing(6, 1);
        s.thing(7, 2);
        s.number(1, 3);
        s.ending(true);
        s.rule(7, -2, -2, 1);
        s.condition(0, 1, 0, 6);
        s.effect(0, 3, 0, 1);
        s.rule(8, -2, -2, 2);
        s.timer(1, 2);
    }

    /** A coin that verb 7 spoils, a box that is a door too, a stone; the good ending needs the coin unspoiled. */
    private static void buildSmall(StoryStates s) {
        s.room();
        s.room();
        s.thing(0, 1);
        s.thing(0, 2);
        s.thing(1, 0);
        s.exit(0, 0, 1, -1);
        s.exit(1, 2, 0, 1);
        s.number(1, 3);
        s.ending(true);
        s.ending(false);
        s.rule(7, 0, -1, 10);
        s.condition(0, 1, 0, 6);
        s.effect(0, 3, 0, -1);
        s.rule(8, -1, -1, 11);
        s.condition(1, 3, 0, 1);
        s.condition(1, 0, 1, 0);
        s.effect(1, 4, 0, 0);
        s.rule(8, 0, 0, 12);
        s.effect(2, 4, 1, 0);
    }

    private static void buildFull(StoryStates s) {
        for (int room = 0; room < 6; room++) {
            s.room();
        }
        int[][] things = {{0, 7}, {7, 3}, {0, 1}, {5, 6}, {10, 1}, {1, 0}};
        for (int[] thing : things) {
            s.thing(thing[0], thing[1]);
        }
        for (int room = 0; room < 6; room++) {
            s.exit(room, 0, (room + 1) % 6, room == 2 ? 1 : -1);
            s.exit(room, 3, (room + 5) % 6, -1);
        }
        s.number(0, 7);
        s.number(3, 5);
        s.number(1, 1);
        for (int ending = 0; ending < 4; ending++) {
            s.ending(ending % 2 == 0);
        }
        for (int rule = 0; rule < 12; rule++) {
            s.rule(7 + rule % 2, rule % 8 - 2, -2, rule * 8);
            s.condition(rule, 0, rule % 6, 0);
            s.condition(rule, 4, 0, 7);
            s.condition(rule, 2, 1, 0);
            s.effect(rule, 3, rule % 3, rule % 2 == 0 ? 1 : -1);
            s.effect(rule, 1, 2, rule % 7);
            s.effect(rule, rule == 7 ? 4 : rule % 4, rule % 3, rule % 2);
        }
        s.walker(5, 1, 2, 3);
        s.walker(3, 5, 4, 5);
        s.timer(10, 15);
        s.timer(11, 1);
    }

    static void waitFor(StoryStates s, int turns) {
        for (int i = 0; i < turns; i++) {
            s.command(6, -1, -1);
        }
    }
}
