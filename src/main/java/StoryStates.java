import java.util.Arrays;

/** Small worlds that are played turn by turn, and of which all states that can come are found. */
public final class StoryStates {
    public static final int NONE = -1;
    public static final int ANY = -2;

    private static final int MOST_ROOMS = 6;
    private static final int MOST_THINGS = 6;
    private static final int MOST_NUMBERS = 3;
    private static final int MOST_ENDINGS = 4;
    private static final int MOST_RULES = 12;
    private static final int MOST_WALKERS = 2;
    private static final int MOST_TIMERS = 2;
    private static final int MOST_CLAUSES = 3;
    private static final int MOST_TURNS = 60;
    private static final int MOST_STATES = 160;
    private static final int MOST_FUEL = 1000;
    private static final int MOST_COUNT = 15;
    private static final int MOST_AMOUNT = 7;
    private static final int MOST_TEXT = 98;
    private static final int TEXTS_A_TURN = 1 + MOST_TIMERS;
    private static final int DIRECTIONS = 4;
    private static final int WALKER_ROOMS = 3;

    private static final int HANDS = 6;
    private static final int INSIDE = 7;

    private static final int MAY_TAKE = 1;
    private static final int MAY_OPEN = 2;
    private static final int OPEN_AT_FIRST = 4;

    private static final int GO = 0;
    private static final int TAKE = 1;
    private static final int DROP = 2;
    private static final int OPEN = 3;
    private static final int CLOSE = 4;
    private static final int PUT = 5;
    private static final int WAIT = 6;
    private static final int FIRST_OWN_VERB = 7;
    private static final int LAST_VERB = 8;

    private static final int REFUSED_TEXT = 99;
    private static final int DONE_TEXT = 100;

    private static final int PLAYER_IN = 0;
    private static final int THING_AT = 1;
    private static final int THING_OPEN = 2;
    private static final int NUMBER_OR_MORE = 3;
    private static final int NUMBER_OR_LESS = 4;
    private static final int NUMBER_GROWS = 3;
    private static final int PLAY_OVER = 4;
    private static final int LAST_CLAUSE_KIND = 4;

    private final Engine engine;
    private final World world;
    private final Atlas atlas;
    private final long[] line;
    private final int[] texts;
    private int turns;
    private int textCount;

    public StoryStates() {
        engine = new Engine();
        world = engine.world;
        atlas = new Atlas();
        line = new long[MOST_TURNS + 1];
        texts = new int[TEXTS_A_TURN];
        turns = 0;
        textCount = 0;
    }

    public void clear() {
        world.becomeEmpty();
        startAnew();
    }

    public int room() throws IllegalStateException {
        mustBeAble(world.rooms < MOST_ROOMS);
        int number = world.addRoom();
        startAnew();
        return number;
    }

    public void exit(int from, int direction, int to, int door)
            throws IndexOutOfBoundsException, IllegalArgumentException {
        mustBeThere(world.hasRoom(from) && world.hasRoom(to) && (door == NONE || world.hasThing(door)));
        mustFit(isFrom(direction, 0, DIRECTIONS - 1));
        world.setExit(from, direction, to, door);
        startAnew();
    }

    public int thing(int place, int kind)
            throws IndexOutOfBoundsException, IllegalArgumentException, IllegalStateException {
        mustBeThere(world.hasPlace(place));
        mustFit(isThingKind(kind));
        mustBeAble(world.things < MOST_THINGS);
        int number = world.addThing(place, kind);
        startAnew();
        return number;
    }

    public int number(int first, int most) throws IllegalArgumentException, IllegalStateException {
        mustFit(isFrom(most, 1, MOST_AMOUNT) && isFrom(first, 0, most));
        mustBeAble(world.numbers < MOST_NUMBERS);
        int number = world.addNumber(first, most);
        startAnew();
        return number;
    }

    public int ending(boolean good) throws IllegalStateException {
        mustBeAble(world.endings < MOST_ENDINGS);
        int number = world.addEnding(good);
        startAnew();
        return number;
    }

    public int rule(int verb, int first, int second, int text)
            throws IllegalArgumentException, IllegalStateException {
        mustFit(isFrom(verb, GO, LAST_VERB) && isFrom(text, 0, MOST_TEXT));
        mustFit(isFrom(first, ANY, MOST_THINGS - 1) && isFrom(second, ANY, MOST_THINGS - 1));
        mustBeAble(world.rules.size < MOST_RULES);
        int number = world.rules.append(verb, first, second, text);
        startAnew();
        return number;
    }

    public void condition(int rule, int kind, int x, int y)
            throws IndexOutOfBoundsException, IllegalArgumentException, IllegalStateException {
        mustBeThere(world.hasRule(rule));
        mustFit(isFrom(kind, 0, LAST_CLAUSE_KIND));
        mustBeThere(world.hasSubject(kind, x));
        mustBeThere(kind != THING_AT || world.hasPlace(y));
        mustFit(isConditionLevel(kind, y));
        mustBeAble(world.rules.conditions.hasSpace(rule));
        world.rules.conditions.append(rule, kind, x, y);
        startAnew();
    }

    public void effect(int rule, int kind, int x, int y)
            throws IndexOutOfBoundsException, IllegalArgumentException, IllegalStateException {
        mustBeThere(world.hasRule(rule));
        mustFit(isFrom(kind, 0, LAST_CLAUSE_KIND));
        mustBeThere(kind == PLAY_OVER ? world.hasEnding(x) : world.hasSubject(kind, x));
        mustBeThere(kind != THING_AT || world.hasPlace(y));
        mustFit(isEffectLevel(kind, y));
        mustBeAble(world.rules.effects.hasSpace(rule));
        world.rules.effects.append(rule, kind, x, y);
        startAnew();
    }

    public void walker(int thing, int first, int second, int third)
            throws IndexOutOfBoundsException, IllegalStateException {
        mustBeThere(world.hasThing(thing));
        mustBeThere(world.hasRoom(first) && world.hasRoom(second) && world.hasRoom(third));
        mustBeAble(world.walkers < MOST_WALKERS && !world.isWalker(thing));
        world.addWalker(thing, first, second, third);
        startAnew();
    }

    public void timer(int rule, int count)
            throws IndexOutOfBoundsException, IllegalArgumentException, IllegalStateException {
        mustBeThere(world.hasRule(rule));
        mustFit(isFrom(count, 1, MOST_COUNT));
        mustBeAble(world.timers < MOST_TIMERS && !world.rules.ofTimer[rule]);
        world.addTimer(rule, count);
        startAnew();
    }

    public void begin() throws IllegalStateException {
        mustBeAble(world.rooms > 0);
        startPlay();
    }

    public int command(int verb, int a, int b) throws IllegalArgumentException, IllegalStateException {
        mustFit(world.hasCommand(verb, a, b));
        mustBeAble(world.rooms > 0 && turns < MOST_TURNS);
        if (Bits.isOver(line[turns])) {
            return NONE;
        }
        line[turns + 1] = engine.take(line[turns], verb, a, b);
        turns++;
        // exploring takes turns with the same engine, so what this turn said is kept apart
        textCount = engine.textCount;
        System.arraycopy(engine.texts, 0, texts, 0, textCount);
        return textCount;
    }

    public int said(int i) {
        return isFrom(i, 0, textCount - 1) ? texts[i] : NONE;
    }

    public boolean undo() {
        textCount = 0;
        if (turns == 0) {
            return false;
        }
        turns--;
        return true;
    }

    public int state(int what, int x)
            throws IndexOutOfBoundsException, IllegalArgumentException, IllegalStateException {
        mustBeThere(hasAsked(what, x));
        mustFit(isFrom(what, 0, 8));
        mustBeAble(world.rooms > 0);
        long now = line[turns];
        switch (what) {
            case 0: return Bits.roomOf(now);
            case 1: return Bits.placeOf(now, x);
            case 2: return Bits.isOpen(now, x) ? 1 : 0;
            case 3: return Bits.amountOf(now, x);
            case 4: return Bits.endingOf(now);
            case 5: return turns;
            case 6: return Bits.isSeen(now, x) ? 1 : 0;
            case 7: return Bits.countOf(now, x);
            default: return Bits.stepOf(now, x);
        }
    }

    public int explore(int fuel) throws IllegalStateException, IllegalArgumentException {
        mustBeAble(world.rooms > 0);
        mustFit(isFrom(fuel, 0, MOST_FUEL));
        if (atlas.found == 0) {
            atlas.open(world);
        }
        for (int i = 0; i < fuel && atlas.hasMore(); i++) {
            atlas.goThroughNext(engine);
        }
        if (atlas.limitMet) {
            return 2;
        }
        return atlas.isFinished() ? 1 : 0;
    }

    public int reach(int ending, boolean length) throws IllegalStateException, IndexOutOfBoundsException {
        mustBeAble(world.rooms > 0);
        mustBeThere(world.hasEnding(ending));
        int over = atlas.firstOverWith(ending);
        if (length) {
            return over == NONE ? NONE : atlas.depthOf(over);
        }
        if (over != NONE) {
            return 1;
        }
        return atlas.isFinished() ? 0 : 2;
    }

    public int way(int ending, int i, int what) throws IllegalStateException, IndexOutOfBoundsException {
        mustBeAble(world.rooms > 0);
        mustBeThere(world.hasEnding(ending));
        int over = atlas.firstOverWith(ending);
        if (over == NONE || !isFrom(i, 0, atlas.depthOf(over) - 1)) {
            return NONE;
        }
        int code = atlas.codeOnWay(over, i);
        switch (what) {
            case 0: return Code.verbOf(code);
            case 1: return Code.firstOf(code);
            case 2: return Code.secondOf(code);
            default: return NONE;
        }
    }

    public int study(int what, int i) throws IllegalStateException, IllegalArgumentException {
        mustBeAble(world.rooms > 0);
        mustFit(isFrom(what, 0, 4));
        if (what == 0) {
            return Math.max(atlas.found, 1);
        }
        if (!atlas.isFinished()) {
            return what == 1 ? 2 : NONE;
        }
        switch (what) {
            case 1: return atlas.isHopeless(line[turns]) ? 1 : 0;
            case 2: return spoilingTurn();
            case 3: return atlas.countStuck();
            default: return atlas.idleRule(i, world.rules.size);
        }
    }

    /** No hopeful state comes behind a hopeless one, so the first hopeful one going back decides. */
    private int spoilingTurn() {
        if (!atlas.isHopeless(line[turns])) {
            return NONE;
        }
        for (int turn = turns - 1; turn >= 0; turn--) {
            if (!atlas.isHopeless(line[turn])) {
                return turn;
            }
        }
        return NONE;
    }

    private void startAnew() {
        startPlay();
        atlas.forget();
    }

    private void startPlay() {
        line[0] = world.firstState();
        turns = 0;
        textCount = 0;
    }

    private boolean hasAsked(int what, int x) {
        switch (what) {
            case 1:
            case 2:
            case 6: return world.hasThing(x);
            case 3: return world.hasNumber(x);
            case 7: return isFrom(x, 0, world.timers - 1);
            case 8: return isFrom(x, 0, world.walkers - 1);
            default: return true;
        }
    }

    private static boolean isThingKind(int kind) {
        boolean openAtFirst = (kind & OPEN_AT_FIRST) != 0;
        return isFrom(kind, 0, 7) && (!openAtFirst || (kind & MAY_OPEN) != 0);
    }

    private static boolean isConditionLevel(int kind, int y) {
        switch (kind) {
            case THING_OPEN: return isFrom(y, 0, 1);
            case NUMBER_OR_MORE:
            case NUMBER_OR_LESS: return isFrom(y, 0, MOST_AMOUNT);
            default: return true;
        }
    }

    private static boolean isEffectLevel(int kind, int y) {
        switch (kind) {
            case THING_OPEN: return isFrom(y, 0, 1);
            case NUMBER_GROWS: return isFrom(y, -MOST_AMOUNT, MOST_AMOUNT);
            default: return true;
        }
    }

    private static boolean isFrom(int value, int least, int most) {
        return value >= least && value <= most;
    }

    private static void mustBeThere(boolean there) {
        if (!there) {
            throw new IndexOutOfBoundsException();
        }
    }

    private static void mustFit(boolean fits) {
        if (!fits) {
            throw new IllegalArgumentException();
        }
    }

    private static void mustBeAble(boolean able) {
        if (!able) {
            throw new IllegalStateException();
        }
    }

    /** A state is one long, so that states are kept, compared and found again without making objects. */
    private static final class Bits {
        private static final int PLACES_AT = 3;
        private static final int OPEN_AT = 27;
        private static final int AMOUNTS_AT = 33;
        private static final int STEPS_AT = 42;
        private static final int COUNTS_AT = 46;
        private static final int ENDING_AT = 54;

        static int roomOf(long state) {
            return (int) state & 7;
        }

        static long withRoom(long state, int room) {
            return write(state, 0, 7, room);
        }

        static int placeOf(long state, int thing) {
            return (int) (state >>> (PLACES_AT + 4 * thing)) & 15;
        }

        static long withPlace(long state, int thing, int place) {
            return write(state, PLACES_AT + 4 * thing, 15, place);
        }

        static boolean isOpen(long state, int thing) {
            return ((state >>> (OPEN_AT + thing)) & 1) != 0;
        }

        static long withOpen(long state, int thing, int open) {
            return write(state, OPEN_AT + thing, 1, open);
        }

        static int amountOf(long state, int number) {
            return (int) (state >>> (AMOUNTS_AT + 3 * number)) & 7;
        }

        static long withAmount(long state, int number, int amount) {
            return write(state, AMOUNTS_AT + 3 * number, 7, amount);
        }

        static int stepOf(long state, int walker) {
            return (int) (state >>> (STEPS_AT + 2 * walker)) & 3;
        }

        static long withStep(long state, int walker, int step) {
            return write(state, STEPS_AT + 2 * walker, 3, step);
        }

        static int countOf(long state, int timer) {
            return (int) (state >>> (COUNTS_AT + 4 * timer)) & 15;
        }

        static long withCount(long state, int timer, int count) {
            return write(state, COUNTS_AT + 4 * timer, 15, count);
        }

        static boolean isOver(long state) {
            return endingOf(state) != NONE;
        }

        /** Kept as one more than it is, so that 0 bits are a play that is not over. */
        static int endingOf(long state) {
            return ((int) (state >>> ENDING_AT) & 7) - 1;
        }

        static long withEnding(long state, int ending) {
            return write(state, ENDING_AT, 7, ending + 1);
        }

        static boolean isSeen(long state, int thing) {
            int place = placeOf(state, thing);
            for (int depth = 0; depth < MOST_THINGS && place >= INSIDE; depth++) {
                if (!isOpen(state, place - INSIDE)) {
                    return false;
                }
                place = placeOf(state, place - INSIDE);
            }
            return place == HANDS || place == roomOf(state);
        }

        /** Whether a thing is another or is in it at any depth. */
        static boolean isPartOf(long state, int thing, int outer) {
            int at = thing;
            for (int depth = 0; depth < MOST_THINGS && at >= 0; depth++) {
                if (at == outer) {
                    return true;
                }
                at = placeOf(state, at) - INSIDE;
            }
            return false;
        }

        private static long write(long state, int at, int mask, int value) {
            return (state & ~((long) mask << at)) | ((long) (value & mask) << at);
        }
    }

    /** A command is one int, and these ints grow in the order in which commands are tried. */
    private static final class Code {
        static int of(int verb, int a, int b) {
            return (verb << 6) | ((a + 1) << 3) | (b + 1);
        }

        static int verbOf(int code) {
            return code >> 6;
        }

        static int firstOf(int code) {
            return ((code >> 3) & 7) - 1;
        }

        static int secondOf(int code) {
            return (code & 7) - 1;
        }
    }

    /** The conditions, or the effects, of all rules: each rule has its own stretch of the rows. */
    private static final class Clauses {
        final int[] sizes = new int[MOST_RULES];
        final int[] kinds = new int[MOST_RULES * MOST_CLAUSES];
        final int[] xs = new int[MOST_RULES * MOST_CLAUSES];
        final int[] ys = new int[MOST_RULES * MOST_CLAUSES];

        boolean hasSpace(int rule) {
            return sizes[rule] < MOST_CLAUSES;
        }

        int startOf(int rule) {
            return rule * MOST_CLAUSES;
        }

        int endOf(int rule) {
            return rule * MOST_CLAUSES + sizes[rule];
        }

        void append(int rule, int kind, int x, int y) {
            int at = endOf(rule);
            kinds[at] = kind;
            xs[at] = x;
            ys[at] = y;
            sizes[rule]++;
        }
    }

    private static final class Rules {
        final int[] verbs = new int[MOST_RULES];
        final int[] firsts = new int[MOST_RULES];
        final int[] seconds = new int[MOST_RULES];
        final int[] texts = new int[MOST_RULES];
        final boolean[] ofTimer = new boolean[MOST_RULES];
        final Clauses conditions = new Clauses();
        final Clauses effects = new Clauses();
        int size;

        int append(int verb, int first, int second, int text) {
            verbs[size] = verb;
            firsts[size] = first;
            seconds[size] = second;
            texts[size] = text;
            ofTimer[size] = false;
            conditions.sizes[size] = 0;
            effects.sizes[size] = 0;
            return size++;
        }

        boolean answers(int rule, int verb, int a, int b) {
            return verbs[rule] == verb
                    && (firsts[rule] == ANY || firsts[rule] == a)
                    && (seconds[rule] == ANY || seconds[rule] == b)
                    && !ofTimer[rule];
        }
    }

    /** What was built; callers have looked at their arguments before they add anything. */
    private static final class World {
        final int[] exitRooms = new int[MOST_ROOMS * DIRECTIONS];
        final int[] exitDoors = new int[MOST_ROOMS * DIRECTIONS];
        final int[] places = new int[MOST_THINGS];
        final int[] kinds = new int[MOST_THINGS];
        final int[] firstAmounts = new int[MOST_NUMBERS];
        final int[] mostAmounts = new int[MOST_NUMBERS];
        final boolean[] isGood = new boolean[MOST_ENDINGS];
        final Rules rules = new Rules();
        final int[] walkerThings = new int[MOST_WALKERS];
        final int[] walkerRooms = new int[MOST_WALKERS * WALKER_ROOMS];
        final int[] timerRules = new int[MOST_TIMERS];
        final int[] timerCounts = new int[MOST_TIMERS];
        int rooms;
        int things;
        int numbers;
        int endings;
        int walkers;
        int timers;

        void becomeEmpty() {
            rooms = 0;
            things = 0;
            numbers = 0;
            endings = 0;
            rules.size = 0;
            walkers = 0;
            timers = 0;
        }

        boolean hasRoom(int x) {
            return isFrom(x, 0, rooms - 1);
        }

        boolean hasThing(int x) {
            return isFrom(x, 0, things - 1);
        }

        boolean hasNumber(int x) {
            return isFrom(x, 0, numbers - 1);
        }

        boolean hasEnding(int x) {
            return isFrom(x, 0, endings - 1);
        }

        boolean hasRule(int x) {
            return isFrom(x, 0, rules.size - 1);
        }

        boolean hasPlace(int place) {
            return hasRoom(place) || isFrom(place, HANDS, INSIDE + things - 1);
        }

        /** For conditions; effects are about the same, but for the last kind. */
        boolean hasSubject(int kind, int x) {
            switch (kind) {
                case PLAYER_IN: return hasRoom(x);
                case THING_AT:
                case THING_OPEN: return hasThing(x);
                default: return hasNumber(x);
            }
        }

        boolean hasCommand(int verb, int a, int b) {
            switch (verb) {
                case GO: return isFrom(a, 0, DIRECTIONS - 1) && b == NONE;
                case TAKE:
                case DROP:
                case OPEN:
                case CLOSE: return hasThing(a) && b == NONE;
                case PUT: return hasThing(a) && hasThing(b);
                case WAIT: return a == NONE && b == NONE;
                case FIRST_OWN_VERB:
                case LAST_VERB: return (a == NONE || hasThing(a)) && (b == NONE || hasThing(b));
                default: return false;
            }
        }

        boolean isWalker(int thing) {
            for (int walker = 0; walker < walkers; walker++) {
                if (walkerThings[walker] == thing) {
                    return true;
                }
            }
            return false;
        }

        int addRoom() {
            for (int direction = 0; direction < DIRECTIONS; direction++) {
                setExit(rooms, direction, NONE, NONE);
            }
            return rooms++;
        }

        void setExit(int from, int direction, int to, int door) {
            exitRooms[from * DIRECTIONS + direction] = to;
            exitDoors[from * DIRECTIONS + direction] = door;
        }

        int addThing(int place, int kind) {
            places[things] = place;
            kinds[things] = kind;
            return things++;
        }

        int addNumber(int first, int most) {
            firstAmounts[numbers] = first;
            mostAmounts[numbers] = most;
            return numbers++;
        }

        int addEnding(boolean good) {
            isGood[endings] = good;
            return endings++;
        }

        void addWalker(int thing, int first, int second, int third) {
            walkerThings[walkers] = thing;
            walkerRooms[walkers * WALKER_ROOMS] = first;
            walkerRooms[walkers * WALKER_ROOMS + 1] = second;
            walkerRooms[walkers * WALKER_ROOMS + 2] = third;
            places[thing] = first;
            walkers++;
        }

        void addTimer(int rule, int count) {
            timerRules[timers] = rule;
            timerCounts[timers] = count;
            rules.ofTimer[rule] = true;
            timers++;
        }

        long firstState() {
            long state = 0;
            for (int thing = 0; thing < things; thing++) {
                state = Bits.withPlace(state, thing, places[thing]);
                state = Bits.withOpen(state, thing, (kinds[thing] & OPEN_AT_FIRST) != 0 ? 1 : 0);
            }
            for (int number = 0; number < numbers; number++) {
                state = Bits.withAmount(state, number, firstAmounts[number]);
            }
            for (int timer = 0; timer < timers; timer++) {
                state = Bits.withCount(state, timer, timerCounts[timer]);
            }
            return state;
        }
    }

    /** Takes turns of its world, from whatever state it is given. */
    private static final class Engine {
        final World world = new World();
        final int[] texts = new int[TEXTS_A_TURN];
        int textCount;
        int rulesDone;
        private long now;

        long take(long before, int verb, int a, int b) {
            now = before;
            textCount = 0;
            rulesDone = 0;
            int fitting = fittingRule(verb, a, b);
            if (fitting != NONE) {
                doRule(fitting);
            } else {
                say(actWithoutRule(verb, a, b) ? DONE_TEXT + verb : REFUSED_TEXT);
            }
            if (!Bits.isOver(now)) {
                stepWalkers();
            }
            for (int timer = 0; timer < world.timers && !Bits.isOver(now); timer++) {
                int rule = world.timerRules[timer];
                if (runsOut(timer) && conditionsHold(rule)) {
                    doRule(rule);
                }
            }
            return now;
        }

        private int fittingRule(int verb, int a, int b) {
            if (verb != GO && !(isSeenOrNone(a) && isSeenOrNone(b))) {
                return NONE;
            }
            for (int rule = 0; rule < world.rules.size; rule++) {
                if (world.rules.answers(rule, verb, a, b) && conditionsHold(rule)) {
                    return rule;
                }
            }
            return NONE;
        }

        private boolean isSeenOrNone(int thing) {
            return thing == NONE || Bits.isSeen(now, thing);
        }

        private boolean conditionsHold(int rule) {
            Clauses conditions = world.rules.conditions;
            int end = conditions.endOf(rule);
            for (int at = conditions.startOf(rule); at < end; at++) {
                if (!holds(conditions.kinds[at], conditions.xs[at], conditions.ys[at])) {
                    return false;
                }
            }
            return true;
        }

        private boolean holds(int kind, int x, int y) {
            switch (kind) {
                case PLAYER_IN: return Bits.roomOf(now) == x;
                case THING_AT: return Bits.placeOf(now, x) == y;
                case THING_OPEN: return Bits.isOpen(now, x) == (y == 1);
                case NUMBER_OR_MORE: return Bits.amountOf(now, x) >= y;
                default: return Bits.amountOf(now, x) <= y;
            }
        }

        private void doRule(int rule) {
            rulesDone |= 1 << rule;
            say(world.rules.texts[rule]);
            Clauses effects = world.rules.effects;
            int end = effects.endOf(rule);
            for (int at = effects.startOf(rule); at < end && !Bits.isOver(now); at++) {
                doEffect(effects.kinds[at], effects.xs[at], effects.ys[at]);
            }
        }

        private void doEffect(int kind, int x, int y) {
            switch (kind) {
                case PLAYER_IN:
                    now = Bits.withRoom(now, x);
                    break;
                case THING_AT:
                    if (y < INSIDE || !Bits.isPartOf(now, y - INSIDE, x)) {
                        now = Bits.withPlace(now, x, y);
                    }
                    break;
                case THING_OPEN:
                    now = Bits.withOpen(now, x, y);
                    break;
                case NUMBER_GROWS:
                    int grown = Bits.amountOf(now, x) + y;
                    now = Bits.withAmount(now, x, Math.max(0, Math.min(grown, world.mostAmounts[x])));
                    break;
                default:
                    now = Bits.withEnding(now, x);
                    break;
            }
        }

        /** Answers whether the command could be done. */
        private boolean actWithoutRule(int verb, int a, int b) {
            switch (verb) {
                case GO: return goThrough(a);
                case TAKE: return takeUp(a);
                case DROP: return putDown(a);
                case OPEN: return turnLid(a, 1);
                case CLOSE: return turnLid(a, 0);
                case PUT: return putInto(a, b);
                default: return verb == WAIT;
            }
        }

        private boolean goThrough(int direction) {
            int at = Bits.roomOf(now) * DIRECTIONS + direction;
            int door = world.exitDoors[at];
            if (world.exitRooms[at] == NONE || (door != NONE && !Bits.isOpen(now, door))) {
                return false;
            }
            now = Bits.withRoom(now, world.exitRooms[at]);
            return true;
        }

        private boolean takeUp(int thing) {
            if ((world.kinds[thing] & MAY_TAKE) == 0 || Bits.placeOf(now, thing) == HANDS
                    || !Bits.isSeen(now, thing)) {
                return false;
            }
            now = Bits.withPlace(now, thing, HANDS);
            return true;
        }

        private boolean putDown(int thing) {
            if (Bits.placeOf(now, thing) != HANDS) {
                return false;
            }
            now = Bits.withPlace(now, thing, Bits.roomOf(now));
            return true;
        }

        private boolean turnLid(int thing, int open) {
            if ((world.kinds[thing] & MAY_OPEN) == 0 || Bits.isOpen(now, thing) == (open == 1)
                    || !Bits.isSeen(now, thing)) {
                return false;
            }
            now = Bits.withOpen(now, thing, open);
            return true;
        }

        private boolean putInto(int thing, int box) {
            if (Bits.placeOf(now, thing) != HANDS || (world.kinds[box] & MAY_OPEN) == 0
                    || !Bits.isOpen(now, box) || !Bits.isSeen(now, box)
                    || Bits.isPartOf(now, box, thing)) {
                return false;
            }
            now = Bits.withPlace(now, thing, INSIDE + box);
            return true;
        }

        private void stepWalkers() {
            for (int walker = 0; walker < world.walkers; walker++) {
                int thing = world.walkerThings[walker];
                if (Bits.placeOf(now, thing) < MOST_ROOMS) {
                    int before = Bits.stepOf(now, walker);
                    int step = before < WALKER_ROOMS - 1 ? before + 1 : 0;
                    now = Bits.withStep(now, walker, step);
                    now = Bits.withPlace(now, thing, world.walkerRooms[walker * WALKER_ROOMS + step]);
                }
            }
        }

        /** Counts a timer down; answers whether that brought it to 0. */
        private boolean runsOut(int timer) {
            int count = Bits.countOf(now, timer);
            if (count == 0) {
                return false;
            }
            now = Bits.withCount(now, timer, count - 1);
            return count == 1;
        }

        private void say(int text) {
            if (textCount < TEXTS_A_TURN) {
                texts[textCount] = text;
                textCount++;
            }
        }
    }

    /** The states found, how each was come by, and to which others each one leads. */
    private static final class Atlas {
        private static final int MOST_COMMANDS = 163;
        private static final int SLOT_BITS = 9;
        private static final int SLOTS = 1 << SLOT_BITS;
        private static final long MIXER = 0x9E3779B97F4A7C15L;
        private static final int WORD_BITS = 64;
        private static final int WORDS = 3;

        private final int[] codes = new int[MOST_COMMANDS];
        private int codeCount;
        private final long[] states = new long[MOST_STATES];
        private final int[] origins = new int[MOST_STATES];
        private final int[] codesHere = new int[MOST_STATES];
        /** Numbers of states plus 1, each at a slot told by its state's bits; 0 is a free slot. */
        private final int[] slots = new int[SLOTS];
        /** A set of states, as bits, for each state: those that one command leads to. */
        private final long[] leads = new long[MOST_STATES * WORDS];
        private final long[] hopeful = new long[WORDS];
        private int rulesDone;
        private int gone;
        int found;
        boolean limitMet;

        void forget() {
            found = 0;
            gone = 0;
            limitMet = false;
            rulesDone = 0;
        }

        void open(World world) {
            Arrays.fill(slots, 0);
            listCommands(world);
            long first = world.firstState();
            append(first, slotOf(first), 0, 0);
        }

        private void listCommands(World world) {
            codeCount = 0;
            for (int verb = GO; verb <= LAST_VERB; verb++) {
                for (int a = NONE; a < MOST_THINGS; a++) {
                    for (int b = NONE; b < MOST_THINGS; b++) {
                        if (codeCount < MOST_COMMANDS && world.hasCommand(verb, a, b)) {
                            codes[codeCount] = Code.of(verb, a, b);
                            codeCount++;
                        }
                    }
                }
            }
        }

        boolean hasMore() {
            return gone < found && !limitMet;
        }

        boolean isFinished() {
            return found > 0 && gone == found;
        }

        void goThroughNext(Engine engine) {
            if (!hasMore()) {
                return;
            }
            long from = states[gone];
            int tries = Bits.isOver(from) ? 0 : codeCount;
            for (int i = 0; i < tries && !limitMet; i++) {
                int code = codes[i];
                long after = engine.take(from, Code.verbOf(code), Code.firstOf(code), Code.secondOf(code));
                rulesDone |= engine.rulesDone;
                note(after, code);
            }
            if (!limitMet) {
                gone++;
            }
            if (isFinished()) {
                findHope(engine.world);
            }
        }

        /** Notes that the state gone through now leads to another by a command. */
        private void note(long after, int code) {
            int slot = slotOf(after);
            if (slots[slot] == 0) {
                if (found == MOST_STATES) {
                    limitMet = true;
                    return;
                }
                append(after, slot, gone, code);
            }
            addTo(leads, gone * WORDS, slots[slot] - 1);
        }

        private void append(long state, int slot, int origin, int code) {
            states[found] = state;
            origins[found] = origin;
            codesHere[found] = code;
            for (int word = 0; word < WORDS; word++) {
                leads[found * WORDS + word] = 0L;
            }
            found++;
            slots[slot] = found;
        }

        /** The slot that has a state, or the free one where it belongs. */
        private int slotOf(long state) {
            int slot = (int) ((state * MIXER) >>> (WORD_BITS - SLOT_BITS));
            for (int tried = 0; tried < SLOTS; tried++) {
                if (slots[slot] == 0 || states[slots[slot] - 1] == state) {
                    return slot;
                }
                slot = (slot + 1) & (SLOTS - 1);
            }
            return slot;
        }

        /** Goes over the states until nothing changes, as a lead may go to a later or an earlier one. */
        private void findHope(World world) {
            Arrays.fill(hopeful, 0L);
            boolean changed = true;
            for (int round = 0; round <= MOST_STATES && changed; round++) {
                changed = false;
                for (int number = found - 1; number >= 0; number--) {
                    if (!isHopeful(number) && (isWon(number, world) || leadsToHope(number))) {
                        addTo(hopeful, 0, number);
                        changed = true;
                    }
                }
            }
        }

        private boolean isWon(int number, World world) {
            int ending = Bits.endingOf(states[number]);
            return world.hasEnding(ending) && world.isGood[ending];
        }

        private boolean leadsToHope(int number) {
            for (int word = 0; word < WORDS; word++) {
                if ((leads[number * WORDS + word] & hopeful[word]) != 0) {
                    return true;
                }
            }
            return false;
        }

        private boolean isHopeful(int number) {
            return ((hopeful[number / WORD_BITS] >>> (number % WORD_BITS)) & 1) != 0;
        }

        private static void addTo(long[] sets, int start, int number) {
            sets[start + number / WORD_BITS] |= 1L << (number % WORD_BITS);
        }

        boolean isHopeless(long state) {
            int number = slots[slotOf(state)] - 1;
            return number == NONE || !isHopeful(number);
        }

        int countStuck() {
            int stuck = 0;
            for (int number = 0; number < found; number++) {
                if (!Bits.isOver(states[number]) && leadsOnlyToItself(number)) {
                    stuck++;
                }
            }
            return stuck;
        }

        private boolean leadsOnlyToItself(int number) {
            for (int word = 0; word < WORDS; word++) {
                long itself = word == number / WORD_BITS ? 1L << (number % WORD_BITS) : 0L;
                if (leads[number * WORDS + word] != itself) {
                    return false;
                }
            }
            return true;
        }

        int idleRule(int i, int rules) {
            int before = 0;
            for (int rule = 0; rule < rules; rule++) {
                if (((rulesDone >> rule) & 1) == 0) {
                    if (before == i) {
                        return rule;
                    }
                    before++;
                }
            }
            return NONE;
        }

        int firstOverWith(int ending) {
            for (int number = 0; number < found; number++) {
                if (Bits.endingOf(states[number]) == ending) {
                    return number;
                }
            }
            return NONE;
        }

        int depthOf(int number) {
            int depth = 0;
            for (int at = number; at > 0 && depth < MOST_STATES; at = origins[at]) {
                depth++;
            }
            return depth;
        }

        int codeOnWay(int number, int i) {
            int at = number;
            for (int depth = depthOf(number) - 1; depth > i; depth--) {
                at = origins[at];
            }
            return codesHere[at];
        }
    }
}
