import java.util.ArrayList;
import java.util.List;
import java.util.Random;

/** Runs of calls drawn from fixed seeds: the program and the model answer alike. */
public final class ModelTest {
    private static final int RUNS = 2500;
    private static final int CALLS = 512;

    private final Random random;
    private final StoryStates program = new StoryStates();
    private final Model model = new Model();
    private final List<String> log = new ArrayList<>();
    /** How rich the run's world may get: small ones can be explored to their end, in 4 all that may be is used. */
    private final int size;

    private static int finished = 0;
    private static int limits = 0;
    private static int hopeless = 0;
    private static int spoiled = 0;
    private static int overs = 0;
    private static int stuck = 0;
    private static int longWays = 0;

    private ModelTest(long seed) {
        random = new Random(seed);
        int drawn = random.nextInt(4);
        size = drawn == 3 ? 4 : drawn;
    }

    public static void main(String[] args) {
        int wrong = 0;
        for (int run = 0; run < RUNS && wrong < 3; run++) {
            String told = new ModelTest(run).differs();
            Check.count("run " + run, "alike", told == null ? "alike" : told);
            wrong += told == null ? 0 : 1;
        }
        Check.count("runs meet what they should", "true", String.valueOf(finished > 500 && limits > 500
                && hopeless > 500 && spoiled > 100 && overs > 500 && stuck > 50 && longWays > 50));
        System.out.println("met: finished " + finished + ", limit " + limits + ", hopeless " + hopeless + ", spoiled "
                + spoiled + ", over " + overs + ", stuck " + stuck + ", ways of 3 or more " + longWays);
        Check.end("ModelTest");
    }

    /** The calls up to the first one answered otherwise, or null. */
    private String differs() {
        int building = (size == 4 ? 80 : 20) + random.nextInt(60);
        for (int i = 0; i < building; i++) {
            if (!build()) {
                return String.join("\n", log);
            }
        }
        for (int i = 0; i < 150 && log.size() < CALLS; i++) {
            boolean alike = random.nextInt(100) == 0 ? build() : use();
            if (!alike) {
                return String.join("\n", log);
            }
        }
        return null;
    }

    private int pick(int least, int most) {
        return least + random.nextInt(most - least + 1);
    }

    /** Mostly from a range, sometimes just outside it or far away. */
    private int near(int least, int most) {
        switch (random.nextInt(60)) {
            case 0: return least - 1;
            case 1: return most + 1;
            case 2: return random.nextBoolean() ? Integer.MAX_VALUE : Integer.MIN_VALUE;
            default: return pick(least, most);
        }
    }

    private int aRoom() {
        return near(0, size + 1);
    }

    private int aThing() {
        return near(0, size + 1);
    }

    private int aPlace() {
        switch (random.nextInt(3)) {
            case 0: return aRoom();
            case 1: return near(6, 7);
            default: return 7 + aThing();
        }
    }

    private boolean build() {
        switch (random.nextInt(size == 0 ? 22 : 26)) {
            case 0:
                return same("room()", program::room, model::room);
            case 1:
            case 2: {
                int f = aRoom(), d = near(0, 3), t = aRoom(), o = random.nextInt(3) > 0 ? -1 : aThing();
                return same("exit(" + f + ", " + d + ", " + t + ", " + o + ")",
                        deed(() -> program.exit(f, d, t, o)), deed(() -> model.exit(f, d, t, o)));
            }
            case 3: {
                int p = aPlace(), k = near(0, 7);
                return same("thing(" + p + ", " + k + ")", () -> program.thing(p, k), () -> model.thing(p, k));
            }
            case 4: {
                int m = near(1, 1 + 3 * size), f = near(0, Math.max(0, Math.min(m, 7)));
                return same("number(" + f + ", " + m + ")", () -> program.number(f, m), () -> model.number(f, m));
            }
            case 5: {
                boolean g = random.nextBoolean();
                return same("ending(" + g + ")", () -> program.ending(g), () -> model.ending(g));
            }
            case 6:
            case 7:
            case 8: {
                int v = random.nextInt(4) == 0 ? 6 : near(0, 8);
                int a = v == 6 ? pick(-2, -1) : near(-2, v == 0 ? 3 : size + 1);
                int b = random.nextInt(3) > 0 ? -2 : near(-2, 2);
                int t = near(0, 98);
                return same("rule(" + v + ", " + a + ", " + b + ", " + t + ")",
                        () -> program.rule(v, a, b, t), () -> model.rule(v, a, b, t));
            }
            case 9:
            case 10:
            case 11:
            case 12:
            case 13:
                return buildClause(true);
            case 14:
            case 15:
            case 16:
            case 17:
            case 18:
            case 19:
                return buildClause(false);
            case 20: {
                int r = near(0, size == 4 ? 11 : 3), c = near(1, random.nextInt(4) == 0 ? 15 : 3);
                return same("timer(" + r + ", " + c + ")",
                        deed(() -> program.timer(r, c)), deed(() -> model.timer(r, c)));
            }
            case 21: {
                if (random.nextInt(100) == 0) {
                    return same("clear()", deed(program::clear), deed(model::clear));
                }
                return same("room()", program::room, model::room);
            }
            case 22: {
                int t = aThing(), a = aRoom(), b = aRoom(), c = aRoom();
                return same("walker(" + t + ", " + a + ", " + b + ", " + c + ")",
                        deed(() -> program.walker(t, a, b, c)), deed(() -> model.walker(t, a, b, c)));
            }
            case 23:
            case 24: {
                int r = near(0, 3);
                return same("effect(" + r + ", 4, 0, 0)",
                        deed(() -> program.effect(r, 4, 0, 0)), deed(() -> model.effect(r, 4, 0, 0)));
            }
            default: {
                int p = aPlace(), k = near(0, 7);
                return same("thing(" + p + ", " + k + ")", () -> program.thing(p, k), () -> model.thing(p, k));
            }
        }
    }

    private boolean buildClause(boolean isCondition) {
        int r = near(0, size == 4 ? 11 : 4), k = near(0, 4), x = near(0, size == 4 && k < 3 ? 5 : 2), y;
        if (k == 1) {
            y = aPlace();
        } else if (k == 2) {
            y = near(0, 1);
        } else if (isCondition) {
            y = near(0, random.nextInt(3) == 0 ? 7 : 2);
        } else {
            y = near(-7, 7);
        }
        String name = "(" + r + ", " + k + ", " + x + ", " + y + ")";
        return isCondition
                ? same("condition" + name, deed(() -> program.condition(r, k, x, y)),
                        deed(() -> model.condition(r, k, x, y)))
                : same("effect" + name, deed(() -> program.effect(r, k, x, y)),
                        deed(() -> model.effect(r, k, x, y)));
    }

    private boolean use() {
        switch (random.nextInt(16)) {
            case 0:
                return random.nextInt(3) > 0 || same("begin()", deed(program::begin), deed(model::begin));
            case 1:
                return same("undo()", program::undo, model::undo);
            case 2:
            case 3: {
                int i = near(0, 2);
                return same("said(" + i + ")", () -> program.said(i), () -> model.said(i));
            }
            case 4:
            case 5: {
                int w = near(0, 8), x = near(0, size == 4 ? 5 : 2);
                return same("state(" + w + ", " + x + ")", () -> program.state(w, x), () -> model.state(w, x));
            }
            case 6: {
                int f = random.nextInt(3) == 0 ? near(0, 1000) : near(0, 20);
                return same("explore(" + f + ")", () -> program.explore(f), () -> model.explore(f));
            }
            case 7: {
                int e = near(0, 2);
                boolean l = random.nextBoolean();
                return same("reach(" + e + ", " + l + ")", () -> program.reach(e, l), () -> model.reach(e, l));
            }
            case 8: {
                int e = near(0, 2), i = near(0, 4), w = near(0, 2);
                return same("way(" + e + ", " + i + ", " + w + ")",
                        () -> program.way(e, i, w), () -> model.way(e, i, w));
            }
            case 9:
            case 10: {
                int w = near(0, 4), i = near(0, 3);
                return same("study(" + w + ", " + i + ")", () -> program.study(w, i), () -> model.study(w, i));
            }
            default:
                return play();
        }
    }

    private boolean play() {
        int v = near(0, 8);
        int a = v == 6 ? near(-1, -1) : near(v >= 7 ? -1 : 0, v == 0 ? 3 : size + 1);
        int b = v == 5 ? near(0, size + 1) : v >= 7 ? near(-1, size + 1) : near(-1, -1);
        return same("command(" + v + ", " + a + ", " + b + ")",
                () -> program.command(v, a, b), () -> model.command(v, a, b))
                && (random.nextBoolean()
                        || same("study(2, 0)", () -> program.study(2, 0), () -> model.study(2, 0)));
    }

    private static Check.Call deed(Check.Deed deed) {
        return () -> Check.outcomeOfDeed(deed);
    }

    private boolean same(String call, Check.Call mine, Check.Call due) {
        String got = Check.outcome(mine);
        String want = Check.outcome(due);
        log.add(call + " answered " + got + (got.equals(want) ? "" : ", the model " + want));
        tally(call, want);
        return got.equals(want);
    }

    private static void tally(String call, String answer) {
        finished += call.startsWith("explore") && answer.equals("1") ? 1 : 0;
        limits += call.startsWith("explore") && answer.equals("2") ? 1 : 0;
        hopeless += call.startsWith("study(1,") && answer.equals("1") ? 1 : 0;
        spoiled += call.startsWith("study(2,") && !answer.equals("-1") && !answer.startsWith("t") ? 1 : 0;
        overs += call.startsWith("command") && answer.equals("-1") ? 1 : 0;
        stuck += call.startsWith("study(3,") && !answer.equals("-1") && !answer.equals("0") && !answer.startsWith("t")
                ? 1 : 0;
        longWays += call.startsWith("reach(") && call.endsWith("true)") && answer.length() == 1
                && answer.charAt(0) >= '3' ? 1 : 0;
    }
}
