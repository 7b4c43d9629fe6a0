import java.util.ArrayList;
import java.util.Arrays;
import java.util.HashSet;
import java.util.LinkedHashMap;
import java.util.List;
import java.util.Map;
import java.util.Set;

/** The document once more, with lists and maps and without a thought for space: ModelTest compares. */
final class Model {
    private static final int NONE = -1;
    private static final int ANY = -2;

    /** A state with all its parts apart. */
    private static final class Scene {
        int room = 0;
        int[] place = new int[6];
        boolean[] open = new boolean[6];
        int[] number = new int[3];
        int[] step = new int[2];
        int[] count = new int[2];
        int over = NONE;

        Scene copy() {
            Scene c = new Scene();
            c.room = room;
            c.place = place.clone();
            c.open = open.clone();
            c.number = number.clone();
            c.step = step.clone();
            c.count = count.clone();
            c.over = over;
            return c;
        }

        String key() {
            return room + Arrays.toString(place) + Arrays.toString(open) + Arrays.toString(number)
                    + Arrays.toString(step) + Arrays.toString(count) + over;
        }
    }

    private static final class Rule {
        int verb;
        int first;
        int second;
        int text;
        boolean timed = false;
        final List<int[]> conditions = new ArrayList<>();
        final List<int[]> effects = new ArrayList<>();
    }

    private static final class Found {
        final Scene scene;
        final Found from;
        final int[] by;

        Found(Scene scene, Found from, int[] by) {
            this.scene = scene;
            this.from = from;
            this.by = by;
        }
    }

    private int rooms;
    private Map<String, int[]> exits;
    private List<int[]> things;
    private List<int[]> numbers;
    private List<Boolean> endings;
    private List<Rule> rules;
    private List<int[]> walkers;
    private List<int[]> timers;

    private List<Scene> play;
    private List<Integer> texts;

    private Map<String, Found> found;
    private List<Found> order;
    private int gone;
    private boolean limit;

    /** Rules done since the last look; told by turn(). */
    private final Set<Integer> fired = new HashSet<>();

    Model() {
        clear();
    }

    void clear() {
        rooms = 0;
        exits = new LinkedHashMap<>();
        things = new ArrayList<>();
        numbers = new ArrayList<>();
        endings = new ArrayList<>();
        rules = new ArrayList<>();
        walkers = new ArrayList<>();
        timers = new ArrayList<>();
        built();
    }

    private void built() {
        restart();
        found = new LinkedHashMap<>();
        order = new ArrayList<>();
        gone = 0;
        limit = false;
        discover(first(), null, null);
    }

    private void restart() {
        play = new ArrayList<>();
        play.add(first());
        texts = new ArrayList<>();
    }

    private Scene first() {
        Scene s = new Scene();
        for (int t = 0; t < things.size(); t++) {
            s.place[t] = things.get(t)[0];
            s.open[t] = things.get(t)[1] >= 4;
        }
        for (int[] w : walkers) {
            s.place[w[0]] = w[1];
        }
        for (int n = 0; n < numbers.size(); n++) {
            s.number[n] = numbers.get(n)[0];
        }
        for (int k = 0; k < timers.size(); k++) {
            s.count[k] = timers.get(k)[1];
        }
        return s;
    }

    private static void index(boolean wrong) {
        if (wrong) {
            throw new IndexOutOfBoundsException();
        }
    }

    private static void argument(boolean wrong) {
        if (wrong) {
            throw new IllegalArgumentException();
        }
    }

    private static void state(boolean wrong) {
        if (wrong) {
            throw new IllegalStateException();
        }
    }

    private boolean noRoom(int r) {
        return r < 0 || r >= rooms;
    }

    private boolean noThing(int t) {
        return t < 0 || t >= things.size();
    }

    private boolean noNumber(int n) {
        return n < 0 || n >= numbers.size();
    }

    private boolean noEnding(int e) {
        return e < 0 || e >= endings.size();
    }

    private boolean noPlace(int p) {
        if (p < 6) {
            return noRoom(p);
        }
        return p != 6 && noThing(p - 7);
    }

    int room() {
        state(rooms == 6);
        rooms++;
        built();
        return rooms - 1;
    }

    void exit(int from, int direction, int to, int door) {
        index(noRoom(from));
        index(noRoom(to));
        index(door != NONE && noThing(door));
        argument(direction < 0 || direction > 3);
        exits.put(from + ":" + direction, new int[] {to, door});
        built();
    }

    int thing(int place, int kind) {
        index(noPlace(place));
        argument(kind < 0 || kind > 7 || kind == 4 || kind == 5);
        state(things.size() == 6);
        things.add(new int[] {place, kind});
        built();
        return things.size() - 1;
    }

    int number(int first, int most) {
        argument(most < 1 || most > 7);
        argument(first < 0 || first > most);
        state(numbers.size() == 3);
        numbers.add(new int[] {first, most});
        built();
        return numbers.size() - 1;
    }

    int ending(boolean good) {
        state(endings.size() == 4);
        endings.add(good);
        built();
        return endings.size() - 1;
    }

    int rule(int verb, int first, int second, int text) {
        argument(verb < 0 || verb > 8);
        argument(first < -2 || first > 5);
        argument(second < -2 || second > 5);
        argument(text < 0 || text > 98);
        state(rules.size() == 12);
        Rule r = new Rule();
        r.verb = verb;
        r.first = first;
        r.second = second;
        r.text = text;
        rules.add(r);
        built();
        return rules.size() - 1;
    }

    void condition(int rule, int kind, int x, int y) {
        index(rule < 0 || rule >= rules.size());
        argument(kind < 0 || kind > 4);
        if (kind == 0) {
            index(noRoom(x));
        } else if (kind == 1) {
            index(noThing(x));
            index(noPlace(y));
        } else if (kind == 2) {
            index(noThing(x));
            argument(y != 0 && y != 1);
        } else {
            index(noNumber(x));
            argument(y < 0 || y > 7);
        }
        state(rules.get(rule).conditions.size() == 3);
        rules.get(rule).conditions.add(new int[] {kind, x, y});
        built();
    }

    void effect(int rule, int kind, int x, int y) {
        index(rule < 0 || rule >= rules.size());
        argument(kind < 0 || kind > 4);
        if (kind == 0) {
            index(noRoom(x));
        } else if (kind == 1) {
            index(noThing(x));
            index(noPlace(y));
        } else if (kind == 2) {
            index(noThing(x));
            argument(y != 0 && y != 1);
        } else if (kind == 3) {
            index(noNumber(x));
            argument(y < -7 || y > 7);
        } else {
            index(noEnding(x));
        }
        state(rules.get(rule).effects.size() == 3);
        rules.get(rule).effects.add(new int[] {kind, x, y});
        built();
    }

    void walker(int thing, int first, int second, int third) {
        index(noThing(thing));
        index(noRoom(first) || noRoom(second) || noRoom(third));
        state(walkers.size() == 2);
        for (int[] w : walkers) {
            state(w[0] == thing);
        }
        walkers.add(new int[] {thing, first, second, third});
        built();
    }

    void timer(int rule, int count) {
        index(rule < 0 || rule >= rules.size());
        argument(count < 1 || count > 15);
        state(timers.size() == 2);
        state(rules.get(rule).timed);
        rules.get(rule).timed = true;
        timers.add(new int[] {rule, count});
        built();
    }

    void begin() {
        state(rooms == 0);
        restart();
    }

    private List<int[]> commands() {
        List<int[]> all = new ArrayList<>();
        int n = things.size();
        for (int direction = 0; direction < 4; direction++) {
            all.add(new int[] {0, direction, NONE});
        }
        for (int verb = 1; verb <= 4; verb++) {
            for (int t = 0; t < n; t++) {
                all.add(new int[] {verb, t, NONE});
            }
        }
        for (int a = 0; a < n; a++) {
            for (int b = 0; b < n; b++) {
                all.add(new int[] {5, a, b});
            }
        }
        all.add(new int[] {6, NONE, NONE});
        for (int verb = 7; verb <= 8; verb++) {
            for (int a = NONE; a < n; a++) {
                for (int b = NONE; b < n; b++) {
                    all.add(new int[] {verb, a, b});
                }
            }
        }
        return all;
    }

    private Scene present() {
        return play.get(play.size() - 1);
    }

    int command(int verb, int a, int b) {
        boolean there = false;
        for (int[] c : commands()) {
            there |= Arrays.equals(c, new int[] {verb, a, b});
        }
        argument(!there);
        state(rooms == 0);
        state(play.size() == 61);
        if (present().over != NONE) {
            return NONE;
        }
        List<Integer> out = new ArrayList<>();
        play.add(turn(present(), verb, a, b, out));
        texts = out;
        return out.size();
    }

    private boolean seen(Scene s, int t) {
        int p = s.place[t];
        if (p < 6) {
            return p == s.room;
        }
        return p == 6 || s.open[p - 7] && seen(s, p - 7);
    }

    private boolean inside(Scene s, int t, int outer) {
        int p = s.place[t];
        return p >= 7 && (p - 7 == outer || inside(s, p - 7, outer));
    }

    private boolean so(Scene s, Rule r) {
        for (int[] c : r.conditions) {
            boolean yes = c[0] == 0 && s.room == c[1]
                    || c[0] == 1 && s.place[c[1]] == c[2]
                    || c[0] == 2 && s.open[c[1]] == (c[2] == 1)
                    || c[0] == 3 && s.number[c[1]] >= c[2]
                    || c[0] == 4 && s.number[c[1]] <= c[2];
            if (!yes) {
                return false;
            }
        }
        return true;
    }

    private void act(Scene s, int rule, List<Integer> out) {
        fired.add(rule);
        out.add(rules.get(rule).text);
        for (int[] e : rules.get(rule).effects) {
            if (e[0] == 0) {
                s.room = e[1];
            } else if (e[0] == 1) {
                boolean bad = e[2] >= 7 && (e[2] - 7 == e[1] || inside(s, e[2] - 7, e[1]));
                if (!bad) {
                    s.place[e[1]] = e[2];
                }
            } else if (e[0] == 2) {
                s.open[e[1]] = e[2] == 1;
            } else if (e[0] == 3) {
                int n = s.number[e[1]] + e[2];
                n = n < 0 ? 0 : n;
                s.number[e[1]] = n > numbers.get(e[1])[1] ? numbers.get(e[1])[1] : n;
            } else {
                s.over = e[1];
                return;
            }
        }
    }

    private int fitting(Scene s, int verb, int a, int b) {
        if (verb != 0 && (a != NONE && !seen(s, a) || b != NONE && !seen(s, b))) {
            return NONE;
        }
        for (int i = 0; i < rules.size(); i++) {
            Rule r = rules.get(i);
            if (!r.timed && r.verb == verb && (r.first == ANY || r.first == a)
                    && (r.second == ANY || r.second == b) && so(s, r)) {
                return i;
            }
        }
        return NONE;
    }

    private boolean plain(Scene s, int verb, int a, int b) {
        if (verb == 0) {
            int[] e = exits.get(s.room + ":" + a);
            if (e == null || e[1] != NONE && !s.open[e[1]]) {
                return false;
            }
            s.room = e[0];
        } else if (verb == 1) {
            if (!seen(s, a) || things.get(a)[1] % 2 == 0 || s.place[a] == 6) {
                return false;
            }
            s.place[a] = 6;
        } else if (verb == 2) {
            if (s.place[a] != 6) {
                return false;
            }
            s.place[a] = s.room;
        } else if (verb == 3 || verb == 4) {
            boolean isLid = things.get(a)[1] / 2 % 2 == 1;
            if (!seen(s, a) || !isLid || s.open[a] != (verb == 4)) {
                return false;
            }
            s.open[a] = verb == 3;
        } else if (verb == 5) {
            boolean isLid = things.get(b)[1] / 2 % 2 == 1;
            if (s.place[a] != 6 || !seen(s, b) || !isLid || !s.open[b] || a == b || inside(s, b, a)) {
                return false;
            }
            s.place[a] = 7 + b;
        } else {
            return verb == 6;
        }
        return true;
    }

    private Scene turn(Scene before, int verb, int a, int b, List<Integer> out) {
        Scene s = before.copy();
        int rule = fitting(s, verb, a, b);
        if (rule != NONE) {
            act(s, rule, out);
        } else {
            out.add(plain(s, verb, a, b) ? 100 + verb : 99);
        }
        if (s.over != NONE) {
            return s;
        }
        for (int w = 0; w < walkers.size(); w++) {
            int t = walkers.get(w)[0];
            if (s.place[t] < 6) {
                s.step[w] = (s.step[w] + 1) % 3;
                s.place[t] = walkers.get(w)[1 + s.step[w]];
            }
        }
        for (int k = 0; k < timers.size(); k++) {
            if (s.over == NONE && s.count[k] > 0) {
                s.count[k]--;
                if (s.count[k] == 0 && so(s, rules.get(timers.get(k)[0]))) {
                    act(s, timers.get(k)[0], out);
                }
            }
        }
        return s;
    }

    int said(int i) {
        return i >= 0 && i < texts.size() ? texts.get(i) : NONE;
    }

    boolean undo() {
        texts = new ArrayList<>();
        if (play.size() == 1) {
            return false;
        }
        play.remove(play.size() - 1);
        return true;
    }

    int state(int what, int x) {
        index((what == 1 || what == 2 || what == 6) && noThing(x));
        index(what == 3 && noNumber(x));
        index(what == 7 && (x < 0 || x >= timers.size()));
        index(what == 8 && (x < 0 || x >= walkers.size()));
        argument(what < 0 || what > 8);
        state(rooms == 0);
        Scene s = present();
        switch (what) {
            case 0: return s.room;
            case 1: return s.place[x];
            case 2: return s.open[x] ? 1 : 0;
            case 3: return s.number[x];
            case 4: return s.over;
            case 5: return play.size() - 1;
            case 6: return seen(s, x) ? 1 : 0;
            case 7: return s.count[x];
            default: return s.step[x];
        }
    }

    private void discover(Scene scene, Found from, int[] by) {
        if (found.containsKey(scene.key())) {
            return;
        }
        if (order.size() == 160) {
            limit = true;
            return;
        }
        Found f = new Found(scene, from, by);
        found.put(scene.key(), f);
        order.add(f);
    }

    private boolean finished() {
        return !limit && gone == order.size();
    }

    int explore(int fuel) {
        state(rooms == 0);
        argument(fuel < 0 || fuel > 1000);
        for (int i = 0; i < fuel && !limit && gone < order.size(); i++) {
            Found f = order.get(gone);
            if (f.scene.over == NONE) {
                for (int[] c : commands()) {
                    if (!limit) {
                        discover(turn(f.scene, c[0], c[1], c[2], new ArrayList<>()), f, c);
                    }
                }
            }
            if (!limit) {
                gone++;
            }
        }
        return limit ? 2 : finished() ? 1 : 0;
    }

    private List<int[]> wayTo(int ending) {
        for (Found f : order) {
            if (f.scene.over == ending) {
                List<int[]> way = new ArrayList<>();
                for (Found at = f; at.from != null; at = at.from) {
                    way.add(0, at.by);
                }
                return way;
            }
        }
        return null;
    }

    int reach(int ending, boolean length) {
        state(rooms == 0);
        index(noEnding(ending));
        List<int[]> way = wayTo(ending);
        if (length) {
            return way == null ? NONE : way.size();
        }
        return way != null ? 1 : finished() ? 0 : 2;
    }

    int way(int ending, int i, int what) {
        state(rooms == 0);
        index(noEnding(ending));
        List<int[]> way = wayTo(ending);
        return way == null || i < 0 || i >= way.size() || what < 0 || what > 2 ? NONE : way.get(i)[what];
    }

    private List<Scene> next(Scene s) {
        List<Scene> all = new ArrayList<>();
        if (s.over == NONE) {
            for (int[] c : commands()) {
                all.add(turn(s, c[0], c[1], c[2], new ArrayList<>()));
            }
        }
        return all;
    }

    /** Goes on from the state itself, and not back from the endings. */
    private boolean hopeless(Scene start) {
        Set<String> met = new HashSet<>();
        List<Scene> todo = new ArrayList<>();
        todo.add(start);
        met.add(start.key());
        for (int i = 0; i < todo.size(); i++) {
            Scene s = todo.get(i);
            if (s.over != NONE && endings.get(s.over)) {
                return false;
            }
            for (Scene n : next(s)) {
                if (met.add(n.key())) {
                    todo.add(n);
                }
            }
        }
        return true;
    }

    int study(int what, int i) {
        state(rooms == 0);
        argument(what < 0 || what > 4);
        if (what == 0) {
            return order.size();
        }
        if (!finished()) {
            return what == 1 ? 2 : NONE;
        }
        if (what == 1) {
            return hopeless(present()) ? 1 : 0;
        }
        if (what == 2) {
            int last = NONE;
            if (hopeless(present())) {
                for (int t = 0; t + 1 < play.size(); t++) {
                    if (!hopeless(play.get(t))) {
                        last = t;
                    }
                }
            }
            return last;
        }
        return what == 3 ? stuck() : idle(i);
    }

    private int stuck() {
        int n = 0;
        for (Found f : order) {
            boolean all = f.scene.over == NONE;
            for (Scene s : next(f.scene)) {
                all &= s.key().equals(f.scene.key());
            }
            n += all ? 1 : 0;
        }
        return n;
    }

    private int idle(int i) {
        fired.clear();
        for (Found f : order) {
            next(f.scene);
        }
        List<Integer> idle = new ArrayList<>();
        for (int r = 0; r < rules.size(); r++) {
            if (!fired.contains(r)) {
                idle.add(r);
            }
        }
        return i >= 0 && i < idle.size() ? idle.get(i) : NONE;
    }
}
