import java.util.ArrayList;
import java.util.Arrays;
import java.util.Comparator;
import java.util.List;
import java.util.regex.Matcher;
import java.util.regex.Pattern;

/**
 * The document once more, written the slow way with the Java library: RandomRunsTest asks it and
 * RepairStudio the same questions. It shares no code and no layout with RepairStudio.
 */
public final class Model {
    static final class Obj {
        int size, score, guard, state, rest, approval = -1, recipe = -1, press = -1, steps, since, scoreThen;
        long owes;
        int[] loan;
        List<Integer> queue = new ArrayList<>();

        Obj copy() {
            Obj o = new Obj();
            o.size = size; o.score = score; o.guard = guard; o.state = state; o.rest = rest;
            o.approval = approval; o.recipe = recipe; o.press = press; o.steps = steps; o.since = since;
            o.scoreThen = scoreThen; o.owes = owes;
            o.loan = loan == null ? null : loan.clone();
            o.queue = new ArrayList<>(queue);
            return o;
        }
    }

    static final class World {
        int time, benches = 1, life = 72, steps, loans, late;
        List<Integer> presses = new ArrayList<>();
        List<Integer> pressUses = new ArrayList<>();
        List<int[]> recipes = new ArrayList<>();
        List<Integer> recipeUses = new ArrayList<>();
        List<Obj> objects = new ArrayList<>();
        List<int[]> records = new ArrayList<>();

        World copy() {
            World w = new World();
            w.time = time; w.benches = benches; w.life = life; w.steps = steps; w.loans = loans; w.late = late;
            w.presses = new ArrayList<>(presses);
            w.pressUses = new ArrayList<>(pressUses);
            w.recipes = new ArrayList<>(recipes);
            w.recipeUses = new ArrayList<>(recipeUses);
            for (Obj o : objects) w.objects.add(o.copy());
            w.records = new ArrayList<>(records);
            return w;
        }

        int occupant(int press) {
            for (int k = 0; k < objects.size(); k++) if (objects.get(k).press == press) return k;
            return -1;
        }

        int after(int score, int r) {
            int[] a = recipes.get(r);
            return Math.min(1000, score + a[4] + (int) Math.floor(a[5] * (1000.0 - score) / 100.0));
        }

        boolean asks(Obj o, int r) { return recipes.get(r)[3] + o.guard > 3; }

        int pressOf(int size, boolean free) {
            return java.util.stream.IntStream.range(0, presses.size()).boxed()
                    .filter(p -> presses.get(p) >= size && (!free || occupant(p) < 0))
                    .min(Comparator.comparing((Integer p) -> presses.get(p)).thenComparing(p -> p)).orElse(-1);
        }

        long atBench() { return objects.stream().filter(o -> o.state == 1).count(); }

        int reason(int k) {
            Obj o = objects.get(k);
            if (o.state != 0) return 1;
            if (o.queue.isEmpty()) return 2;
            int r = o.queue.get(0);
            if (recipes.get(r)[2] == 1 && presses.stream().noneMatch(s -> s >= o.size)) return 3;
            if (asks(o, r) && o.approval == -1) return 4;
            if (asks(o, r) && o.approval <= time) return 5;
            return atBench() >= benches ? 6 : 0;
        }

        int urgency(Obj o) { return o.loan == null ? 30000 : o.loan[0]; }

        int nextOne() {
            int best = -1;
            for (int k = 0; k < objects.size(); k++) {
                if (reason(k) == 0 && (best < 0 || urgency(objects.get(k)) < urgency(objects.get(best)))) best = k;
            }
            return best;
        }

        void note(int... record) {
            records.add(record);
            if (records.size() > 100) records.remove(0);
        }

        void hour() {
            int[] before = objects.stream().mapToInt(o -> o.state).toArray();
            for (int k = 0; k < before.length; k++) {
                Obj o = objects.get(k);
                if (before[k] == 2) o.score = o.score == 0 ? 0 : o.score - 1;
                if (before[k] == 1 || before[k] == 3 || before[k] == 4) {
                    o.rest -= 1;
                    if (o.rest == 0) ended(k, before[k]);
                }
            }
            List<Integer> waiting = new ArrayList<>();
            for (int k = 0; k < before.length; k++) if (objects.get(k).state == 2) waiting.add(k);
            waiting.sort(Comparator.comparing((Integer k) -> objects.get(k).since).thenComparing(k -> k));
            for (int k : waiting) {
                Obj o = objects.get(k);
                int p = pressOf(o.size, true);
                if (p >= 0) {
                    o.press = p; o.state = 3; o.rest = recipes.get(o.recipe)[1];
                    pressUses.set(p, pressUses.get(p) + 1);
                    note(k, 1, o.recipe, time, o.scoreThen, o.score);
                }
            }
            for (Obj o : objects) {
                if (o.state == 0 && o.queue.isEmpty() && o.loan != null && o.loan[0] <= time && o.score >= o.loan[1]) {
                    o.state = 4; o.rest = o.loan[2]; loans++; late += time - o.loan[0]; o.loan = null;
                }
            }
            for (int k = nextOne(); k >= 0; k = nextOne()) {
                Obj o = objects.get(k);
                o.recipe = o.queue.remove(0); o.state = 1; o.rest = recipes.get(o.recipe)[0]; o.approval = -1;
            }
            time++;
        }

        void ended(int k, int state) {
            Obj o = objects.get(k);
            int was = o.score;
            if (state == 1) {
                int[] r = recipes.get(o.recipe);
                o.score = after(was, o.recipe);
                note(k, 0, o.recipe, time, was, o.score);
                o.owes += (long) r[0] * r[6]; o.steps++; steps++;
                recipeUses.set(o.recipe, recipeUses.get(o.recipe) + 1);
                if (r[1] == 0) { o.state = 0; o.recipe = -1; }
                else if (r[2] == 1) { o.state = 2; o.since = time; o.scoreThen = o.score; }
                else { o.state = 3; o.rest = r[1]; }
            } else {
                if (state == 4) { o.score = Math.max(0, was - 20); note(k, 2, -1, time, was, o.score); }
                o.state = 0; o.recipe = -1; o.press = -1;
            }
        }

        World later(int hours) {
            World w = copy();
            for (int h = 0; h < hours && w.time < 20000; h++) w.hour();
            return w;
        }
    }

    private World w = new World();
    private final List<World> past = new ArrayList<>();
    private final World[] shots = new World[2];
    private String input = "";
    private String out = "";
    private int code, position = -1;

    // ---- input ----

    public int appendInput(int w0, int w1, int w2, int w3, int w4) {
        if (input.length() > 980) return -1;
        StringBuilder b = new StringBuilder(input);
        for (int word : new int[] {w0, w1, w2, w3, w4}) {
            for (int shift = 24; shift >= 0; shift -= 8) b.append((char) (word >>> shift & 255));
        }
        input = b.toString();
        return input.length();
    }

    public int truncateInput(int length) {
        if (length < 0 || length > input.length()) return -1;
        input = input.substring(0, length);
        return length;
    }

    private static final Pattern TOKEN = Pattern.compile("[ \\n]*(?:([a-z]+)|([0-9]+)|(;)|([^ \\n]))?", Pattern.DOTALL);

    private static final class Bad extends Exception {
        final int code, at;
        Bad(int code, int at) { this.code = code; this.at = at; }
    }

    /** Each token as kind (w, n, ;, ? or e for the end), text and position. */
    private static List<Object[]> tokens(String text) {
        List<Object[]> list = new ArrayList<>();
        Matcher m = TOKEN.matcher(text);
        int at = 0;
        while (m.find(at) && at < text.length()) {
            at = m.end();
            for (int g = 1; g <= 4; g++) {
                if (m.group(g) == null) continue;
                boolean long_ = g == 1 && m.group(1).length() > 8 || g == 2 && m.group(2).length() > 9;
                list.add(new Object[] {long_ ? "?" : "wn;?".substring(g - 1, g), m.group(g), m.start(g)});
            }
        }
        for (int k = 0; k < 9; k++) list.add(new Object[] {"e", "", text.length()});
        return list;
    }

    /** Reads words with as many numbers as their ranges, given as "word:lo-hi,lo-hi". */
    private static List<int[]> read(String text, String[] forms, String limits, int all) throws Bad {
        List<Object[]> tokens = tokens(text);
        List<int[]> found = new ArrayList<>();
        int[] seen = new int[forms.length];
        int t = 0;
        while (!tokens.get(t)[0].equals("e")) {
            Object[] first = tokens.get(t++);
            int form = -1;
            for (int f = 0; f < forms.length; f++) {
                if (first[0].equals("w") && forms[f].startsWith(first[1] + ":")) form = f;
            }
            if (form < 0) throw new Bad(1, (int) first[2]);
            String limit = limits.split(" ")[form];
            if (limit.equals("once") && seen[form] == 1) throw new Bad(3, (int) first[2]);
            if (limit.matches("\\d+") && seen[form] == Integer.parseInt(limit)) throw new Bad(4, (int) first[2]);
            if (found.size() == all) throw new Bad(4, (int) first[2]);
            seen[form]++;
            String[] ranges = forms[form].substring(forms[form].indexOf(':') + 1).split(",");
            int[] row = new int[ranges.length + 1];
            row[0] = form;
            for (int r = 0; r < ranges.length; r++) {
                Object[] token = tokens.get(t++);
                if (!token[0].equals("n")) throw new Bad(1, (int) token[2]);
                int value = Integer.parseInt((String) token[1]);
                String[] ends = ranges[r].split("-");
                if (value < Integer.parseInt(ends[0]) || value > Integer.parseInt(ends[1])) throw new Bad(2, (int) token[2]);
                row[r + 1] = value;
            }
            Object[] last = tokens.get(t++);
            if (!last[0].equals(";")) throw new Bad(1, (int) last[2]);
            found.add(row);
        }
        return found;
    }

    private List<int[]> readInput(String[] forms, String limits, int all) {
        String text = input;
        input = "";
        code = 0;
        position = -1;
        try {
            return read(text, forms, limits, all);
        } catch (Bad bad) {
            code = bad.code;
            position = bad.at;
            return null;
        }
    }

    public int load() {
        List<int[]> rows = readInput(new String[] {"benches:1-4", "life:1-500", "press:1-100",
            "recipe:1-40,0-200,0-1,0-3,0-500,0-100,1-100000000", "object:1-100,0-1000,0-3"}, "once once 6 10 16", 10000);
        if (rows == null) return -3;
        w = new World();
        past.clear();
        Arrays.fill(shots, null);
        for (int[] row : rows) {
            switch (row[0]) {
                case 0 -> w.benches = row[1];
                case 1 -> w.life = row[1];
                case 2 -> { w.presses.add(row[1]); w.pressUses.add(0); }
                case 3 -> { w.recipes.add(Arrays.copyOfRange(row, 1, 8)); w.recipeUses.add(0); }
                default -> {
                    Obj o = new Obj();
                    o.size = row[1]; o.score = row[2]; o.guard = row[3];
                    w.objects.add(o);
                }
            }
        }
        return w.objects.size();
    }

    public int play() {
        List<int[]> rows = readInput(new String[] {"plan:0-15,0-9", "cancel:0-15", "approve:0-15",
            "lend:0-15,0-20000,0-1000,1-500", "recall:0-15", "tick:1-1000"}, "- - - - - -", 40);
        if (rows == null) return -3;
        int done = 0;
        for (int[] row : rows) {
            int answer;
            try {
                answer = switch (row[0]) {
                    case 0 -> plan(row[1], row[2]);
                    case 1 -> cancel(row[1]);
                    case 2 -> approve(row[1]);
                    case 3 -> lend(row[1], row[2], row[3], row[4]);
                    case 4 -> recall(row[1]);
                    default -> tick(row[1]);
                };
            } catch (RuntimeException e) {
                answer = -9;
            }
            if (answer < 0) return done;
            done++;
        }
        return done;
    }

    public int errorCode() { return code; }
    public int errorPosition() { return position; }

    // ---- questions ----

    private Obj obj(int k) {
        if (k < 0 || k >= w.objects.size()) throw new IndexOutOfBoundsException();
        return w.objects.get(k);
    }

    private void thing(int k, List<?> list) { if (k < 0 || k >= list.size()) throw new IndexOutOfBoundsException(); }
    private void range(int v, int lo, int hi) { if (v < lo || v > hi) throw new IllegalArgumentException(); }

    private static int pick(int what, long... values) { return what < 0 || what >= values.length ? -1 : (int) values[what]; }

    public int count(int what) {
        long freePresses = java.util.stream.IntStream.range(0, w.presses.size()).filter(p -> w.occupant(p) < 0).count();
        return pick(what, w.benches, w.presses.size(), w.recipes.size(), w.objects.size(), w.time, w.life,
                w.benches - w.atBench(), freePresses, w.records.size(), w.steps, w.loans, w.late, past.size());
    }

    public int press(int p, int what) { thing(p, w.presses); return pick(what, w.presses.get(p), w.occupant(p)); }
    public int recipe(int r, int what) { thing(r, w.recipes); return what < 0 || what > 6 ? -1 : w.recipes.get(r)[what]; }

    public int object(int k, int what) {
        Obj o = obj(k);
        return pick(what, o.size, o.score, o.guard, o.state, o.rest, o.queue.size(), o.approval, o.recipe, o.press, o.steps, w.urgency(o));
    }

    public int queued(int k, int place) {
        Obj o = obj(k);
        return place < 0 || place >= o.queue.size() ? -1 : o.queue.get(place);
    }

    public int loan(int k, int what) {
        Obj o = obj(k);
        return o.loan == null || what < 0 || what > 2 ? -1 : o.loan[what];
    }

    // ---- calls that can be undone ----

    private void keep() {
        past.add(w.copy());
        if (past.size() > 10) past.remove(0);
    }

    public int plan(int k, int r) {
        obj(k);
        thing(r, w.recipes);
        if (obj(k).queue.size() == 8) return -2;
        keep();
        obj(k).queue.add(r);
        return obj(k).queue.size();
    }

    public int cancel(int k) {
        Obj o = obj(k);
        if (o.queue.isEmpty()) return -4;
        keep();
        if (o.queue.size() == 1) o.approval = -1;
        return o.queue.remove(o.queue.size() - 1);
    }

    public int clearQueue(int k) {
        Obj o = obj(k);
        int n = o.queue.size();
        if (n == 0) return -4;
        keep();
        o.queue.clear();
        o.approval = -1;
        return n;
    }

    public int exchange(int k, int a, int b) {
        Obj o = obj(k);
        if (a == b || Math.min(a, b) < 0 || Math.max(a, b) >= o.queue.size()) return -4;
        keep();
        java.util.Collections.swap(o.queue, a, b);
        if (Math.min(a, b) == 0) o.approval = -1;
        return o.queue.get(a);
    }

    public int approve(int k) {
        Obj o = obj(k);
        if (o.queue.isEmpty() || !w.asks(o, o.queue.get(0))) return -4;
        keep();
        return o.approval = w.time + w.life;
    }

    public int lend(int k, int due, int minimum, int length) {
        Obj o = obj(k);
        range(due, 0, 20000);
        range(minimum, 0, 1000);
        range(length, 1, 500);
        if (o.loan != null) return -4;
        keep();
        o.loan = new int[] {due, minimum, length};
        return due;
    }

    public int recall(int k) {
        Obj o = obj(k);
        if (o.loan == null) return -4;
        keep();
        int due = o.loan[0];
        o.loan = null;
        return due;
    }

    public int tick(int hours) {
        range(hours, 1, 1000);
        if (w.time + hours > 20000) return -2;
        keep();
        w = w.later(hours);
        return w.time;
    }

    // ---- reasons ----

    public int reason(int k) { obj(k); return w.reason(k); }

    public int cause(int k) {
        Obj o = obj(k);
        return switch (w.reason(k)) {
            case 1 -> o.state;
            case 3 -> w.presses.stream().mapToInt(x -> x).max().orElse(0);
            case 5 -> o.approval;
            default -> -1;
        };
    }

    private interface Test { boolean of(int k); }

    private int set(Test test) {
        int set = 0;
        for (int k = 0; k < w.objects.size(); k++) if (test.of(k)) set += 1 << k;
        return set;
    }

    public int objectsWith(int reason) { range(reason, 0, 6); return set(k -> w.reason(k) == reason); }
    public int next() { return w.nextOne(); }
    public boolean needsApproval(int k, int r) { obj(k); thing(r, w.recipes); return w.asks(obj(k), r); }
    public int approvalsAhead(int k) { Obj o = obj(k); return (int) o.queue.stream().filter(r -> w.asks(o, r)).count(); }
    public int pressFor(int k) { return w.pressOf(obj(k).size, false); }
    public int scoreAfter(int k, int r) { obj(k); thing(r, w.recipes); return w.after(obj(k).score, r); }

    public int scoreAhead(int k) {
        int s = obj(k).score;
        for (int r : obj(k).queue) s = w.after(s, r);
        return s;
    }

    public int bestRecipe(int k) {
        int s = obj(k).score;
        java.math.BigDecimal most = java.math.BigDecimal.ZERO;
        int best = -1;
        for (int r = 0; r < w.recipes.size(); r++) {
            int[] a = w.recipes.get(r);
            // fractions with divisors up to 240 differ by 1/57600 at least
            java.math.BigDecimal q = new java.math.BigDecimal(w.after(s, r) - s)
                    .divide(new java.math.BigDecimal(a[0] + a[1]), 30, java.math.RoundingMode.DOWN);
            if (q.compareTo(most) > 0) { most = q; best = r; }
        }
        return best;
    }

    public int stepsTo(int k, int r, int target) {
        obj(k);
        thing(r, w.recipes);
        range(target, 0, 1000);
        int s = obj(k).score, n = 0;
        while (s < target && n < 2000) { s = w.after(s, r); n++; }
        return s < target ? -1 : n;
    }

    private long least(int k, int target, boolean money) {
        Obj o = obj(k);
        range(target, 0, 1000);
        long[] cost = new long[1001];
        Arrays.fill(cost, Long.MAX_VALUE);
        cost[o.score] = 0;
        for (int s = o.score; s <= 1000; s++) {
            for (int r = 0; r < w.recipes.size() && cost[s] < Long.MAX_VALUE; r++) {
                int[] a = w.recipes.get(r);
                int to = w.after(s, r);
                cost[to] = Math.min(cost[to], cost[s] + (money ? (long) a[0] * a[6] : a[0] + a[1]));
            }
        }
        long best = Long.MAX_VALUE;
        for (int s = target; s <= 1000; s++) best = Math.min(best, cost[s]);
        return best == Long.MAX_VALUE ? -1 : best;
    }

    public int quickestTo(int k, int target) { return (int) least(k, target, false); }
    public long cheapestTo(int k, int target) { return least(k, target, true); }
    public int hoursAhead(int k) { return obj(k).queue.stream().mapToInt(r -> w.recipes.get(r)[0] + w.recipes.get(r)[1]).sum(); }

    // ---- bills ----

    private static int told(long amount) {
        if (amount > Integer.MAX_VALUE) throw new ArithmeticException();
        return (int) amount;
    }

    public int bill(int k) { return told(obj(k).owes); }
    public int allBills() { return told(w.objects.stream().mapToLong(o -> o.owes).sum()); }

    public int billAhead(int k) {
        return told(obj(k).owes + obj(k).queue.stream().mapToLong(r -> (long) w.recipes.get(r)[0] * w.recipes.get(r)[6]).sum());
    }

    // ---- records ----

    public int record(int index, int what) {
        thing(index, w.records);
        return what < 0 || what > 5 ? -1 : w.records.get(index)[what];
    }

    public int recordsOf(int k, int kind) {
        obj(k);
        range(kind, 0, 2);
        return (int) w.records.stream().filter(r -> r[0] == k && r[1] == kind).count();
    }

    public int latestRecord(int k) {
        obj(k);
        int found = -1;
        for (int i = 0; i < w.records.size(); i++) if (w.records.get(i)[0] == k) found = i;
        return found;
    }

    public int lost(int k) {
        obj(k);
        return w.records.stream().filter(r -> r[0] == k && r[1] == 1).mapToInt(r -> r[4] - r[5]).sum();
    }

    public int recorded(int k) {
        obj(k);
        return w.records.stream().filter(r -> r[0] == k).mapToInt(r -> r[5] - r[4]).sum();
    }

    // ---- forecasts ----

    private interface Seen { boolean in(World w); }

    private int first(int hours, Seen seen) {
        World f = w.copy();
        int end = Math.min(20000, w.time + hours);
        while (true) {
            if (seen.in(f)) return f.time;
            if (f.time == end) return -1;
            f.hour();
        }
    }

    public int readyAt(int k, int hours) {
        obj(k);
        range(hours, 1, 500);
        return first(hours, f -> f.objects.get(k).state == 0 && f.objects.get(k).queue.isEmpty());
    }

    public int scoreIn(int k, int hours) {
        obj(k);
        range(hours, 1, 500);
        return w.later(hours).objects.get(k).score;
    }

    public int lentIn(int hours) {
        range(hours, 1, 500);
        World f = w.later(hours);
        return set(k -> f.objects.get(k).state == 4);
    }

    public int bestBenches(int hours) {
        range(hours, 1, 200);
        int[] steps = new int[5];
        for (int b = 1; b <= 4; b++) {
            World f = w.copy();
            f.benches = b;
            steps[b] = f.later(hours).steps;
        }
        for (int b = 1; b <= 4; b++) if (steps[b] == Arrays.stream(steps, 1, 5).max().getAsInt()) return b;
        return -99;
    }

    public int quietAt(int hours) {
        range(hours, 1, 500);
        return first(hours, f -> f.objects.stream().noneMatch(o -> o.state >= 1 && o.state <= 3) && f.nextOne() == -1);
    }

    // ---- loans ----

    public int lateness(int k) { return obj(k).loan == null ? -1 : Math.max(0, w.time - obj(k).loan[0]); }
    public int mostUrgent() { return waitingLoan(0); }

    public int waitingLoan(int n) {
        List<Integer> order = new ArrayList<>();
        for (int k = 0; k < w.objects.size(); k++) if (w.objects.get(k).loan != null) order.add(k);
        order.sort(Comparator.comparing((Integer k) -> w.objects.get(k).loan[0]).thenComparing(k -> k));
        return n < 0 || n >= order.size() ? -1 : order.get(n);
    }

    // ---- counts ----

    public int uses(int r) { thing(r, w.recipes); return w.recipeUses.get(r); }
    public int pressUse(int p) { thing(p, w.presses); return w.pressUses.get(p); }
    public int inQueues(int r) {
        thing(r, w.recipes);
        return w.objects.stream().mapToInt(o -> java.util.Collections.frequency(o.queue, r)).sum();
    }
    public int dryIn(int p) { thing(p, w.presses); return w.occupant(p) < 0 ? 0 : w.objects.get(w.occupant(p)).rest; }
    public int rank(int k) { int s = obj(k).score; return (int) w.objects.stream().filter(o -> o.score < s).count(); }
    public int below(int bound) { return set(k -> w.objects.get(k).score < bound); }
    public int objectsIn(int state) { range(state, 0, 4); return set(k -> w.objects.get(k).state == state); }

    public double meanScore() {
        if (w.objects.isEmpty()) throw new ArithmeticException();
        return (double) w.objects.stream().mapToInt(o -> o.score).sum() / (double) w.objects.size();
    }

    // ---- output, steps back ----

    public int write(int k) {
        Obj o = obj(k);
        List<String> parts = new ArrayList<>();
        for (int r : o.queue) parts.add(r + (w.asks(o, r) ? "!" : ""));
        out = String.join(",", parts);
        return out.length();
    }

    public int outputByte(int i) { return i < 0 || i >= out.length() ? -1 : out.charAt(i); }

    public int undo() {
        if (past.isEmpty()) return -1;
        w = past.remove(past.size() - 1);
        return past.size();
    }

    public int digest() {
        int d = 31 + w.time;
        for (Obj o : w.objects) for (int v : new int[] {o.score, o.state, o.rest}) d = d * 31 + v;
        return d;
    }

    public boolean saveSnapshot(int place) {
        if (place != 0 && place != 1) return false;
        shots[place] = w.copy();
        return true;
    }

    public boolean restoreSnapshot(int place) {
        if (place != 0 && place != 1 || shots[place] == null) return false;
        w = shots[place].copy();
        past.clear();
        return true;
    }
}
