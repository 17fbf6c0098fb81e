import java.lang.reflect.InvocationTargetException;
import java.lang.reflect.Method;
import java.util.ArrayList;
import java.util.HashMap;
import java.util.List;
import java.util.Map;
import java.util.Random;

/**
 * Runs of calls, drawn from fixed seeds: RepairStudio has to answer each as Model does, up to the 512th. Now and
 * then a look at all that can be seen goes in between, for which CountedStudio brings new objects to the same state.
 */
public final class RandomRunsTest {
    /** Behind so many calls there is no look, as a new object could not be brought there and be asked much more. */
    private static final int LAST_LOOK = 450;
    private static final String[] BUSY_CHANGES = {"plan", "plan", "plan", "plan", "approve", "lend", "tick", "tick", "tick",
        "tick", "tick", "exchange"};
    private static final String[] CHANGES = {"plan", "plan", "plan", "plan", "cancel", "clearQueue", "exchange",
        "approve", "approve", "lend", "lend", "recall", "tick", "tick", "tick", "undo", "saveSnapshot", "restoreSnapshot"};
    private static final Map<String, Method> OURS = byName(CountedStudio.class);
    private static final Map<String, Method> THEIRS = byName(Model.class);

    private final Random random;
    private final CountedStudio studio = new CountedStudio();
    private final Model model = new Model();
    private final List<String> calls = new ArrayList<>();
    private final int most;
    private boolean wrong;
    /** 0 all kinds of calls, 1 mostly work and ticks, 2 the same close to the time 20000. */
    private final int profile;

    private RandomRunsTest(long seed) {
        random = new Random(seed);
        profile = random.nextInt(3);
        most = random.nextInt(3) == 0 ? CountedStudio.MOST_CALLS : LAST_LOOK;
    }

    /** No more calls can be asked, or an answer was wrong. */
    private boolean ended() {
        return wrong || studio.keptCalls() >= most;
    }

    private static Map<String, Method> byName(Class<?> type) {
        Map<String, Method> methods = new HashMap<>();
        for (Method m : type.getDeclaredMethods()) {
            if (java.lang.reflect.Modifier.isPublic(m.getModifiers())) methods.put(m.getName(), m);
        }
        return methods;
    }

    public static void main(String[] args) throws Exception {
        int runs = args.length > 0 ? Integer.parseInt(args[0]) : 300;
        long from = args.length > 1 ? Long.parseLong(args[1]) : 1;
        Map<String, Integer> answers = new HashMap<>();
        int bad = 0;
        for (long seed = from; seed < from + runs; seed++) {
            RandomRunsTest run = new RandomRunsTest(seed);
            run.go(answers);
            if (run.wrong) {
                bad++;
                System.out.println("seed " + seed);
                int first = Math.max(0, run.calls.size() - 40);
                for (String call : run.calls.subList(first, run.calls.size())) System.out.println("  " + call);
                if (bad > 2) break;
            }
        }
        if (args.length > 2) {
            answers.keySet().stream().sorted().forEach(k -> System.out.println(k + " " + answers.get(k)));
        }
        System.out.println("RandomRunsTest: " + runs + " runs, " + bad + " wrong");
        if (bad > 0) System.exit(1);
    }

    private static Object answer(Map<String, Method> methods, Object target, String name, Object[] args) throws Exception {
        try {
            return methods.get(name).invoke(target, args);
        } catch (InvocationTargetException e) {
            return "throws " + Check.thrown(e.getCause());
        }
    }

    private Object ask(Map<String, Integer> answers, String name, Object... args) throws Exception {
        if (studio.keptCalls() >= CountedStudio.MOST_CALLS) return RepairStudio.NONE;
        Object ours = answer(OURS, studio, name, args);
        Object due = answer(THEIRS, model, name, args);
        calls.add(name + java.util.Arrays.toString(args) + " -> " + ours + (ours.equals(due) ? "" : " DUE " + due));
        if (!ours.equals(due)) wrong = true;
        boolean code = due instanceof Integer && (Integer) due < 0 && (Integer) due > -5;
        boolean told = due instanceof Boolean || due instanceof String;
        answers.merge(name + " " + (code || told ? due : "value"), 1, Integer::sum);
        return ours;
    }

    private void go(Map<String, Integer> answers) throws Exception {
        String[] names = OURS.keySet().stream().sorted().toArray(String[]::new);
        if (random.nextInt(8) > 0) text(answers, goodStudio(), "load");
        for (int n = profile == 2 ? 19 : 0; n > 0; n--) ask(answers, "tick", 1000);
        if (profile == 2) ask(answers, "tick", within(700, 1000));
        while (!ended()) {
            int draw = random.nextInt(1000);
            if (draw < (profile == 0 ? 450 : 700)) {
                String[] changes = profile == 0 || random.nextInt(10) == 0 ? CHANGES : BUSY_CHANGES;
                String name = changes[random.nextInt(changes.length)];
                ask(answers, name, arguments(name));
            } else if (draw < 940) {
                String name = names[random.nextInt(names.length)];
                if (!name.equals("load") && !name.equals("play")) ask(answers, name, arguments(name));
            } else if (draw < 970) {
                text(answers, random.nextInt(3) == 0 ? spoil(script()) : script(), "play");
            } else if (draw < 985) {
                boolean load = profile == 0 && random.nextInt(4) > 0;
                text(answers, spoil(random.nextInt(4) == 0 ? script() : goodStudio()), load ? "load" : "play");
            } else if (draw < 987) {
                text(answers, goodStudio(), "load");
            } else {
                look(answers);
            }
        }
        look(answers);
    }

    private void look(Map<String, Integer> answers) throws Exception {
        if (wrong || studio.keptCalls() > LAST_LOOK) return;
        ask(answers, "write", thing("write"));
        studio.looking(true);
        for (int at = 0; at <= 24; at++) ask(answers, "outputByte", at);
        for (int what = 0; what <= 12; what++) ask(answers, "count", what);
        for (int k = 0; k < model.count(3); k++) {
            for (int what = 0; what <= 10; what++) ask(answers, "object", k, what);
            for (int what = 0; what <= 2; what++) ask(answers, "loan", k, what);
            for (int what = 0; what <= 2; what++) ask(answers, "recordsOf", k, what);
            for (int place = 0; place <= 8; place++) ask(answers, "queued", k, place);
            for (String name : new String[] {"reason", "cause", "approvalsAhead", "pressFor", "scoreAhead", "bestRecipe", "hoursAhead",
                "bill", "billAhead", "latestRecord", "lost", "recorded", "lateness", "rank"}) ask(answers, name, k);
            ask(answers, "readyAt", k, 300);
            ask(answers, "scoreIn", k, 150);
        }
        for (int index = 0; index < model.count(8); index++) {
            for (int what = 0; what <= 5; what++) ask(answers, "record", index, what);
        }
        for (int r = 0; r < model.count(2); r++) {
            ask(answers, "uses", r);
            ask(answers, "inQueues", r);
            for (int what = 0; what <= 6; what++) ask(answers, "recipe", r, what);
        }
        for (int p = 0; p < model.count(1); p++) {
            ask(answers, "press", p, 0);
            ask(answers, "press", p, 1);
            ask(answers, "pressUse", p);
            ask(answers, "dryIn", p);
        }
        for (int hours : new int[] {1, 60, 200}) {
            ask(answers, "bestBenches", hours);
            ask(answers, "quietAt", hours);
            ask(answers, "lentIn", hours);
        }
        for (int k = 0; k <= 16; k++) ask(answers, "waitingLoan", k);
        ask(answers, "allBills");
        ask(answers, "digest");
        studio.looking(false);
    }

    private void text(Map<String, Integer> answers, String text, String reader) throws Exception {
        ask(answers, "truncateInput", 0);
        byte[] bytes = new byte[(text.length() + 19) / 20 * 20];
        for (int i = 0; i < text.length(); i++) bytes[i] = (byte) text.charAt(i);
        for (int i = 0; i < bytes.length; i += 20) {
            Object[] words = new Object[5];
            for (int k = 0; k < 5; k++) words[k] = java.nio.ByteBuffer.wrap(bytes, i + 4 * k, 4).getInt();
            ask(answers, "appendInput", words);
        }
        ask(answers, "truncateInput", text.length());
        ask(answers, reader);
        ask(answers, "errorCode");
        ask(answers, "errorPosition");
        for (int what = 0; what <= 12; what++) ask(answers, "count", what);
        ask(answers, "digest");
    }

    private int of(int... values) {
        return values[random.nextInt(values.length)];
    }

    private int within(int low, int high) {
        return low + random.nextInt(high - low + 1);
    }

    private String goodStudio() {
        boolean large = random.nextInt(4) == 0;
        List<String> parts = new ArrayList<>();
        if (random.nextBoolean()) parts.add("benches " + within(1, 4) + ";");
        if (random.nextBoolean()) parts.add("life " + of(1, 2, 5, 20, 72, 500) + ";");
        for (int n = within(0, large ? 6 : 3); n > 0; n--) parts.add("press " + within(1, 100) + " ;");
        for (int n = within(1, large ? 10 : 5); n > 0; n--) {
            parts.add("recipe " + of(1, 1, 2, 3, 7, 40) + " " + of(0, 0, 1, 2, 5, 20, 200) + " " + within(0, 1) + " " + within(0, 3)
                    + " " + of(0, 0, 1, 30, 100, 500) + " " + of(0, 0, 1, 10, 33, 50, 100) + " " + of(1, 2, 10, 1000000, 99999999, 100000000) + ";");
        }
        for (int n = within(1, large ? 16 : 6); n > 0; n--) {
            parts.add("object " + of(1, 10, 50, within(1, 100), 100) + " " + of(0, 5, 300, within(0, 1000), 1000) + " " + within(0, 3) + "; ");
        }
        java.util.Collections.shuffle(parts, random);
        return String.join(of(0, 1) == 0 ? "" : "\n ", parts);
    }

    private String script() {
        StringBuilder b = new StringBuilder();
        for (int n = random.nextInt(12) == 0 ? within(36, 43) : within(0, 14); n > 0; n--) {
            int o = random.nextInt(30) == 0 ? within(0, 15) : within(0, 3);
            switch (random.nextInt(8)) {
                case 0: b.append("cancel ").append(o); break;
                case 1: b.append("approve ").append(o); break;
                case 2: b.append("lend ").append(o + " " + within(0, 300) + " " + within(0, 1000) + " " + within(1, 30)); break;
                case 3: b.append("recall ").append(o); break;
                case 4: b.append("tick ").append(of(1, 2, 9, 40)); break;
                default: b.append("plan ").append(o + " " + (random.nextInt(30) == 0 ? within(0, 9) : 0)); break;
            }
            b.append(of(0, 1) == 0 ? ";" : " ;\n");
        }
        return b.toString();
    }

    private String spoil(String text) {
        StringBuilder b = new StringBuilder(text);
        for (int n = within(1, 2); n > 0; n--) {
            int at = random.nextInt(b.length() + 1);
            switch (random.nextInt(9)) {
                case 0: b.insert(at, of(0, 9, 13, 65, 45, 200, 255, 96, 123, 47, 58) > 100 ? (char) 200 : '-'); break;
                case 1: b.setLength(at); break;
                case 2: b.insert(at, of(0, 9) == 0 ? ";" : "abcdefghi "); break;
                case 3: b.insert(at, "000000"); break;
                case 4: b.append("life 3; benches 2; life 4;"); break;
                case 5: b.append("press 1;press 2;press 3;press 4;press 5;press 6;press 7;"); break;
                case 6: if (at < b.length()) b.deleteCharAt(at); break;
                case 7: b.insert(at, (char) within(0, 255)); break;
                default: b.insert(at, within(0, 999)); break;
            }
        }
        if (b.length() > 1000) b.setLength(1000);
        return b.toString();
    }

    private Object[] arguments(String name) {
        Method m = OURS.get(name);
        Object[] args = new Object[m.getParameterCount()];
        for (int i = 0; i < args.length; i++) args[i] = argument(name, i);
        return args;
    }

    private int argument(String name, int at) {
        if (random.nextInt(120) == 0) return of(Integer.MIN_VALUE, Integer.MAX_VALUE, -1, -2, 1000000, 1 << 20, -32768);
        switch (name) {
            case "appendInput": return random.nextInt();
            case "truncateInput": return within(-1, 1001);
            case "tick": return random.nextInt(40) == 0 ? of(0, 1000, 1001) : random.nextInt(6) == 0 ? of(300, 999, 1000) : of(1, 1, 2, 3, 5, 10, 40);
            case "outputByte": return within(-1, 12);
            case "below": return within(-1, 1001);
            case "waitingLoan": return within(-1, 4);
            case "count": return within(-1, 13);
            case "objectsWith": return within(-1, 7);
            case "objectsIn": return within(-1, 5);
            case "saveSnapshot": case "restoreSnapshot": return random.nextInt(4) == 0 ? of(-1, 2) : within(0, 1);
            case "lentIn": case "quietAt": return of(0, 1, 2, 5, 17, 100, 499, 500, 501);
            case "bestBenches": return of(0, 1, 2, 5, 17, 100, 199, 200, 201);
            case "record": return at == 0 ? of(0, 1, 5, within(-1, 100), 99) : within(-1, 6);
            default: return at == 0 ? thing(name) : further(name, at);
        }
    }

    private int thing(String name) {
        return random.nextInt(25) == 0 ? within(-1, 16) : within(0, 3);
    }

    private int further(String name, int at) {
        switch (name) {
            case "lend": return at == 1 ? (random.nextInt(10) == 0 ? of(-1, 0, 20000, 20001) : within(0, 600))
                    : at == 2 ? of(0, 0, 100, within(0, 1000), 1000, random.nextInt(5) == 0 ? 1001 : 5)
                    : of(1, 2, 5, 30, 500, random.nextInt(5) == 0 ? of(0, 501) : 4);
            case "readyAt": case "scoreIn": return of(1, 2, 5, 17, 100, 499, 500, random.nextInt(3) == 0 ? of(0, 501) : 8);
            case "stepsTo": return at == 1 ? within(0, 4) : within(-3, 1003);
            case "quickestTo": case "cheapestTo": return of(within(-3, 1003), 999, 1000);
            case "exchange": return random.nextInt(10) == 0 ? within(-1, 8) : within(0, 2);
            case "object": return within(-1, 11);
            case "queued": return within(-1, 8);
            case "recipe": return within(-1, 7);
            case "loan": return within(-1, 3);
            case "recordsOf": return within(-1, 3);
            case "press": return within(-1, 2);
            default: return random.nextInt(20) == 0 ? within(-1, 10) : within(0, 2);
        }
    }
}
