import java.lang.reflect.Method;
import java.lang.reflect.Modifier;
import java.util.ArrayList;
import java.util.Comparator;
import java.util.List;
import java.util.Random;

/** Runs of calls by fixed seeds, each answer as the Model has it; no call may throw. */
public final class ModelTest {
    private static final int RUNS = 400, CALLS = 512;
    private static final int[] EDGES = {Integer.MIN_VALUE, Integer.MAX_VALUE, -5, -4, -2, -1, 0, 1, 2, 3, 4, 9, 10, 11,
        12, 13, 14, 20, 21, 40, 41, 99, 100, 127, 128, 144, 145, 159, 160, 256, 65536};

    public static void main(String[] args) throws ReflectiveOperationException {
        List<Method> calls = new ArrayList<>();
        for (Method m : TuneWard.class.getDeclaredMethods()) {
            if (Modifier.isPublic(m.getModifiers())) {
                calls.add(m);
            }
        }
        calls.sort(Comparator.comparing(Method::getName));
        Checks.due("how many methods", calls.size(), 40);
        for (int run = 0; run < RUNS; run++) {
            compare(run, calls);
        }
        Checks.close();
    }

    private static void compare(int run, List<Method> calls) throws ReflectiveOperationException {
        Random random = new Random(run);
        TuneWard x = new TuneWard();
        Model model = new Model();
        for (int i = 0; i < CALLS; i++) {
            if (i % 170 == 0) {
                tell(run, random, x, model);
                continue;
            }
            Method call = calls.get(random.nextInt(calls.size()));
            if (call.getName().equals("text") && random.nextInt(4) > 0) {
                continue;
            }
            Object[] values = new Object[call.getParameterCount()];
            StringBuilder told = new StringBuilder("run " + run + " call " + i + ": " + call.getName());
            for (int a = 0; a < values.length; a++) {
                values[a] = value(random, call.getName(), a);
                told.append(" ").append(values[a]);
            }
            same(told.toString(), x, model, call, values);
        }
    }

    private static void same(String told, TuneWard x, Model model, Method call, Object... values)
            throws ReflectiveOperationException {
        long due;
        switch (call.getName()) {
            case "fault": due = model.fault; break;
            case "torn": due = model.torn; break;
            default:
                Method other = Model.class.getDeclaredMethod(call.getName(), call.getParameterTypes());
                due = ((Number) other.invoke(model, values)).longValue();
        }
        Checks.due(told, ((Number) call.invoke(x, values)).longValue(), due);
    }

    private static int value(Random random, String name, int a) {
        if (random.nextInt(12) == 0) {
            return EDGES[random.nextInt(EDGES.length)];
        }
        switch (name + a) {
            case "set1": return new int[] {0, 2, 3}[random.nextInt(3)];
            case "feed0": return "0123456789 ;abdefglmnoprstuy".charAt(random.nextInt(28));
            case "end0": return random.nextInt(20);
            case "has1": case "sounds0": case "bribe1": case "see1": return random.nextInt(random.nextBoolean() ? 12 : 160);
            case "write2": case "add1": case "hire2": return random.nextInt(10);
            case "set2": return random.nextInt(10);
            case "best0": case "apart0": return random.nextBoolean() ? random.nextInt(2) : 10 + random.nextInt(4);
            case "compose0": return 1 + random.nextInt(144);
            case "bribe0": return random.nextInt(8);
            case "mean0": case "luck0": return random.nextInt(11);
            case "see2": return random.nextBoolean() ? Model.NONE : random.nextInt(10);
            case "drift0": return random.nextInt();
            case "drift1": return 1 + random.nextInt(20);
            case "sheet0": case "lay0": case "read0": return random.nextInt(2);
            case "sheet1": case "read1": return random.nextInt(10) == 0 ? random.nextInt(3) : 1;
            case "sheet2": return random.nextInt(41);
            case "lay1": return random.nextInt(12);
            case "lay2": return random.nextInt(4);
            case "read2": return random.nextInt(12);
            case "read3": return random.nextInt(6);
            case "keep0": case "back0": return random.nextInt(2);
            case "forget0": return random.nextInt(7);
            default: return random.nextInt(4);
        }
    }

    /** Feeds a text, mostly one that can be taken. */
    private static void tell(int run, Random random, TuneWard x, Model model) {
        String bytes = written(random);
        int cleared = model.tape.size();
        Checks.due("run " + run + " end", x.end(0), cleared);
        model.end(0);
        for (int i = 0; i < bytes.length(); i++) {
            Checks.due("run " + run + " feed", x.feed(bytes.charAt(i)), model.feed(bytes.charAt(i)));
        }
        Checks.due("run " + run + " text of " + bytes, x.text(), model.text());
        Checks.due("run " + run + " fault of " + bytes, x.fault(), model.fault);
    }

    private static String written(Random random) {
        StringBuilder s = new StringBuilder();
        int tunes = 1 + random.nextInt(4);
        int highest = random.nextInt(3) == 0 ? 2 : 9;
        for (int t = 0; t < tunes; t++) {
            s.append(new String[] {"plain", "rondo", "fugue", "lullaby"}[random.nextInt(4)]);
            s.append(" ").append(1 + random.nextInt(random.nextBoolean() ? 3 : 9));
            s.append(" ").append(random.nextInt(random.nextBoolean() ? 3 : 10));
            for (int i = random.nextInt(4); i >= 0; i--) {
                s.append(" ").append(random.nextInt(highest));
            }
            s.append(";");
        }
        for (int p = random.nextInt(5); p > 0; p--) {
            s.append("player ").append(random.nextInt(3) > 0 ? 9 : random.nextInt(10));
            s.append(" ").append(1 + random.nextInt(random.nextBoolean() ? 10 : 99));
            s.append(" ").append(random.nextInt(4)).append(" ").append(random.nextInt(tunes)).append(";");
        }
        for (int q = random.nextInt(7); q > 0; q--) {
            s.append("bound ").append(random.nextInt(tunes)).append(";");
        }
        spoil(random, s);
        return s.substring(0, Math.min(160, s.length()));
    }

    private static void spoil(Random random, StringBuilder s) {
        for (int times = random.nextInt(5) - 2; times > 0; times--) {
            int i = random.nextInt(s.length());
            switch (random.nextInt(4)) {
                case 0: s.deleteCharAt(i); break;
                case 1: s.insert(i, " "); break;
                case 2: s.setCharAt(i, (char) random.nextInt(128)); break;
                default: s.insert(i, "0123456789 ;:a ".charAt(random.nextInt(15)));
            }
        }
    }
}
