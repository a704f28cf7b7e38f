import java.lang.reflect.Method;
import java.lang.reflect.Modifier;
import java.util.ArrayList;
import java.util.List;
import java.util.Random;

/** Runs of calls by lots, the same each time, on the class and on the model beside it. */
public final class ModelTest {
    private static final int RUNS = 400;
    private static final int CALLS = 512;
    private static final int[] WILD = {Integer.MIN_VALUE, Integer.MAX_VALUE, -9, -1, 216, 217, 1000, 41, 81};

    private final Random random;
    private final ShadeNames subject = new ShadeNames();
    private final Model model = new Model();
    private final StringBuilder told = new StringBuilder();
    private int left = CALLS;
    private int wrong;

    private ModelTest(long seed) {
        random = new Random(seed);
    }

    public static void main(String[] args) throws Exception {
        int wrong = 0;
        for (int run = 0; run < RUNS && wrong == 0; run++) {
            ModelTest test = new ModelTest(run);
            test.run();
            wrong += test.wrong;
        }
        System.out.println("model: " + RUNS + " runs of " + CALLS + " calls, " + wrong + " not as due");
        if (wrong != 0) {
            System.exit(1);
        }
    }

    private static List<Method> calls() {
        List<Method> calls = new ArrayList<>();
        for (Method method : ShadeNames.class.getDeclaredMethods()) {
            if (Modifier.isPublic(method.getModifiers())) {
                calls.add(method);
            }
        }
        calls.sort((x, y) -> x.getName().compareTo(y.getName()));
        return calls;
    }

    private static Method named(String name) {
        for (Method call : calls()) {
            if (call.getName().equals(name)) {
                return call;
            }
        }
        throw new IllegalArgumentException(name);
    }

    private void run() throws Exception {
        List<Method> calls = calls();
        if (random.nextInt(8) > 0) {
            writeRegistry();
        }
        while (left > 0 && wrong == 0) {
            int lot = random.nextInt(60);
            if (lot == 0) {
                writeRegistry();
            } else if (lot < 8) {
                writeRow();
            } else {
                Method call = calls.get(random.nextInt(calls.size()));
                if (call.getName().equals("registry") && random.nextInt(4) > 0) {
                    call = named("year");
                }
                int[] v = arguments(call);
                both(call, v);
                if (call.getName().equals("name") && v[1] == 6) {
                    both(named("kinds"), v[0], subject.asked());
                }
            }
        }
    }

    /** Asks both the same, and then all that a call tells beside its answer. */
    private void both(Method call, int... v) throws Exception {
        if (left <= 0 || wrong > 0) {
            return;
        }
        left--;
        Object[] boxed = new Object[v.length];
        StringBuilder line = new StringBuilder(call.getName()).append('(');
        for (int i = 0; i < v.length; i++) {
            boxed[i] = v[i];
            line.append(i == 0 ? "" : ", ").append(v[i]);
        }
        long got = ((Number) call.invoke(subject, boxed)).longValue();
        long want = model.answer(call.getName(), v);
        told.append(line).append(") = ").append(got).append('\n');
        compare("the answer", got, want);
        compare("asked()", subject.asked(), model.answer("asked", v));
        compare("upper()", subject.upper(), model.answer("upper", v));
        compare("lower()", subject.lower(), model.answer("lower", v));
        compare("finding()", subject.finding(), model.answer("finding", v));
        for (int f = 1; f <= 5; f++) {
            compare("findings()", subject.findings(f), model.answer("findings", new int[] {f}));
        }
        compare("digest()", subject.digest(), model.answer("digest", v));
    }

    private void compare(String what, long got, long want) {
        if (got != want) {
            wrong++;
            System.out.println(told + what + ": " + got + ", due is " + want);
        }
    }

    private void writeRegistry() throws Exception {
        int t = random.nextInt(4);
        StringBuilder text = new StringBuilder();
        int items = 1 + random.nextInt(random.nextInt(10) == 0 ? 9 : 5);
        for (int i = 0; i < items; i++) {
            text.append(" ".repeat(random.nextInt(4) == 0 ? random.nextInt(3) : 0));
            text.append("nwsldp".charAt(random.nextInt(6)));
            text.append(random.nextInt(6)).append(random.nextInt(6)).append(random.nextInt(6));
            text.append(random.nextInt(random.nextInt(3) == 0 ? 10 : 4)).append(random.nextInt(4));
            text.append(random.nextInt(10)).append(random.nextInt(2));
        }
        if (random.nextInt(4) == 0) {
            text.setCharAt(random.nextInt(text.length()), " nz9:/6\u00e9".charAt(random.nextInt(8)));
        }
        if (random.nextInt(8) == 0) {
            text.setLength(text.length() - random.nextInt(text.length()));
        }
        text.setLength(Math.min(80, text.length()));
        both(named("text"), t, text.length());
        for (int i = 0; i < text.length(); i++) {
            if (text.charAt(i) != ' ') {
                both(named("put"), t, i, text.charAt(i));
            }
        }
        both(named("fault"), t);
        both(named("registry"), t);
    }

    private void writeRow() throws Exception {
        int r = random.nextInt(6);
        int way = random.nextInt(4);
        int size = way == 0 ? 3 : way == 1 ? 1 + random.nextInt(4) : way == 2 ? 3 * random.nextInt(5) : random.nextInt(8);
        int near = random.nextInt(216);
        both(named("row"), r, size);
        for (int i = 0; i < size; i++) {
            int v = random.nextInt(3) == 0 ? random.nextInt(216) : Math.min(215, near + random.nextInt(10));
            if (way == 0) {
                v = random.nextInt(16);
            }
            if (way == 2 && i % 3 == 2) {
                v = random.nextInt(2);
            }
            if (random.nextInt(60) == 0) {
                v = WILD[random.nextInt(WILD.length)];
            }
            both(named("lay"), r, i, v);
        }
        String[] on = way == 0 ? new String[] {"judged"} : way == 1 ? new String[] {"mix", "cheap", "cover", "best"}
                : way == 2 ? new String[] {"eyes", "show"} : new String[] {"cover", "best", "lives", "mean"};
        for (String name : on) {
            int[] v = arguments(named(name));
            v[name.equals("lives") ? 1 : 0] = r;
            if (name.equals("mix") && random.nextBoolean()) {
                v[1] = near + random.nextInt(9);
            }
            both(named(name), v);
        }
    }

    /** What each argument of a call is, by how many such there are. */
    private int[] arguments(Method call) {
        int[] many;
        int names = Math.max(1, subject.count(0));
        switch (call.getName()) {
            case "row": many = new int[] {6, 41}; break;
            case "lay": many = new int[] {6, 10, 216}; break;
            case "at": many = new int[] {6, 10}; break;
            case "copy": many = new int[] {6, 8, 6, 8, 8}; break;
            case "text": many = new int[] {4, 81}; break;
            case "put": many = new int[] {4, 80, 256}; break;
            case "fault": case "registry": many = new int[] {4}; break;
            case "name": many = new int[] {names, 7}; break;
            case "mark": many = new int[] {names, 6}; break;
            case "due": many = new int[] {names, 10}; break;
            case "say": many = new int[] {6, 216, 4, 4}; break;
            case "undo": many = new int[] {subject.count(1) + 2}; break;
            case "keep": case "on": many = new int[] {3}; break;
            case "apart": many = new int[] {216, 216}; break;
            case "called": many = new int[] {216}; break;
            case "owes": many = new int[] {4, 216}; break;
            case "gap": many = new int[] {6, 5}; break;
            case "lives": many = new int[] {4, 6}; break;
            case "cover": case "best": many = new int[] {6, 10}; break;
            case "mix": many = new int[] {6, 216}; break;
            case "cheap": many = new int[] {6, 4}; break;
            case "judged": many = new int[] {6, 216, 216}; break;
            case "lost": many = new int[] {names}; break;
            case "moves": many = new int[] {7}; break;
            case "was": many = new int[] {216, 10}; break;
            case "kinds": many = new int[] {names, 30}; break;
            case "odds": case "mid": many = new int[] {4}; break;
            case "lots": many = new int[] {4, 41, Integer.MAX_VALUE}; break;
            case "count": many = new int[] {9}; break;
            case "findings": many = new int[] {6}; break;
            default: many = new int[] {6}; break;
        }
        int[] v = new int[call.getParameterCount()];
        for (int i = 0; i < v.length; i++) {
            v[i] = random.nextInt(40) == 0 ? WILD[random.nextInt(WILD.length)] : random.nextInt(many[i]);
            if (random.nextInt(40) == 0) {
                v[i] = many[i];
            }
        }
        return v;
    }
}
