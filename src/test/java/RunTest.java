import java.lang.reflect.Method;
import java.lang.reflect.Modifier;
import java.util.Arrays;
import java.util.Random;
import java.util.TreeMap;

/** Random runs of up to 512 calls, with a fixed seed: each call is asked of an object and of the model. */
public final class RunTest {
    private static final Check CHECK = new Check("RunTest");
    private static final Random RANDOM = new Random(20261116);
    private static final int[] FAR = {Integer.MIN_VALUE, Integer.MAX_VALUE, -1, 128, 4096, 1 << 25};
    /** How often each call was answered with something else than NONE and false. */
    private static final TreeMap<String, Integer> TAKEN = new TreeMap<>();

    private final SpeciesSolver x = new SpeciesSolver();
    private final Model model = new Model();
    private final String name;
    private int calls = 0;

    private RunTest(int run) {
        name = "run " + run + ": ";
    }

    public static void main(String[] args) throws ReflectiveOperationException {
        for (int run = 0; run < 1500; run++) {
            new RunTest(run).go();
        }
        for (Method method : SpeciesSolver.class.getDeclaredMethods()) {
            if (Modifier.isPublic(method.getModifiers())) {
                int taken = TAKEN.getOrDefault(method.getName(), 0);
                CHECK.due(method.getName() + " taken " + taken + " times", taken > 500, true);
            }
        }
        CHECK.end();
    }

    private static int between(int low, int high) {
        return low + RANDOM.nextInt(high - low + 1);
    }

    private long ask(String call, Object... arguments) throws ReflectiveOperationException {
        if (calls >= 512) {
            return 0;
        }
        calls++;
        Class<?>[] types = new Class<?>[arguments.length];
        for (int i = 0; i < types.length; i++) {
            types[i] = arguments[i] instanceof Boolean ? boolean.class : int.class;
        }
        long want = asNumber(Model.class.getDeclaredMethod(call, types).invoke(model, arguments));
        long got = asNumber(SpeciesSolver.class.getMethod(call, types).invoke(x, arguments));
        CHECK.due(name + "call " + calls + ", " + call + Arrays.toString(arguments), got, want);
        boolean isBoolean = SpeciesSolver.class.getMethod(call, types).getReturnType() == boolean.class;
        if (want != (isBoolean ? 0 : -1)) {
            TAKEN.merge(call, 1, Integer::sum);
        }
        return want;
    }

    private static long asNumber(Object answer) {
        return answer instanceof Boolean yes ? yes ? 1 : 0 : ((Number) answer).longValue();
    }

    private void go() throws ReflectiveOperationException {
        setRules();
        while (calls < 512) {
            step();
        }
    }

    private void step() throws ReflectiveOperationException {
        switch (RANDOM.nextInt(16)) {
            case 0, 1 -> give();
            case 2, 3 -> tryOne();
            case 4 -> ask("species", RANDOM.nextInt(4) == 0 ? any() : 1 << between(0, 2), RANDOM.nextBoolean());
            case 5 -> ask("rule", RANDOM.nextInt(8) == 0 ? any() : between(0, 10), RANDOM.nextInt(3) == 0);
            case 6 -> setNumber();
            case 7 -> setChoice();
            case 8, 9 -> solve();
            case 10 -> search("count");
            case 11 -> search("ties");
            case 12 -> search("reach");
            case 13 -> ask("keep");
            case 14 -> dropSome();
            default -> look();
        }
    }

    private void setRules() throws ReflectiveOperationException {
        int likely = between(0, 4);
        for (int rule = 0; rule < 11; rule++) {
            ask("rule", rule, RANDOM.nextInt(4) < likely);
        }
    }

    private static int any() {
        return RANDOM.nextInt(3) == 0 ? FAR[RANDOM.nextInt(FAR.length)] : between(-2, 20);
    }

    private void write(int size) throws ReflectiveOperationException {
        int pitch = between(55, 68);
        for (int i = 0; i < size; i++) {
            ask("note", RANDOM.nextInt(60) == 0 ? FAR[RANDOM.nextInt(4)] : pitch);
            pitch = Math.max(0, Math.min(127, pitch + between(-4, 4)));
        }
    }

    private void give() throws ReflectiveOperationException {
        int n = model.told(1);
        boolean fits = n > 0 && RANDOM.nextInt(6) > 0;
        write(Math.max(0, (fits ? n : between(1, RANDOM.nextInt(4) == 0 ? 14 : 5)) - model.told(3)));
        ask("give");
        if (RANDOM.nextBoolean()) {
            ask("attempt");
        }
    }

    private void tryOne() throws ReflectiveOperationException {
        write(Math.max(0, model.told(2) + (RANDOM.nextInt(6) == 0 ? between(-1, 1) : 0) - model.told(3)));
        ask("attempt");
        ask("judge");
        ask("tried");
        lookAtFaults();
    }

    private void lookAtFaults() throws ReflectiveOperationException {
        int k = RANDOM.nextInt(8) == 0 ? between(-1, 205) : between(0, 4);
        for (int what = 0; what < 3; what++) {
            ask("fault", k, what);
        }
        ask("fault", any(), any());
    }

    private void setNumber() throws ReflectiveOperationException {
        int which = between(3, 17);
        int[] most = {4095, 4095, 4095, 4095, (1 << 25) - 1, 12, 24, 24, 3, 5, 5, 5, 5, 5, 5};
        int v = RANDOM.nextInt(6) == 0 ? any() : RANDOM.nextInt(most[which - 3] + 2);
        if (which == 7) {
            v &= RANDOM.nextInt(1 << 25) & RANDOM.nextInt(1 << 25);
        }
        ask("number", RANDOM.nextInt(10) == 0 ? any() : which, v);
        ask("setting", which);
        ask("setting", any());
    }

    private void setChoice() throws ReflectiveOperationException {
        int low = between(55, 66);
        ask("number", 0, RANDOM.nextInt(3) == 0 ? 2741 : RANDOM.nextInt(4096));
        ask("number", 1, low);
        ask("number", 2, RANDOM.nextInt(10) == 0 ? low + 24 : low + between(-1, 8));
        ask("choice");
    }

    private void search(String call) throws ReflectiveOperationException {
        if (!model.isDearToSearch()) {
            ask(call);
        }
    }

    private void solve() throws ReflectiveOperationException {
        search("solve");
        look();
        if (RANDOM.nextInt(3) == 0) {
            ask("keep");
        }
    }

    private void dropSome() throws ReflectiveOperationException {
        for (int times = RANDOM.nextInt(4) == 0 ? 4 : 1; times > 0; times--) {
            ask("drop");
        }
    }

    private void look() throws ReflectiveOperationException {
        ask("told", any());
        for (int what = 0; what < 6; what++) {
            ask("told", what);
        }
        ask("cost");
        for (int times = 0; times < 6; times++) {
            ask("found", between(-1, model.told(5)));
        }
        ask("judge");
        ask("tried");
        lookAtFaults();
    }
}
