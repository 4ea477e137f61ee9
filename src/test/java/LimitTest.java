import java.lang.reflect.Array;
import java.lang.reflect.Constructor;
import java.lang.reflect.Field;
import java.lang.reflect.Method;
import java.lang.reflect.Modifier;
import java.util.IdentityHashMap;
import java.util.Map;
import java.util.Random;
import java.util.TreeSet;

/** The longest lines, counts that wrap, any calls in any state, and the room and the face of the class. */
public final class LimitTest {
    private static final Check CHECK = new Check("LimitTest");

    public static void main(String[] args) throws ReflectiveOperationException {
        countsWrap();
        dearestSearches();
        anyCalls();
        room();
        face();
        CHECK.end();
    }

    /** Three given lines of twelve notes, species 4, no rule on, no COST. */
    private static SpeciesSolver longest() {
        SpeciesSolver x = new SpeciesSolver();
        for (int line = 0; line < 3; line++) {
            for (int i = 0; i < 12; i++) {
                x.note(50 + (i * 5 + line * 3) % 14);
            }
            x.give();
        }
        x.species(4, true);
        for (int rule = 0; rule < 11; rule++) {
            x.rule(rule, false);
        }
        for (int which = 12; which < 18; which++) {
            x.number(which, 0);
        }
        return x;
    }

    private static long power(long base, int exponent) {
        long product = 1;
        for (int i = 0; i < exponent; i++) {
            product *= base;
        }
        return product;
    }

    private static void countsWrap() {
        SpeciesSolver x = longest();
        CHECK.due("told(2)", x.told(2), 45);
        CHECK.due("8 to the 45th wraps to 0", x.count(), 0);
        CHECK.due("ties() too", x.ties(), 0);
        CHECK.due("a line is found all the same", x.solve(), 1);
        CHECK.due("its cost", x.cost(), 0);
        for (int i = 0; i < 45; i++) {
            CHECK.due("found(" + i + ")", x.found(i), 60);
        }
        CHECK.due("found(45)", x.found(45), -1);
        CHECK.due("reach()", x.reach(), 45);
        x.number(2, 71);
        CHECK.due("7 to the 45th", x.count(), power(7, 45));
        CHECK.due("ties()", x.ties(), power(7, 45));
        x.rule(10, true);
        long one = 0;
        for (int below = 0; below < 7; below++) {
            one += 45 * power(below, 44);
        }
        CHECK.due("with one highest note", x.count(), one);
        x.rule(10, false);
        x.rule(7, true);
        CHECK.due("with none repeated", x.count(), 7 * power(6, 44));
    }

    private static void dearestSearches() {
        for (int i = 0; i < 40; i++) {
            SpeciesSolver x = longest();
            x.rule(10, true);
            x.rule(7, true);
            x.number(11, 3);
            for (int which = 12; which < 18; which++) {
                x.number(which, 1000);
            }
            x.number(14, 1000 - i);
            CHECK.due("solve()", x.solve(), 1);
            CHECK.due("ties()", x.ties() != 0, true);
            for (int j = 0; j < 45; j++) {
                x.note(x.found(j));
            }
            x.attempt();
            CHECK.due("judge()", x.judge(), 0);
            CHECK.due("tried()", x.tried(), x.cost());
        }
    }

    private static int any(Random random) {
        int[] odd = {Integer.MIN_VALUE, Integer.MAX_VALUE, -1, 128, 4096, 1 << 25};
        switch (random.nextInt(8)) {
            case 0:
                return odd[random.nextInt(odd.length)];
            case 1:
                return random.nextInt(4096);
            case 2:
                return random.nextInt(1 << 25);
            case 3:
            case 4:
                return 55 + random.nextInt(20);
            default:
                return random.nextInt(14);
        }
    }

    private static long call(SpeciesSolver x, int which, int a, int b) {
        switch (which) {
            case 0: return x.give();
            case 1: return x.attempt();
            case 2: return x.drop() ? 1 : 0;
            case 3: return x.species(a, b > 6) ? 1 : 0;
            case 4: return x.rule(a, b > 6) ? 1 : 0;
            case 5: return x.number(a, b) ? 1 : 0;
            case 6: return x.setting(a);
            case 7: return x.choice();
            case 8: return x.solve();
            case 9: return x.found(a);
            case 10: return x.cost();
            case 11: return x.count();
            case 12: return x.ties();
            case 13: return x.reach();
            case 14: return x.keep();
            case 15: return x.judge();
            case 16: return x.fault(a, b);
            case 17: return x.tried();
            case 18: return x.told(a);
            default: return x.note(a);
        }
    }

    /** No call throws; and an object answers the same when the same is asked of another one. */
    private static void anyCalls() {
        Random random = new Random(7);
        for (int run = 0; run < 1500; run++) {
            SpeciesSolver x = new SpeciesSolver();
            SpeciesSolver y = new SpeciesSolver();
            for (int i = 0; i < 512; i++) {
                int which = random.nextInt(32);
                int a = any(random);
                int b = any(random);
                CHECK.due("run " + run + " call " + i, call(x, which, a, b), call(y, which, a, b));
            }
        }
    }

    private static long elements(Object o, Map<Object, Boolean> seen) throws ReflectiveOperationException {
        if (o == null || seen.put(o, true) != null) {
            return 0;
        }
        long sum = 0;
        if (o.getClass().isArray()) {
            sum = Array.getLength(o);
            for (int i = 0; i < Array.getLength(o) && !o.getClass().getComponentType().isPrimitive(); i++) {
                sum += elements(Array.get(o, i), seen);
            }
            return sum;
        }
        for (Field field : o.getClass().getDeclaredFields()) {
            if (!Modifier.isStatic(field.getModifiers())) {
                sum++;
                field.setAccessible(true);
                if (!field.getType().isPrimitive()) {
                    sum += elements(field.get(o), seen);
                }
            }
        }
        return sum;
    }

    private static long bytesMade() {
        java.lang.management.ThreadMXBean threads = java.lang.management.ManagementFactory.getThreadMXBean();
        return threads instanceof com.sun.management.ThreadMXBean sun
            ? sun.getThreadAllocatedBytes(Thread.currentThread().getId()) : 0;
    }

    private static void room() throws ReflectiveOperationException {
        SpeciesSolver x = longest();
        long elements = elements(x, new IdentityHashMap<>());
        CHECK.due("an object has " + elements + " elements", elements < 140000, true);
        bytesMade();
        long before = bytesMade();
        for (int i = 0; i < 30; i++) {
            x.number(14, i);
            x.solve();
            x.reach();
            x.judge();
        }
        CHECK.due("calls make no objects", bytesMade() - before < 20000, true);
    }

    private static void face() {
        String[] methods = {"int note(int)", "int give()", "int attempt()", "boolean drop()",
            "boolean species(int,boolean)", "boolean rule(int,boolean)", "boolean number(int,int)", "int setting(int)",
            "int choice()", "int solve()", "int found(int)", "int cost()", "long count()", "long ties()", "int reach()",
            "int keep()", "int judge()", "int fault(int,int)", "int tried()", "int told(int)"};
        TreeSet<String> due = new TreeSet<>();
        for (String method : methods) {
            due.add("public " + method);
        }
        TreeSet<String> got = new TreeSet<>();
        for (Method method : SpeciesSolver.class.getDeclaredMethods()) {
            if (!Modifier.isPrivate(method.getModifiers())) {
                got.add(method.toGenericString().replace("SpeciesSolver.", ""));
            }
        }
        CHECK.due("methods", got.toString(), due.toString());
        int modifiers = SpeciesSolver.class.getModifiers();
        CHECK.due("public and final", Modifier.isPublic(modifiers) && Modifier.isFinal(modifiers), true);
        int fields = 0;
        for (Field field : SpeciesSolver.class.getDeclaredFields()) {
            fields += Modifier.isPrivate(field.getModifiers()) ? 0 : 1;
        }
        CHECK.due("NONE alone", fields, 1);
        CHECK.due("NONE", SpeciesSolver.NONE, -1);
        Constructor<?>[] constructors = SpeciesSolver.class.getDeclaredConstructors();
        CHECK.due("one constructor", constructors.length, 1);
    }
}
