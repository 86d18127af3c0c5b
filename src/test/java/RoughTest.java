import java.lang.management.ManagementFactory;
import java.lang.reflect.InvocationTargetException;
import java.lang.reflect.Method;
import java.lang.reflect.Modifier;
import java.util.ArrayList;
import java.util.Comparator;
import java.util.List;
import java.util.Random;

/** Whole lives of objects (512 calls) by any arguments: no call throws, equal calls answer alike, and no call makes objects. */
public final class RoughTest {
    private static final int[] ODD = {Integer.MIN_VALUE, Integer.MIN_VALUE + 1, -1001, -1000, -100, -99, -51, -50, -11, -10, -5, -4,
        -3, -2, -1, 0, 1, 2, 3, 4, 5, 6, 7, 8, 9, 10, 11, 32, 39, 40, 41, 50, 51, 59, 60, 61, 98, 99, 100, 127, 128, 150, 999999,
        1000000, Integer.MAX_VALUE - 1, Integer.MAX_VALUE};
    private static int wrong = 0;

    public static void main(String[] args) throws IllegalAccessException {
        for (int run = 0; run < 600 && wrong < 5; run++) {
            live(run);
        }
        callsMakeNothing();
        System.out.println("RoughTest: " + (wrong == 0 ? "nothing is wrong" : wrong + " wrong"));
        if (wrong != 0) {
            System.exit(1);
        }
    }

    private static List<Method> face() {
        List<Method> methods = new ArrayList<>();
        for (Method method : SidesChange.class.getDeclaredMethods()) {
            if (Modifier.isPublic(method.getModifiers())) {
                methods.add(method);
            }
        }
        methods.sort(Comparator.comparing(Method::getName));
        return methods;
    }

    private static void live(int run) throws IllegalAccessException {
        Random random = new Random(run);
        SidesChange one = new SidesChange();
        SidesChange two = new SidesChange();
        List<Method> face = face();
        for (int call = 0; call < 512; call++) {
            Method method = face.get(random.nextInt(face.size()));
            Object[] arguments = new Object[method.getParameterCount()];
            for (int i = 0; i < arguments.length; i++) {
                arguments[i] = random.nextInt(4) == 0 ? ODD[random.nextInt(ODD.length)] : random.nextInt(7);
            }
            try {
                Object first = method.invoke(one, arguments);
                Object second = method.invoke(two, arguments);
                if (!first.equals(second)) {
                    fail("run " + run + ": " + method.getName() + " answered " + first + " and " + second);
                }
            } catch (InvocationTargetException thrown) {
                fail("run " + run + ": " + method.getName() + " threw " + thrown.getCause());
            }
        }
    }

    private static void fail(String what) {
        wrong++;
        System.out.println(what);
    }

    private static void callsMakeNothing() {
        com.sun.management.ThreadMXBean meter = (com.sun.management.ThreadMXBean) ManagementFactory.getThreadMXBean();
        long self = Thread.currentThread().getId();
        SidesChange x = new SidesChange();
        callAll(x);
        long before = meter.getThreadAllocatedBytes(self);
        for (int round = 0; round < 50; round++) {
            callAll(x);
        }
        long made = meter.getThreadAllocatedBytes(self) - before;
        // The meter itself may make a little; one object in each round would be some 800.
        if (made > 400) {
            fail("50 rounds of all calls made " + made + " bytes");
        }
        before = meter.getThreadAllocatedBytes(self);
        SidesChange[] all = new SidesChange[1000];
        for (int i = 0; i < all.length; i++) {
            all[i] = new SidesChange();
        }
        made = (meter.getThreadAllocatedBytes(self) - before) / all.length;
        if (made > 6000) {
            fail("a new object makes " + made + " bytes");
        }
    }

    private static long callAll(SidesChange x) {
        long sum = x.suit(3, 4) + x.bows(0, 3) + x.bows(1, 3);
        for (int p = 0; p < 7; p++) {
            sum += x.point(p % 6, p + 1, p % 4);
        }
        sum += x.says(0) + x.says(1) + x.says(2) + x.objects() + x.undo();
        for (int what = 0; what < 4; what++) {
            sum += x.play(what) + x.bowed(what) + x.now(what) + x.count(what) + x.status(what) + x.part(what);
            sum += x.of(1, what) + x.about(1, what) + x.moves(what) + x.look(what) + x.is(what);
        }
        sum += x.proof(0) + x.proof(1) + x.ends(3) + x.note(1, 1, 1, 1, 1) + x.mark(1, 1, 1, 1) + x.kinds(1) + x.ask(1);
        sum += x.settle(-1) + x.settle(0) + x.hearings(3) + x.days(7, 60) + x.image(0) + x.from(0) + x.forget(0);
        x.clear();
        String text = "case 1 2;point 3 4 1;say 0;object;";
        for (int i = 0; i < text.length(); i++) {
            sum += x.type(text.charAt(i));
        }
        return sum + x.read() + x.digest();
    }
}
