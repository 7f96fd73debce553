import java.lang.management.ManagementFactory;
import java.lang.reflect.InvocationTargetException;
import java.lang.reflect.Method;
import java.lang.reflect.Modifier;
import java.util.ArrayList;
import java.util.Comparator;
import java.util.List;
import java.util.Random;

/** No call throws, for any arguments in any state; what is refused changes nothing; calls leave the room free. */
public final class RobustTest {
    private static final int[] EDGES = {Integer.MIN_VALUE, Integer.MIN_VALUE + 1, -100001, -501, -97, -13, -2, -1, 0, 1,
        2, 3, 4, 5, 7, 8, 9, 10, 11, 12, 13, 19, 20, 21, 47, 48, 49, 95, 96, 97, 100, 101, 499, 500, 501, 5000, 5001,
        100000, 100001, 999999, 1000000, Integer.MAX_VALUE - 1, Integer.MAX_VALUE};
    private static final Checks CHECKS = new Checks("RobustTest");

    public static void main(String[] args) throws ReflectiveOperationException {
        nothingThrows();
        refusedChangesNothing();
        dearCallsMakeNoObjects();
        CHECKS.finish();
    }

    static List<Method> face() {
        List<Method> methods = new ArrayList<>();
        for (Method method : OilWatch.class.getDeclaredMethods()) {
            if (Modifier.isPublic(method.getModifiers())) {
                methods.add(method);
            }
        }
        methods.sort(Comparator.comparing(Method::getName));
        return methods;
    }

    private static Integer[] draw(Random random, int count, boolean wild) {
        Integer[] arguments = new Integer[count];
        for (int i = 0; i < count; i++) {
            arguments[i] = wild ? EDGES[random.nextInt(EDGES.length)] : random.nextInt(random.nextBoolean() ? 5 : 96);
        }
        return arguments;
    }

    /** Far more calls than the 512 that the document speaks of. */
    private static void nothingThrows() throws ReflectiveOperationException {
        List<Method> methods = face();
        for (int run = 0; run < 60; run++) {
            CHECKS.at("run " + run);
            Random random = new Random(run);
            OilWatch x = new OilWatch();
            for (int i = 0; i < 3000; i++) {
                Method method = methods.get(random.nextInt(methods.size()));
                Integer[] arguments = draw(random, method.getParameterCount(), random.nextInt(3) == 0);
                CHECKS.due(method.getName() + List.of(arguments) + " throws", doesThrow(x, method, arguments), false);
            }
        }
    }

    private static boolean doesThrow(OilWatch x, Method method, Integer[] arguments)
            throws ReflectiveOperationException {
        try {
            method.invoke(x, (Object[]) arguments);
            return false;
        } catch (InvocationTargetException e) {
            System.out.println(e.getCause());
            return true;
        }
    }

    /** Two objects get the same calls; one gets calls with wild arguments too, as long as they are refused; 507 calls each. */
    private static void refusedChangesNothing() throws ReflectiveOperationException {
        List<Method> methods = face();
        for (int run = 0; run < 40; run++) {
            CHECKS.at("refused, run " + run);
            Random random = new Random(1000 + run);
            OilWatch x = new OilWatch();
            OilWatch y = new OilWatch();
            for (int i = 0; i < 200; i++) {
                Method method = methods.get(random.nextInt(methods.size()));
                Integer[] wild = draw(random, method.getParameterCount(), true);
                long answer = number(method.invoke(x, (Object[]) wild));
                boolean refused = answer == (method.getReturnType() == boolean.class ? 0 : -1);
                if (!refused) {
                    method.invoke(y, (Object[]) wild);
                }
                Method other = methods.get(random.nextInt(methods.size()));
                Integer[] tame = draw(random, other.getParameterCount(), false);
                CHECKS.due(other.getName() + List.of(tame), number(other.invoke(x, (Object[]) tame)),
                    number(other.invoke(y, (Object[]) tame)));
            }
            for (int cell = 0; cell < 96; cell++) {
                CHECKS.due("oil(" + cell + ")", x.oil(cell), y.oil(cell));
            }
            for (int what = 0; what <= 10; what++) {
                CHECKS.due("count(" + what + ")", x.count(what), y.count(what));
            }
        }
    }

    private static long number(Object answer) {
        return answer instanceof Boolean flag ? (flag ? 1 : 0) : (Integer) answer;
    }

    private static void dearCallsMakeNoObjects() {
        CHECKS.at("room");
        var threads = (com.sun.management.ThreadMXBean) ManagementFactory.getThreadMXBean();
        OilWatch x = new OilWatch();
        fillUp(x);
        long before = threads.getThreadAllocatedBytes(Thread.currentThread().getId());
        int sum = 0;
        for (int i = 0; i < 100; i++) {
            sum += x.best(3, 3, 0) + x.worst(48) + x.go(4) + x.sample(50, 123456) + x.bill(1);
        }
        long made = threads.getThreadAllocatedBytes(Thread.currentThread().getId()) - before;
        CHECKS.due("the calls answer", sum > 0, true);
        CHECKS.due("500 dear calls make less than 100000 bytes (" + made + ")", made < 100000, true);
    }

    private static void fillUp(OilWatch x) {
        for (int cell = 0; cell < 96; cell += 7) {
            x.spill(cell, 1000 + cell);
        }
        for (int i = 0; i < 4; i++) {
            x.skimmer(50 + i, 3000, 100000, 3);
            x.part(i, i + 1);
        }
        for (int i = 0; i < 8; i++) {
            x.ship(123450 + i, 40 + i, 0);
        }
        for (int hour = 0; hour <= 500; hour++) {
            x.weather(0, hour, 1 + hour % 4, hour % 10);
        }
    }
}
