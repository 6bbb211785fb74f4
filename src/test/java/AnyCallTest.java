import java.lang.reflect.InvocationTargetException;
import java.lang.reflect.Method;
import java.lang.reflect.Modifier;
import java.util.ArrayList;
import java.util.Arrays;
import java.util.Comparator;
import java.util.List;
import java.util.Random;

/** Rule 7 of the language: no call throws, whatever its arguments and whatever stands, even behind the 512th call. */
public final class AnyCallTest {
    private static final int[] EDGES = {Integer.MIN_VALUE, Integer.MIN_VALUE + 1, -1000000005, -100000, -99999, -32769, -2, -1, 0, 1, 2, 3, 4, 5, 6, 7, 8,
        9, 10, 11, 12, 13, 14, 20, 21, 24, 25, 30, 31, 60, 61, 96, 97, 99, 100, 255, 256, 32768, 99999, 100000, 1 << 30, Integer.MAX_VALUE - 1,
        Integer.MAX_VALUE};
    private static final int RUNS = 60;
    private static final int CALLS = 3000;
    private static final Due due = new Due();

    public static void main(String[] args) throws IllegalAccessException {
        List<Method> calls = new ArrayList<>();
        for (Method method : KeptLeaves.class.getDeclaredMethods()) {
            if (Modifier.isPublic(method.getModifiers())) {
                calls.add(method);
            }
        }
        calls.sort(Comparator.comparing(Method::getName));
        due.is("calls", calls.size(), 45);
        for (Method call : calls) {
            everyEdge(call);
        }
        for (int run = 0; run < RUNS; run++) {
            byLot(calls, new Random(run), run % 3);
        }
        due.end("AnyCallTest");
    }

    /** Each argument at each edge, the others at small ones, on an object with nothing and on one with as much as there may be. */
    private static void everyEdge(Method call) throws IllegalAccessException {
        for (int full = 0; full < 2; full++) {
            KeptLeaves x = full == 0 ? new KeptLeaves() : stuffed();
            int takes = call.getParameterCount();
            if (takes == 0) {
                answer(x, call);
            }
            for (int which = 0; which < takes; which++) {
                for (int edge : EDGES) {
                    for (int others = -1; others < 3; others++) {
                        Object[] given = new Object[takes];
                        Arrays.fill(given, others);
                        given[which] = edge;
                        answer(x, call, given);
                    }
                }
            }
        }
    }

    private static KeptLeaves stuffed() {
        KeptLeaves x = new KeptLeaves();
        x.deal(8);
        x.space(60);
        for (int i = 0; i < 24; i++) {
            x.plan(i % 8);
        }
        x.run(24);
        for (int i = 0; i < 14; i++) {
            Due.text(x, "throw a*t/(r-n)");
        }
        for (int i = 0; i < 4; i++) {
            x.sheet(i, i % 2, 24);
        }
        for (int i = 0; i < 5; i++) {
            x.lay(i, i % 4, i % 4);
        }
        for (int i = 0; i < 60; i++) {
            x.tell(i);
        }
        x.keep();
        return x;
    }

    private static void byLot(List<Method> calls, Random lot, int tameness) throws IllegalAccessException {
        KeptLeaves x = new KeptLeaves();
        for (int i = 0; i < CALLS; i++) {
            Method call = calls.get(lot.nextInt(calls.size()));
            Object[] given = new Object[call.getParameterCount()];
            for (int k = 0; k < given.length; k++) {
                given[k] = lot.nextInt(3) < tameness ? lot.nextInt(9) : lot.nextInt(9) > 0 ? EDGES[lot.nextInt(EDGES.length)] : lot.nextInt();
            }
            answer(x, call, given);
            if (lot.nextInt(8) == 0) {
                Due.text(x, new String[] {"room s*n-4", "miss 9999*l|n", "throw t/(a-r)*9999*9999", "room ((((((((!!!!!!!!s", "miss l/0"}[lot.nextInt(5)]);
            }
        }
    }

    private static void answer(KeptLeaves x, Method call, Object... given) throws IllegalAccessException {
        boolean ended = true;
        try {
            call.invoke(x, given);
        } catch (InvocationTargetException e) {
            ended = false;
            System.out.println(e.getCause());
        }
        due.holds(call.getName() + Arrays.toString(given) + " ends with an answer", ended);
    }
}
