import com.sun.management.ThreadMXBean;
import java.lang.management.ManagementFactory;
import java.lang.reflect.Array;
import java.lang.reflect.Field;
import java.lang.reflect.Modifier;
import java.util.ArrayDeque;
import java.util.Collections;
import java.util.Deque;
import java.util.IdentityHashMap;
import java.util.NoSuchElementException;
import java.util.Set;

/** The room that an object takes when it is made, and that its calls take none. */
public final class RoomTests {
    private static final int OBJECTS_MOST = 300;
    private static final int ELEMENTS_MOST = 12000;
    private static final int CALLS = 512;
    private static final String LOOP = "x 4;y 1;while x+y<5{pick{pay 3;x=x+1}{coin{x=x-1}{y=1-y}};if x=2{pay 1}{out}}";
    private static final String GUESS = "x>1 and y=0 or x=4?7-x by 3;y<1?5x+2y by 12;9";

    private static int wrong = 0;
    private static long answers = 0;

    public static void main(String[] args) throws IllegalAccessException {
        roomOfAnObject();
        roomOfCalls();
        System.out.println(wrong == 0 ? "the room is as due" : wrong + " faults of the room");
        if (wrong != 0) {
            System.exit(1);
        }
    }

    private static void must(boolean holds, String what) {
        if (!holds) {
            wrong++;
            System.out.println(what);
        }
    }

    /** All that can be come to from a new object, fields and elements counted. */
    private static void roomOfAnObject() throws IllegalAccessException {
        Set<Object> met = Collections.newSetFromMap(new IdentityHashMap<>());
        Deque<Object> todo = new ArrayDeque<>();
        Object first = new CoinLoops();
        met.add(first);
        todo.add(first);
        long elements = 0;
        while (!todo.isEmpty()) {
            Object one = todo.pop();
            elements += one.getClass().isArray() ? elementsOf(one, met, todo) : fieldsOf(one, met, todo);
        }
        must(met.size() <= OBJECTS_MOST, "an object is made of " + met.size() + " objects and arrays");
        must(elements <= ELEMENTS_MOST, "an object is made of " + elements + " fields and elements");
    }

    private static int elementsOf(Object array, Set<Object> met, Deque<Object> todo) {
        int size = Array.getLength(array);
        for (int i = 0; i < size && !array.getClass().getComponentType().isPrimitive(); i++) {
            meet(Array.get(array, i), met, todo);
        }
        return size;
    }

    private static int fieldsOf(Object one, Set<Object> met, Deque<Object> todo) throws IllegalAccessException {
        int size = 0;
        for (Field field : one.getClass().getDeclaredFields()) {
            if (!Modifier.isStatic(field.getModifiers())) {
                size++;
                field.setAccessible(true);
                if (!field.getType().isPrimitive()) {
                    meet(field.get(one), met, todo);
                }
            }
        }
        return size;
    }

    private static void meet(Object one, Set<Object> met, Deque<Object> todo) {
        if (one != null && met.add(one)) {
            todo.add(one);
        }
    }

    private static int[] packed(String text) {
        int[] fives = new int[(text.length() + 19) / 20 * 5];
        for (int i = 0; i < fives.length * 4; i++) {
            fives[i / 4] = fives[i / 4] << 8 | (i < text.length() ? text.charAt(i) : 0);
        }
        return fives;
    }

    private static void tell(CoinLoops c, int[] fives) {
        for (int i = 0; i + 4 < fives.length; i += 5) {
            answers += c.feed(fives[i], fives[i + 1], fives[i + 2], fives[i + 3], fives[i + 4]);
        }
    }

    /** Nothing is made by any call but the exception of choice(), which is not asked for here. */
    private static void roomOfCalls() {
        ThreadMXBean meter = (ThreadMXBean) ManagementFactory.getThreadMXBean();
        int[] loop = packed(LOOP);
        int[] guess = packed(GUESS);
        CoinLoops c = new CoinLoops();
        allCalls(c, loop, guess);
        must(refusedChoice(c), "choice() of no such STATE is not refused");
        long before = meter.getCurrentThreadAllocatedBytes();
        long nothing = meter.getCurrentThreadAllocatedBytes() - before;
        before = meter.getCurrentThreadAllocatedBytes();
        for (int i = 0; i < CALLS; i += 50) {
            allCalls(c, loop, guess);
        }
        long made = meter.getCurrentThreadAllocatedBytes() - before - nothing;
        must(made <= 0, "calls have made " + made + " bytes of objects");
        must(c.rule(2) == 10 && c.rule(7) == 3, "the texts were not taken, by " + answers);
    }

    private static boolean refusedChoice(CoinLoops c) {
        try {
            return c.choice(-1, 0, 0) < 0;
        } catch (NoSuchElementException e) {
            return true;
        }
    }

    private static void allCalls(CoinLoops c, int[] loop, int[] guess) {
        c.end(0);
        tell(c, loop);
        answers += c.fault(0) + c.fault(1) + c.loop();
        tell(c, guess);
        answers += c.fault(0) + c.fault(1) + c.guess();
        answers += c.bind(0, 1) + c.price(0, 20) + c.price(1, 7);
        for (int what = -1; what < 10; what++) {
            answers += c.rule(what) + c.most(what) + c.status(what) + c.count(what) + c.refutes(what);
        }
        for (int state = -1; state < 11; state++) {
            answers += c.choices(state) + c.leads(state, 0, 1) + c.paid(state, true, 0) + c.ends(state, false, 1);
            answers += c.plan(state, false, 1) + c.within(state, 20, true, 1) + c.half(state);
            answers += c.guessed(state, 0) + c.ahead(state, 0, 1) + c.best(state, 0) + c.run(state, 5, 77, 200, 2);
        }
        answers += c.bind(0, -1) + c.unsure() + c.paid(0, true, 0) + c.best(0, 0) + c.choice(0, 0, 1);
    }
}
