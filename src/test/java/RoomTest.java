import java.lang.reflect.Array;
import java.lang.reflect.Field;
import java.lang.reflect.Modifier;
import java.util.ArrayDeque;
import java.util.Collections;
import java.util.Deque;
import java.util.IdentityHashMap;
import java.util.Set;

/** What an object holds is small, made with it, and used again: no call makes or lets go of anything. */
public final class RoomTest extends Checks {
    private static final int MOST_OBJECTS = 100;
    private static final int MOST_ELEMENTS = 3000;

    private static int elements = 0;

    /** All objects and arrays that an object holds, itself too. */
    private static Set<Object> held(Object from) throws IllegalAccessException {
        Set<Object> seen = Collections.newSetFromMap(new IdentityHashMap<>());
        Deque<Object> open = new ArrayDeque<>();
        elements = 0;
        open.push(from);
        while (!open.isEmpty()) {
            Object o = open.pop();
            if (!seen.add(o)) {
                continue;
            }
            if (o.getClass().isArray()) {
                elements += Array.getLength(o);
                for (int at = 0; o instanceof Object[] row && at < row.length; at++) {
                    open.push(row[at]);
                }
                continue;
            }
            for (Field f : o.getClass().getDeclaredFields()) {
                if (!Modifier.isStatic(f.getModifiers())) {
                    elements++;
                    f.setAccessible(true);
                    if (!f.getType().isPrimitive() && f.get(o) != null) {
                        open.push(f.get(o));
                    }
                }
            }
        }
        return seen;
    }

    public static void main(String[] args) throws IllegalAccessException {
        promise(1);
        BothToBlame x = new BothToBlame();
        Set<Object> before = held(x);
        int made = before.size();
        int fields = elements;
        due("few objects", made <= MOST_OBJECTS, true);
        due("few fields and elements", fields <= MOST_ELEMENTS, true);
        x.text(feed(x, TWO + many(11, "goods al 100 day 10") + ";whole"));
        for (int c = 0; c < 40; c++) {
            x.law(5, c);
            x.file(0, 1, 5, 5);
            x.judged(0, 1, 50, 0);
            x.wished(0);
            x.image(c % 2);
            x.withdraw(c % 11);
            x.undo();
            x.shift(0, 1, 1);
            x.again(c % 2);
            x.worse(0, 1, -99999);
        }
        x.text(feed(x, TWO + ";;"));
        Set<Object> after = held(x);
        due("as many objects", after.size(), made);
        due("the same objects", after.containsAll(before), true);
        due("as many fields and elements", elements, fields);
        end("an object holds " + made + " objects and arrays, " + fields + " fields and elements");
    }
}
