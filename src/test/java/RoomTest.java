import java.lang.management.ManagementFactory;
import java.lang.reflect.Array;
import java.lang.reflect.Field;
import java.lang.reflect.Modifier;
import java.util.IdentityHashMap;
import java.util.Map;

/** What a run of 512 calls makes: all of it stands in the constructor, and the dearest calls make nothing. */
public final class RoomTest {
    private static int wrong;
    private static long objects;
    private static long elements;

    private RoomTest() {
    }

    private static void expect(String what, boolean is) {
        if (!is) {
            wrong++;
            System.out.println("not so: " + what);
        }
    }

    private static void count(Object o, Map<Object, Boolean> seen) throws IllegalAccessException {
        if (o == null || seen.put(o, true) != null) {
            return;
        }
        objects++;
        if (o.getClass().isArray()) {
            elements += Array.getLength(o);
            if (o instanceof Object[] many) {
                for (Object one : many) {
                    count(one, seen);
                }
            }
            return;
        }
        for (Field f : o.getClass().getDeclaredFields()) {
            if (!Modifier.isStatic(f.getModifiers())) {
                elements++;
                f.setAccessible(true);
                if (!f.getType().isPrimitive()) {
                    count(f.get(o), seen);
                }
            }
        }
    }

    private static String full() {
        StringBuilder text = new StringBuilder();
        for (int i = 0; i < 5; i++) {
            text.append("house ").append((char) ('a' + i)).append(" at ").append(i * 7 % 5).append(" heads 7;");
        }
        String law = "not not not not not not not heads";
        for (String word : new String[] {"spit", "tax", "grow"}) {
            text.append(word).append(' ').append(law);
            for (int i = 1; i < 10; i++) {
                text.append(" or not(not(not stones))");
            }
            text.append(';');
        }
        return text.toString();
    }

    /** Call i of a run in which each kind of call comes again and again, with other arguments. */
    private static long call(StoneCensus x, int i) {
        switch (i % 24) {
            case 0: return x.summer();
            case 1: return x.will(i % 5, 60);
            case 2: return x.bowls(60);
            case 3: return x.leave(i);
            case 4: return x.least();
            case 5: return x.rounds(i);
            case 6: return x.noon(1 + i % 5);
            case 7: return x.stone(20, i & 1);
            case 8: return x.loss(0);
            case 9: return x.draft(0, 5);
            case 10: return x.chase();
            case 11: return x.marks(60, 60, 0);
            case 12: return x.report(31 - i % 7, i % 20, 33);
            case 13: return x.later(1);
            case 14: return x.truths(i / 24);
            case 15: return x.liars(i / 24);
            case 16: return x.tells(1, i / 24);
            case 17: return x.knock(0, i / 24);
            case 18: return x.odds(0, 3, 1, i / 24);
            case 19: return x.undo() ? 1 : 0;
            case 20: return x.image(i % 3);
            case 21: return x.back(i % 3);
            case 22: return x.sum(5);
            default: return x.untell(i / 24 - 3) ? 1 : 0;
        }
    }

    private static long madeBy(Runnable calls) {
        com.sun.management.ThreadMXBean bean = (com.sun.management.ThreadMXBean) ManagementFactory.getThreadMXBean();
        long id = Thread.currentThread().getId();
        bean.getThreadAllocatedBytes(id);
        long before = bean.getThreadAllocatedBytes(id);
        calls.run();
        return bean.getThreadAllocatedBytes(id) - before;
    }

    private static long[] answers = new long[1];

    private static void callsMakeNothing() {
        String text = full();
        StoneCensus x = Texts.told(text);
        int[][] fives = new int[text.length() / 20 + 1][];
        for (int i = 0; i < fives.length; i++) {
            fives[i] = Texts.five(text, 20 * i);
        }
        Runnable run = () -> {
            for (int i = 0; i < 512; i++) {
                answers[0] += call(x, i);
            }
        };
        Runnable reading = () -> {
            for (int i = 0; i < 6; i++) {
                for (int[] f : fives) {
                    answers[0] += x.feed(f[0], f[1], f[2], f[3], f[4]);
                }
                answers[0] += x.end(text.length() - i);
                answers[0] += x.province();
            }
        };
        run.run();
        reading.run();
        // What the machine itself makes by the way stays far below one array of the class.
        expect("512 calls make nothing", madeBy(run) < 2000);
        expect("reading texts makes nothing", madeBy(reading) < 2000);
    }

    public static void main(String[] args) throws IllegalAccessException {
        count(new StoneCensus(), new IdentityHashMap<>());
        System.out.println("an object is made of " + objects + " objects and arrays, " + elements + " fields and elements");
        expect("few objects", objects < 600);
        expect("few elements", elements < 30000);
        callsMakeNothing();
        if (wrong != 0) {
            System.exit(1);
        }
    }
}
