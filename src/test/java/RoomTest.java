import java.lang.management.ManagementFactory;
import java.lang.reflect.Array;
import java.lang.reflect.Field;
import java.lang.reflect.Modifier;
import java.util.ArrayDeque;
import java.util.Deque;
import java.util.IdentityHashMap;
import java.util.Map;
import java.util.Random;

/** What a town takes up, that no call makes an object, and that none throws, whatever it is asked. */
public final class RoomTest {
    private static final int KINDS = 30;
    private static final int FEED = 5;
    private static final int LAW = 6;
    private static final int HOURS = 7;
    private static final int JOINED = 15;
    private static final int SEEN = 17;
    private static final int HISTORY = 22;
    private static final int UNDO = 27;
    private static final int CHECK = 28;
    private static final int CALLS = 512;
    private static final int MOST_OBJECTS = 300;
    private static final int MOST_PARTS = 30000;
    private static final int[] EDGES = {0, 1, 2, 3, 4, 5, 8, 9, 10, 15, 16, 20, 21, 31, 32, 47, 48, 49, 60, 61, 63, 64, 99, 100, 140, 155,
        156, 240, 241, 255, 256, 999, 1000, 65535, 65536, 99999, 100000, -1, -2, -3, -48, -64, Integer.MIN_VALUE, Integer.MIN_VALUE + 1,
        Integer.MAX_VALUE, Integer.MAX_VALUE - 1, 0x40000000, 0x80000010, 0x55555556};
    private static final String[] TEXTS = {"c9(1=1);d9(1=1)", "c9-r%5(1=1);d2(j<9);b7(1=1);w2(p=3);x2(k>5);e(f=2|y>3)", "c[[[[[[1]]]]]](!(!(!(!(1=2)))))",
        "c99999*99999(1=1);d0-9(1=1);x1/h(1=1)", "c1/0(1/0=0|1=1);c5%[h-h](1=1)", "e(((((((", "c9(1=1", "0@0,1@2,15@47", "3@999", "16@1",
        "0@0,0@0", "!&|", "c123456(1=1)", "e(1=1);e(1=1);e(1=1);e(1=1);e(1=1);e(1=1);e(1=1);e(1=1);e(1=1);e(1=1);e(1=1);e(1=1);e(1=1);e(1=1);"
        + "e(1=1);e(1=1);e(1=1)", "c9(1=1);d99(1=1)", "c9-[r%3](1=1);d1(1=1);e(f%2=0);w3(n>9)", "\0\1",
        "\0\1\2\3\4", "\0\0\1\0\1\3", "\0\2\0\0\3\1\0\4\3"};
    private static int wrong = 0;
    private static long answers = 0;

    private RoomTest() {
    }

    public static void main(String[] args) throws Exception {
        int[] room = roomOf(new ForkTown());
        if (room[0] > MOST_OBJECTS || room[1] > MOST_PARTS) {
            refuse("a town takes up " + room[0] + " objects and " + room[1] + " fields and elements");
        }
        for (int run = 0; run < 200 && wrong < 5; run++) {
            ForkTown town = new ForkTown();
            goOn(town, callsOf(run));
            int[] then = roomOf(town);
            if (then[0] != room[0] || then[1] != room[1]) {
                refuse("run " + run + ": a town takes up " + then[0] + " objects and " + then[1] + " fields and elements behind its calls");
            }
        }
        if (wrong == 0) {
            makeNothing();
        }
        System.out.println(answers + " calls, a town takes up " + room[0] + " objects and arrays, " + room[1] + " fields and elements, "
            + wrong + " faults");
        if (wrong != 0) {
            System.exit(1);
        }
    }

    private static void refuse(String what) {
        wrong++;
        System.out.println(what);
    }

    // ---------------------------------------------------------------- calls

    /** Six numbers a call: its kind and what it is told. */
    private static int[] callsOf(int run) {
        Random random = new Random(run);
        int[] calls = new int[6 * CALLS];
        int i = 0;
        while (i < CALLS) {
            int kind = i < 30 ? 0 : i < 36 ? 2 : random.nextInt(KINDS + 12);
            if (kind >= KINDS + 6 || i == 36) {
                i = tellText(calls, i, TEXTS[i == 36 ? 0 : random.nextInt(TEXTS.length)], random.nextInt(20));
                continue;
            }
            calls[6 * i] = kind >= KINDS || kind == UNDO && random.nextInt(4) > 0 ? HOURS : kind;
            for (int k = 1; k < 6; k++) {
                calls[6 * i + k] = someNumber(random, i < 36);
            }
            i++;
        }
        return calls;
    }

    /** The tape is emptied, a text is fed, and read as a law, a history (with an @), or a row of numbers. */
    private static int tellText(int[] calls, int from, String text, int half) {
        boolean isHistory = text.indexOf('@') >= 0;
        boolean isRow = text.charAt(0) < ' ';
        int many = (text.length() + 19) / 20;
        for (int i = 0; i < many + 2 && from + i < CALLS; i++) {
            int at = 6 * (from + i);
            if (i == 0) {
                calls[at] = CHECK;
            } else if (i <= many) {
                calls[at] = FEED;
                for (int k = 0; k < 5; k++) {
                    calls[at + 1 + k] = wordOf(text, 20 * (i - 1) + 4 * k);
                }
            } else {
                calls[at] = isHistory ? HISTORY : !isRow ? LAW : half % 2 == 0 ? JOINED : SEEN;
                calls[at + 1] = isHistory ? half : isRow && half % 2 > 0 ? text.length() / 3 : text.length();
                calls[at + 2] = isRow ? half % 3 - 1 : text.length();
            }
        }
        return from + many + 2;
    }

    private static int someNumber(Random random, boolean isLow) {
        if (isLow || random.nextInt(6) > 0) {
            return random.nextInt(isLow ? 9 : random.nextInt(3) > 0 ? 4 : 20);
        }
        return random.nextInt(20) == 0 ? random.nextInt() : EDGES[random.nextInt(EDGES.length)];
    }

    private static int wordOf(String text, int at) {
        int word = 0;
        for (int k = 0; k < 4; k++) {
            word = word << 8 | (at + k < text.length() ? text.charAt(at + k) : 0);
        }
        return word;
    }

    private static void goOn(ForkTown town, int[] calls) {
        for (int i = 0; i < CALLS; i++) {
            try {
                ask(town, calls, 6 * i);
                answers++;
            } catch (Throwable thrown) {
                refuse("call " + i + " of kind " + calls[6 * i] + " throws " + thrown);
                return;
            }
        }
    }

    private static long ask(ForkTown t, int[] calls, int at) {
        int a = calls[at + 1];
        int b = calls[at + 2];
        int c = calls[at + 3];
        int d = calls[at + 4];
        int e = calls[at + 5];
        switch (calls[at]) {
            case 0: return t.road(a, b, c, d) ? 1 : 0;
            case 1: return t.notice(a, b, c > 4) ? 1 : 0;
            case 2: return t.comes(a, b);
            case 3: return t.learns(a, b, c > 4) ? 1 : 0;
            case 4: return t.owes(a, b) ? 1 : 0;
            case 5: return t.feed(a, b, c, d, e);
            case 6: return t.law(a);
            case 7: return t.hours(a);
            case 8: return t.tried(a, b);
            case 9: return t.half(a, b);
            case 10: return t.gladly(a, b);
            case 11: return t.halves(a, b);
            case 12: return t.was(a, b);
            case 13: return t.byForks(a, b);
            case 14: return t.plan(a, b, c, d);
            case 15: return t.joined(a, b);
            case 16: return t.chosen(a, b, c);
            case 17: return t.whoWas(a, b);
            case 18: return t.meet(a);
            case 19: return t.built(a);
            case 20: return t.closed(a, b, c);
            case 21: return t.kin(a, b, c);
            case 22: return t.history(a, b);
            case 23: return t.bread(a, b);
            case 24: return t.vote(a, b, c);
            case 25: return t.seed(a) ? 1 : 0;
            case 26: return t.keep();
            case 27: return t.undo() ? 1 : 0;
            case 28: return t.check(a);
            default: return t.count(a);
        }
    }

    // ---------------------------------------------------------------- room

    /** What the calls of a town make, when all of them have been gone through once before. */
    private static void makeNothing() {
        com.sun.management.ThreadMXBean threads = (com.sun.management.ThreadMXBean) ManagementFactory.getThreadMXBean();
        long me = Thread.currentThread().getId();
        ForkTown[] towns = new ForkTown[50];
        int[][] calls = new int[towns.length][];
        for (int i = 0; i < towns.length; i++) {
            towns[i] = new ForkTown();
            calls[i] = callsOf(i);
        }
        long nothing = threads.getThreadAllocatedBytes(me);
        nothing = threads.getThreadAllocatedBytes(me) - nothing;
        for (int i = 0; i < towns.length; i++) {
            long before = threads.getThreadAllocatedBytes(me);
            for (int k = 0; k < CALLS; k++) {
                ask(towns[i], calls[i], 6 * k);
            }
            long made = threads.getThreadAllocatedBytes(me) - before - nothing;
            if (made > 0) {
                refuse("run " + i + ": the calls make " + made + " bytes");
            }
        }
    }

    /** How many objects and arrays stand in an object, and how many fields and elements they have. */
    private static int[] roomOf(Object root) throws IllegalAccessException {
        Map<Object, Boolean> seen = new IdentityHashMap<>();
        Deque<Object> open = new ArrayDeque<>();
        int[] room = new int[2];
        open.add(root);
        while (!open.isEmpty()) {
            Object o = open.remove();
            if (seen.put(o, true) != null) {
                continue;
            }
            room[0]++;
            if (o.getClass().isArray()) {
                room[1] += Array.getLength(o);
                for (int i = 0; o instanceof Object[] && i < Array.getLength(o); i++) {
                    addTo(open, Array.get(o, i));
                }
                continue;
            }
            for (Field f : o.getClass().getDeclaredFields()) {
                if (!Modifier.isStatic(f.getModifiers())) {
                    room[1]++;
                    f.setAccessible(true);
                    addTo(open, f.getType().isPrimitive() ? null : f.get(o));
                }
            }
        }
        return room;
    }

    private static void addTo(Deque<Object> open, Object o) {
        if (o != null) {
            open.add(o);
        }
    }
}
