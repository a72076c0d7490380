import java.lang.management.ManagementFactory;

/** The dearest worlds, changed and asked anew for 512 calls: little is made, and all comes to an end. */
public final class RoomTest {
    /** A run has room for 7.3 million fields and elements, of four bytes at least for nearly all rows here. */
    private static final long MOST_BYTES = 4L * 1000 * 1000;
    private static int wrong = 0;

    private static long allocated() {
        com.sun.management.ThreadMXBean threads = (com.sun.management.ThreadMXBean) ManagementFactory.getThreadMXBean();
        return threads.getThreadAllocatedBytes(Thread.currentThread().getId());
    }

    private static void due(String what, long got, long want) {
        if (got != want) {
            wrong++;
            System.out.println(what + " answered " + got + ", due is " + want);
        }
    }

    private static void most(String what, long got, long most) {
        if (got > most) {
            wrong++;
            System.out.println(what + " is " + got + ", which is more than " + most);
        }
    }

    /** 4,096 states, twelve acts of three outcomes, and all is asked again whenever an act has changed. */
    private static void largest() {
        WinProofs x = new WinProofs();
        for (int t = 0; t < 6; t++) {
            x.thing(4);
        }
        int calls = 6;
        for (int a = 0; a < 12; a++) {
            x.act();
            x.outcome(a);
            x.outcome(a);
            for (int k = 0; k < 3; k++) {
                x.effect(a, k, (a + k) % 6, 2, 1);
            }
            calls += 6;
        }
        x.aim(0, 0, 3);
        x.aim(1, 0, 3);
        for (int turn = 0; calls < 500; turn++) {
            x.unact();
            x.act();
            x.when(11, turn % 6, 1, turn % 4);
            x.effect(11, 0, turn % 6, 2, 1);
            due("reached", x.count(3), 4096);
            due("may", x.count(5), 4096);
            x.count(6);
            x.count(7);
            x.count(9);
            x.needed();
            x.plays();
            x.flaw(0);
            calls += 12;
        }
    }

    /** Sizes that grow from clear to clear must not make all rows anew each time. */
    private static void growing() {
        WinProofs x = new WinProofs();
        for (int size = 1; size <= 40; size++) {
            x.clear();
            for (int t = 0; t < size % 9; t++) {
                x.thing(2 + size % 3);
            }
            x.act();
            x.count(9);
            x.count(7);
        }
    }

    /** Six digits that count, as far as four conditions and effects do it: long ways, and long proofs of doom. */
    private static void longest() {
        WinProofs x = new WinProofs();
        for (int t = 0; t < 6; t++) {
            x.thing(4);
        }
        for (int a = 0; a < 4; a++) {
            x.act();
            x.outcome(a);
            for (int t = 0; t < a; t++) {
                x.when(a, t, 0, 3);
            }
            x.when(a, a, 1, 3);
            for (int t = 0; t <= a; t++) {
                x.effect(a, 0, t, 2, 1);
            }
            for (int t = 0; t < 4; t++) {
                x.effect(a, 1, t, 0, 0);
            }
        }
        x.act();
        x.act();
        x.effect(5, 0, 4, 2, 1);
        x.effect(5, 0, 5, 1, 4);
        for (int t = 0; t < 4; t++) {
            x.aim(t, 0, 0);
        }
        x.start(1);
        for (int turn = 0; turn < 100; turn++) {
            x.unact();
            x.act();
            due("may", x.count(5), 16 * 255);
            due("must", x.count(6), 16);
            due("fair", x.count(7), 16);
            due("classes", x.count(9), 256);
        }
    }

    private static void many() {
        for (int i = 0; i < 100; i++) {
            due("a new one's states", new WinProofs().count(0), 1);
        }
    }

    public static void main(String[] args) {
        allocated();
        long before = allocated();
        largest();
        most("the largest world's room", allocated() - before, MOST_BYTES);
        before = allocated();
        growing();
        most("a growing world's room", allocated() - before, MOST_BYTES);
        before = allocated();
        longest();
        most("the longest way's room", allocated() - before, MOST_BYTES);
        before = allocated();
        many();
        most("a hundred new objects' room", allocated() - before, MOST_BYTES);
        System.out.println("RoomTest: " + wrong + " wrong");
        if (wrong != 0) {
            System.exit(1);
        }
    }
}
