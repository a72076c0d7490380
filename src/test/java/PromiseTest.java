/** For each promise of the document: ordinary inputs, edges and wrong inputs, with answers worked out by hand. */
public final class PromiseTest {
    private static final int NONE = -1, BAD = -2, FULL = -3;
    private static final int LOW = Integer.MIN_VALUE, HIGH = Integer.MAX_VALUE;
    private static int wrong = 0;
    private static int checked = 0;

    private static void due(String what, long got, long want) {
        checked++;
        if (got != want) {
            wrong++;
            System.out.println(what + " answered " + got + ", due is " + want);
        }
    }

    /**
     * A place 0 .. 2 and a key 0 .. 1; state = place + 3 * key. Act 0 walks on or slips, act 1 takes the
     * key at place 1. The aim is place 2 with the key, state 5. State 2 is dead; state 3 is not reached.
     */
    private static WinProofs door() {
        WinProofs x = new WinProofs();
        x.thing(3);
        x.thing(2);
        x.act();
        x.outcome(0);
        x.when(0, 0, 3, 2);
        x.effect(0, 0, 0, 2, 1);
        x.act();
        x.when(1, 0, 0, 1);
        x.effect(1, 0, 1, 0, 1);
        x.aim(0, 0, 2);
        x.aim(1, 0, 1);
        return x;
    }

    /** One thing 0 .. 3; act 0 goes one up or at once to 3, act 1 goes to 0. The aim is 3. */
    private static WinProofs ladder() {
        WinProofs x = new WinProofs();
        x.thing(4);
        x.act();
        x.outcome(0);
        x.when(0, 0, 3, 3);
        x.effect(0, 0, 0, 2, 1);
        x.effect(0, 1, 0, 0, 3);
        x.act();
        x.effect(1, 0, 0, 0, 0);
        x.aim(0, 0, 3);
        return x;
    }

    /** Three digits that count up to 63, by three acts a digit, each with three outcomes that are one. */
    private static WinProofs digits() {
        WinProofs x = new WinProofs();
        for (int t = 0; t < 3; t++) {
            x.thing(4);
        }
        for (int a = 0; a < 9; a++) {
            x.act();
            x.outcome(a);
            x.outcome(a);
            int digit = a / 3;
            for (int t = 0; t < digit; t++) {
                x.when(a, t, 0, 3);
            }
            x.when(a, digit, 1, 3);
            for (int k = 0; k < 3; k++) {
                for (int t = 0; t <= digit; t++) {
                    x.effect(a, k, t, 2, 1);
                }
            }
        }
        for (int t = 0; t < 3; t++) {
            x.aim(t, 0, 3);
        }
        return x;
    }

    private static void dueNew(String name, WinProofs x) {
        int[] counts = {1, 0, 0, 1, 1, 1, 1, 1, 0, 1, 0};
        for (int what = 0; what < counts.length; what++) {
            due(name + " count " + what, x.count(what), counts[what]);
        }
        due(name + " start", x.start(0), 0);
        due(name + " no second state", x.start(1), BAD);
        due(name + " of 0", x.of(0, 0), 0);
        due(name + " may", x.of(0, 1), 0);
        due(name + " must", x.of(0, 2), 0);
        due(name + " level", x.of(0, 3), 0);
        due(name + " class", x.of(0, 4), 0);
        due(name + " best", x.best(0, 1), NONE);
        due(name + " play", x.play(0, 0), NONE);
        due(name + " plays", x.plays(), 1);
        due(name + " needed", x.needed(), 0);
        due(name + " flaw", x.flaw(0), 1);
        due(name + " aimless", x.aimless(), 0);
        due(name + " unact", x.unact(), NONE);
        due(name + " bare", x.bare(), 0);
        due(name + " fact", x.fact(0, 0), BAD);
        due(name + " values", x.values(0), BAD);
        due(name + " leads", x.leads(0, 0, 0), BAD);
    }

    private static void promise1() {
        due("NONE", WinProofs.NONE, NONE);
        due("BAD", WinProofs.BAD, BAD);
        due("FULL", WinProofs.FULL, FULL);
        dueNew("new", new WinProofs());
        WinProofs used = door();
        used.start(3);
        dueNew("new beside a used one", new WinProofs());
        // Without things, acts lead from the one state to itself.
        WinProofs x = new WinProofs();
        due("act without things", x.act(), 0);
        due("it leads", x.leads(0, 0, 0), 0);
        due("no condition without things", x.when(0, 0, 0, 0), BAD);
        due("no effect without things", x.effect(0, 0, 0, 0, 0), BAD);
        due("no aim without things", x.aim(0, 1, 0), BAD);
        due("part without things", x.cover(), 0);
        due("its condition", x.part(0, 0, 1, 0), BAD);
        due("flaw: the aim is in it", x.flaw(0), 3);
        due("the state", x.flaw(1), 0);
    }

    private static void promise2() {
        WinProofs x = door();
        x.start(5);
        x.cover();
        due("clear", x.clear(), 2);
        dueNew("cleared", x);
        due("clear again", x.clear(), 0);
        due("thing after clear", x.thing(4), 0);
        due("start after clear", x.start(3), 0);
        due("states after clear", x.count(0), 4);
        due("act after clear", x.act(), 0);
        due("its outcomes", x.outcome(0), 1);
        due("its conditions", x.when(0, 0, 0, 3), 1);
        due("its effects", x.effect(0, 0, 0, 2, 1), 1);
        due("the other outcome's", x.effect(0, 1, 0, 2, 2), 1);
        due("where it leads", x.leads(3, 0, 0), 0);
        due("in aim without conditions", x.count(4), 4);
        due("clear once more", x.clear(), 1);
    }

    private static void promise3() {
        WinProofs x = new WinProofs();
        int[] none = {LOW, -2, -1, 0, 1, 5, 6, HIGH};
        for (int size : none) {
            due("thing " + size, x.thing(size), BAD);
        }
        due("no things yet", x.count(1), 0);
        for (int i = 0; i < 4; i++) {
            due("thing 4", x.thing(4), i);
        }
        due("thing 3", x.thing(3), 4);
        due("thing 3", x.thing(3), 5);
        due("2304 states", x.count(0), 2304);
        due("4608 states", x.thing(2), FULL);
        due("4608 states, and no size", x.thing(5), BAD);
        due("still 2304 states", x.count(0), 2304);
        due("still 6 things", x.count(1), 6);

        x = new WinProofs();
        for (int i = 0; i < 6; i++) {
            due("thing 4", x.thing(4), i);
        }
        due("4096 states", x.count(0), 4096);
        due("more states", x.thing(2), FULL);
        due("the last state", x.start(4095), 0);
        due("none behind it", x.start(4096), BAD);

        x = new WinProofs();
        for (int i = 0; i < 8; i++) {
            due("thing 2", x.thing(2), i);
        }
        due("ninth", x.thing(2), FULL);
        due("ninth, no size", x.thing(1), BAD);
        x.act();
        due("ninth, with an act", x.thing(2), BAD);

        x = new WinProofs();
        x.thing(2);
        x.act();
        due("thing with an act", x.thing(2), BAD);
        x.unact();
        due("thing when the act is gone", x.thing(2), 1);
        x.aim(0, 0, 0);
        due("thing with an aim", x.thing(2), BAD);
        x.aimless();
        due("thing when the aim is gone", x.thing(2), 2);
        x.cover();
        due("thing with a part", x.thing(2), BAD);
        x.bare();
        due("thing when the part is gone", x.thing(3), 3);
        due("states", x.count(0), 24);
        // A start told as a number stays that number when a thing comes.
        x = new WinProofs();
        x.thing(3);
        x.start(2);
        x.thing(2);
        due("start with a thing more", x.start(0), 2);
    }

    private static void promise4() {
        WinProofs x = new WinProofs();
        x.thing(3);
        x.thing(4);
        due("start 11", x.start(11), 0);
        due("start 12", x.start(12), BAD);
        due("start -1", x.start(-1), BAD);
        due("start high", x.start(HIGH), BAD);
        due("start low", x.start(LOW), BAD);
        due("start 0", x.start(0), 11);
        due("start 7", x.start(7), 0);
        due("same start", x.start(7), 7);
        due("of the start", x.of(7, 0), 0);
        due("of another", x.of(0, 0), NONE);
        x.start(0);
        due("of the new start", x.of(0, 0), 0);
        due("of the old start", x.of(7, 0), NONE);
    }

    private static void promise5() {
        WinProofs x = new WinProofs();
        x.thing(2);
        for (int a = 0; a < 12; a++) {
            due("act", x.act(), a);
            due("leads nowhere else", x.leads(1, a, 0), 1);
            due("has no second outcome", x.leads(1, a, 1), BAD);
        }
        due("thirteenth", x.act(), FULL);
        due("acts", x.count(2), 12);
        x.unact();
        due("twelfth again", x.act(), 11);
    }

    private static void promise6() {
        WinProofs x = door();
        due("outcome of no act", x.outcome(2), BAD);
        due("outcome of -1", x.outcome(-1), BAD);
        due("outcome of high", x.outcome(HIGH), BAD);
        due("outcome of low", x.outcome(LOW), BAD);
        due("third of 0", x.outcome(0), 2);
        due("without effects", x.leads(0, 0, 2), 0);
        due("fourth of 0", x.outcome(0), FULL);
        due("second of 1", x.outcome(1), 1);
        due("it changes play", x.leads(1, 1, 1), 1);
        due("third of 1", x.outcome(1), 2);
        due("fourth of 1", x.outcome(1), FULL);
    }

    private static void dueConditions(String name, WinProofs x, int[][] bad) {
        for (int[] c : bad) {
            due(name + " when " + c[0] + " " + c[1] + " " + c[2], x.when(0, c[0], c[1], c[2]), BAD);
            due(name + " aim " + c[0] + " " + c[1] + " " + c[2], x.aim(c[0], c[1], c[2]), BAD);
            due(name + " part " + c[0] + " " + c[1] + " " + c[2], x.part(0, c[0], c[1], c[2]), BAD);
        }
    }

    private static final int[][] NO_CONDITIONS = {
        {-1, 0, 0}, {2, 0, 0}, {LOW, 0, 0}, {HIGH, 0, 0},
        {0, -1, 0}, {0, 4, 0}, {0, LOW, 0}, {0, HIGH, 0},
        {0, 0, -1}, {0, 0, 4}, {0, 1, -1}, {0, 1, 4}, {0, 3, -1}, {0, 3, 4}, {0, 3, HIGH}, {0, 0, LOW},
        {0, 2, -1}, {0, 2, 2}, {0, 2, 3}, {0, 2, HIGH}, {0, 2, LOW}};

    /** Things of 3 and 2; each condition alone, and the states (as bits) in which it holds. */
    private static final int[][] CONDITIONS = {
        {0, 0, 1, 0b010010}, {0, 0, 3, 0}, {1, 0, 1, 0b111000}, {1, 0, 2, 0},
        {0, 1, 1, 0b101101}, {0, 1, 3, 0b111111}, {1, 1, 0, 0b111000},
        {0, 2, 1, 0b010001}, {1, 2, 0, 0b010001}, {0, 2, 0, 0b111111},
        {0, 3, 0, 0}, {0, 3, 1, 0b001001}, {0, 3, 2, 0b011011}, {0, 3, 3, 0b111111}, {1, 3, 1, 0b000111}};

    private static WinProofs twoThings() {
        WinProofs x = new WinProofs();
        x.thing(3);
        x.thing(2);
        x.act();
        x.cover();
        return x;
    }

    private static void promise7() {
        dueConditions("bad", twoThings(), NO_CONDITIONS);
        for (int[] c : CONDITIONS) {
            WinProofs x = twoThings();
            due("when", x.when(0, c[0], c[1], c[2]), 1);
            for (int s = 0; s < 6; s++) {
                due("when " + c[0] + " " + c[1] + " " + c[2] + " in " + s, x.leads(s, 0, 0),
                        (c[3] >> s & 1) != 0 ? s : NONE);
            }
        }
        WinProofs x = twoThings();
        due("when of act -1", x.when(-1, 0, 0, 0), BAD);
        due("when of act 1", x.when(1, 0, 0, 0), BAD);
        due("when of act low", x.when(LOW, 0, 0, 0), BAD);
        due("when of act high", x.when(HIGH, 0, 0, 0), BAD);
        due("first", x.when(0, 0, 1, 2), 1);
        due("second", x.when(0, 1, 0, 1), 2);
        due("third", x.when(0, 0, 1, 2), 3);
        due("fourth", x.when(0, 0, 3, 3), 4);
        due("fifth", x.when(0, 0, 0, 2), FULL);
        due("fifth, bad", x.when(0, 0, 0, 4), BAD);
        due("all hold", x.leads(4, 0, 0), 4);
        due("the first fails", x.leads(5, 0, 0), NONE);
        due("the second fails", x.leads(1, 0, 0), NONE);
    }

    private static void promise8() {
        WinProofs x = new WinProofs();
        x.thing(2);
        x.thing(4);
        x.thing(3);
        x.act();
        int[][] bad = {
            {-1, 0, 0, 0, 0}, {1, 0, 0, 0, 0}, {HIGH, 0, 0, 0, 0}, {LOW, 0, 0, 0, 0},
            {0, -1, 0, 0, 0}, {0, 1, 0, 0, 0}, {0, HIGH, 0, 0, 0}, {0, LOW, 0, 0, 0},
            {0, 0, -1, 0, 0}, {0, 0, 3, 0, 0}, {0, 0, HIGH, 0, 0}, {0, 0, LOW, 0, 0},
            {0, 0, 0, -1, 0}, {0, 0, 0, 3, 0}, {0, 0, 0, HIGH, 0}, {0, 0, 0, LOW, 0},
            {0, 0, 0, 0, -1}, {0, 0, 0, 0, 2}, {0, 0, 1, 0, 4}, {0, 0, 2, 0, 3}, {0, 0, 2, 0, HIGH},
            {0, 0, 0, 1, -1}, {0, 0, 0, 1, 3}, {0, 0, 0, 1, HIGH}, {0, 0, 0, 1, LOW},
            {0, 0, 0, 2, -1}, {0, 0, 0, 2, 4}, {0, 0, 0, 2, HIGH}};
        for (int[] e : bad) {
            due("effect " + java.util.Arrays.toString(e), x.effect(e[0], e[1], e[2], e[3], e[4]), BAD);
        }
        // State 1 + 2 * (3 + 4 * 2) = 23: thing 0 is 1, thing 1 is 3, thing 2 is 2.
        due("takes what 1 was, modulo 2", x.effect(0, 0, 0, 1, 1), 1);
        due("23 leads to 23", x.leads(23, 0, 0), 23);
        due("takes what 0 was", x.effect(0, 0, 1, 1, 0), 2);
        due("what was ahead of all", x.leads(23, 0, 0), 1 + 2 * (1 + 4 * 2));
        due("what was ahead of all, from 4", x.leads(4, 0, 0), 0);
        due("plus 3 modulo 3", x.effect(0, 0, 2, 2, 3), 3);
        due("is the same", x.leads(23, 0, 0), 19);
        due("the last one counts", x.effect(0, 0, 1, 0, 2), 4);
        due("it does", x.leads(23, 0, 0), 1 + 2 * (2 + 4 * 2));
        due("fifth", x.effect(0, 0, 1, 0, 0), FULL);
        due("fifth, bad", x.effect(0, 0, 1, 0, 4), BAD);
        due("the fifth changed nothing", x.leads(23, 0, 0), 21);
        x.act();
        x.outcome(1);
        due("of a second outcome", x.effect(1, 1, 1, 2, 2), 1);
        due("plus 2 modulo 4", x.leads(23, 1, 1), 1 + 2 * (1 + 4 * 2));
        due("the first has none", x.leads(23, 1, 0), 23);
        due("last counts, of its own value", x.effect(1, 1, 1, 2, 1), 2);
        due("plus 1 only", x.leads(23, 1, 1), 1 + 2 * (0 + 4 * 2));
    }

    private static void promise9() {
        for (int[] c : CONDITIONS) {
            WinProofs x = twoThings();
            due("aim", x.aim(c[0], c[1], c[2]), 1);
            due("how many in it", x.count(4), Integer.bitCount(c[3]));
            for (int s = 0; s < 6; s++) {
                due("aim " + c[0] + " " + c[1] + " " + c[2] + " in " + s, x.of(s, 1), (c[3] >> s & 1) - 1);
            }
        }
        WinProofs x = twoThings();
        due("all at first", x.count(4), 6);
        due("1", x.aim(0, 3, 2), 1);
        due("2", x.aim(1, 0, 1), 2);
        due("two states", x.count(4), 2);
        due("3", x.aim(0, 1, 0), 3);
        due("4", x.aim(0, 1, 3), 4);
        due("5", x.aim(0, 0, 0), FULL);
        due("5, bad", x.aim(0, 0, 4), BAD);
        due("one state", x.count(4), 1);
        due("it is 4", x.of(4, 2), 0);
    }

    private static void promise10() {
        WinProofs x = door();
        due("had two", x.aimless(), 2);
        due("all are in it", x.count(4), 6);
        due("none now", x.aimless(), 0);
        due("acts are left", x.count(2), 2);
        due("aim anew", x.aim(0, 0, 0), 1);
        due("two are in it", x.count(4), 2);
    }

    private static void promise11() {
        WinProofs x = door();
        due("may with take", x.of(0, 1), 3);
        due("one is left", x.unact(), 1);
        due("may without take", x.of(0, 1), NONE);
        due("act 1 is gone", x.leads(1, 1, 0), BAD);
        due("its conditions are gone", x.when(1, 0, 0, 0), BAD);
        due("walk is left", x.leads(0, 0, 0), 1);
        due("act 1 anew", x.act(), 1);
        due("without condition and effect", x.leads(0, 1, 0), 0);
        due("none left", x.unact() + x.unact(), 1);
        due("no more", x.unact(), NONE);
        due("still", x.unact(), NONE);
        due("acts", x.count(2), 0);
    }

    private static void promise12() {
        WinProofs x = door();
        int[][] to = {{1, 0, NONE}, {2, 1, 4}, {NONE, NONE, NONE}, {4, 3, NONE}, {5, 4, 4}, {NONE, NONE, NONE}};
        for (int s = 0; s < 6; s++) {
            due("walks from " + s, x.leads(s, 0, 0), to[s][0]);
            due("slips in " + s, x.leads(s, 0, 1), to[s][1]);
            due("takes in " + s, x.leads(s, 1, 0), to[s][2]);
        }
        int[][] bad = {{-1, 0, 0}, {6, 0, 0}, {HIGH, 0, 0}, {LOW, 0, 0}, {0, -1, 0}, {0, 2, 0}, {0, HIGH, 0},
            {0, LOW, 0}, {0, 0, -1}, {0, 0, 2}, {0, 1, 1}, {2, 0, 2}, {0, 0, HIGH}, {0, 0, LOW}};
        for (int[] b : bad) {
            due("leads " + java.util.Arrays.toString(b), x.leads(b[0], b[1], b[2]), BAD);
        }
    }

    private static void dueCounts(String name, WinProofs x, int... counts) {
        for (int what = 0; what < counts.length; what++) {
            due(name + " count " + what, x.count(what), counts[what]);
        }
        due(name + " count -1", x.count(-1), BAD);
        due(name + " count 11", x.count(11), BAD);
        due(name + " count high", x.count(HIGH), BAD);
        due(name + " count low", x.count(LOW), BAD);
    }

    private static void promise13() {
        WinProofs x = door();
        dueCounts("door", x, 6, 2, 2, 5, 1, 5, 1, 5, 1, 6, 0);
        x.cover();
        x.cover();
        due("parts", x.count(10), 2);
        x.start(3);
        due("reached from 3", x.count(3), 3);
        due("dead from 3", x.count(8), 0);
        dueCounts("ladder", ladder(), 4, 1, 2, 4, 1, 4, 4, 4, 0, 4, 0);
        // Nothing tells the values of a thing apart that no act and no aim looks at.
        x = new WinProofs();
        x.thing(2);
        x.thing(4);
        x.act();
        x.when(0, 0, 0, 0);
        x.effect(0, 0, 1, 2, 1);
        dueCounts("idle", x, 8, 2, 1, 4, 8, 8, 8, 8, 0, 2, 0);
        x.aim(0, 0, 1);
        dueCounts("idle, aim not come to", x, 8, 2, 1, 4, 4, 4, 4, 4, 4, 2, 0);
        x.aimless();
        x.aim(1, 1, 3);
        dueCounts("idle, aim seen", x, 8, 2, 1, 4, 6, 7, 7, 7, 0, 6, 0);
        // Outcomes are a set: two that lead to one class are as one.
        x = new WinProofs();
        x.thing(4);
        x.aim(0, 0, 3);
        x.act();
        x.when(0, 0, 3, 2);
        x.outcome(0);
        x.effect(0, 0, 0, 0, 2);
        x.effect(0, 1, 0, 1, 0);
        dueCounts("sets", x, 4, 1, 1, 2, 1, 1, 1, 1, 2, 4 - 1, 0);
    }

    private static void dueRows(String name, WinProofs x, int[][] rows) {
        for (int s = 0; s < rows.length; s++) {
            for (int what = 0; what < 5; what++) {
                due(name + " of " + s + " " + what, x.of(s, what), rows[s][what]);
            }
            for (int what = 1; what < 4; what++) {
                due(name + " best " + s + " " + what, x.best(s, what), rows[s][4 + what]);
            }
        }
    }

    private static void promise14and15() {
        WinProofs x = door();
        dueRows("door", x, new int[][] {
            {0, 3, NONE, 3, 0, 0, NONE, 0}, {1, 2, NONE, 2, 1, 1, NONE, 1},
            {2, NONE, NONE, NONE, 2, NONE, NONE, NONE}, {NONE, 2, NONE, 2, 3, 0, NONE, 0},
            {2, 1, NONE, 1, 4, 0, NONE, 0}, {3, 0, 0, 0, 5, NONE, NONE, NONE}});
        dueRows("ladder", ladder(), new int[][] {
            {0, 1, 3, 1, 0, 0, 0, 0}, {1, 1, 2, 1, 1, 0, 0, 0}, {2, 1, 1, 1, 2, 0, 0, 0},
            {1, 0, 0, 0, 3, NONE, NONE, NONE}});
        for (int what = 0; what < 5; what++) {
            due("of -1", x.of(-1, what), BAD);
            due("of 6", x.of(6, what), BAD);
            due("of high", x.of(HIGH, what), BAD);
            due("of low", x.of(LOW, what), BAD);
            due("best -1", x.best(-1, what), BAD);
            due("best 6", x.best(6, what), BAD);
        }
        int[] noOf = {-1, 5, HIGH, LOW};
        int[] noBest = {-1, 0, 4, 5, HIGH, LOW};
        for (int what : noOf) {
            due("of 0 " + what, x.of(0, what), BAD);
        }
        for (int what : noBest) {
            due("best 0 " + what, x.best(0, what), BAD);
            due("best in the aim " + what, x.best(5, what), BAD);
        }
        // The aim parts 0 .. 3 from 4 .. 7; then an act that can not be done in 2 and 6 parts those, too.
        x = new WinProofs();
        x.thing(4);
        x.thing(2);
        x.act();
        x.effect(0, 0, 0, 0, 3);
        x.aim(1, 0, 1);
        due("class of 3", x.of(3, 4), 0);
        due("class of 7", x.of(7, 4), 4);
        due("classes", x.count(9), 2);
        x.when(0, 0, 1, 2);
        due("class of 3, parted", x.of(3, 4), 0);
        due("class of 2, parted", x.of(2, 4), 2);
        due("class of 6, parted", x.of(6, 4), 6);
        due("classes, parted", x.count(9), 4);
        fairBeyondMay();
    }

    /** The short way is not safe, so LEVEL is above MAY, and the acts for them differ. */
    private static void fairBeyondMay() {
        WinProofs x = new WinProofs();
        x.thing(4);
        x.act();
        x.outcome(0);
        x.when(0, 0, 0, 0);
        x.effect(0, 0, 0, 0, 3);
        x.effect(0, 1, 0, 0, 2);
        x.act();
        x.when(1, 0, 0, 0);
        x.effect(1, 0, 0, 0, 1);
        x.act();
        x.when(2, 0, 0, 1);
        x.outcome(2);
        x.effect(2, 0, 0, 0, 3);
        x.aim(0, 0, 3);
        dueRows("gamble", x, new int[][] {
            {0, 1, NONE, 2, 0, 0, NONE, 1}, {1, 1, NONE, 1, 1, 2, NONE, 2},
            {1, NONE, NONE, NONE, 2, NONE, NONE, NONE}, {1, 0, 0, 0, 3, NONE, NONE, NONE}});
        due("gamble's dead", x.count(8), 1);
        // Only walking into the trap is left: 0 falls out of W, though it may win.
        x.effect(1, 0, 0, 0, 2);
        due("trapped may", x.of(0, 1), 1);
        due("trapped level", x.of(0, 3), NONE);
        due("trapped fair", x.count(7), 2);
    }

    private static void promise16() {
        WinProofs x = door();
        int[][] steps = {{0, 0, 1}, {1, 0, 4}, {0, 0, 5}};
        for (int i = 0; i < 3; i++) {
            for (int what = 0; what < 3; what++) {
                due("play " + i + " " + what, x.play(i, what), steps[i][what]);
            }
        }
        int[] noStep = {3, 4, -1, HIGH, LOW, 4096};
        for (int i : noStep) {
            due("play " + i, x.play(i, 0), NONE);
            due("play " + i, x.play(i, 2), NONE);
            due("play " + i + " bad", x.play(i, 3), BAD);
        }
        due("play what -1", x.play(0, -1), BAD);
        due("play what 3", x.play(0, 3), BAD);
        due("play what high", x.play(0, HIGH), BAD);
        due("play what low", x.play(0, LOW), BAD);
        x.start(2);
        due("play of the dead", x.play(0, 0), NONE);
        x.start(5);
        due("play in the aim", x.play(0, 0), NONE);
        due("play in the aim, bad", x.play(0, 4), BAD);
        x = ladder();
        due("second outcome", x.play(0, 1), 1);
        due("its state", x.play(0, 2), 3);
        due("no second step", x.play(1, 1), NONE);
        x = digits();
        due("digits 0", x.play(0, 0), 0);
        due("digits 3", x.play(3, 0), 3);
        due("digits 15", x.play(15, 0), 6);
        due("digits 62", x.play(62, 2), 63);
        due("digits 63", x.play(63, 2), NONE);
    }

    private static void promise17() {
        WinProofs x = door();
        due("door", x.plays(), 1);
        x.start(2);
        due("dead", x.plays(), 0);
        x.start(5);
        due("in the aim", x.plays(), 1);
        x = ladder();
        due("ladder from 0", x.plays(), 1);
        x.start(2);
        due("both outcomes lead there", x.plays(), 2);
        long wrapped = 1;
        for (int i = 0; i < 63; i++) {
            wrapped *= 9;
        }
        due("9 to the 63rd, wrapped", digits().plays(), wrapped);
    }

    private static void promise18() {
        WinProofs x = door();
        due("both", x.needed(), 3);
        x.start(4);
        due("walk alone", x.needed(), 1);
        x.start(2);
        due("all, if it can not be reached", x.needed(), 3);
        x.start(5);
        due("none in the aim", x.needed(), 0);
        x.start(0);
        x.act();
        due("an idle act is not", x.needed(), 3);
        x.effect(2, 0, 1, 0, 1);
        due("another way to the key", x.needed(), 1);
        x.effect(2, 0, 0, 0, 2);
        due("another way to all", x.needed(), 0);
        x.unact();
        due("as before", x.needed(), 3);
        x = new WinProofs();
        x.thing(2);
        x.aim(0, 0, 2);
        due("no acts", x.needed(), 0);
        for (int a = 0; a < 12; a++) {
            x.act();
        }
        due("twelve acts", x.needed(), 4095);
    }

    private static void promise19() {
        WinProofs x = door();
        int[][] bad = {{-1, 0}, {2, 0}, {HIGH, 0}, {LOW, 0}, {0, -1}, {0, 3}, {1, 2}, {1, HIGH}, {0, LOW}};
        for (int[] b : bad) {
            due("fact " + b[0] + " " + b[1], x.fact(b[0], b[1]), BAD);
        }
        due("the start's", x.fact(1, 0), 1);
        due("on the way", x.fact(0, 1), 1);
        due("the last one's", x.fact(0, 2), 1);
        x.start(3);
        due("no more", x.fact(1, 0), 0);
        due("still", x.fact(0, 1), 1);
        x.start(5);
        due("in the aim: its own", x.fact(0, 2), 1);
        due("in the aim: another", x.fact(0, 1), 0);
        x.start(2);
        due("all, if it can not be reached", x.fact(0, 0), 1);
        x = ladder();
        due("may be passed by", x.fact(0, 1), 0);
        due("may be passed by, too", x.fact(0, 2), 0);
    }

    private static void promise20() {
        WinProofs x = door();
        due("places", x.values(0), 7);
        due("keys", x.values(1), 3);
        x.start(4);
        due("places from 4", x.values(0), 6);
        due("keys from 4", x.values(1), 2);
        due("values -1", x.values(-1), BAD);
        due("values 2", x.values(2), BAD);
        due("values high", x.values(HIGH), BAD);
        due("values low", x.values(LOW), BAD);
        x = ladder();
        x.start(3);
        due("beyond the aim", x.values(0), 15);
    }

    private static void promise21() {
        WinProofs x = door();
        for (int p = 0; p < 6; p++) {
            due("cover", x.cover(), p);
        }
        due("seventh", x.cover(), FULL);
        due("parts", x.count(10), 6);
        due("a part without conditions is all", x.flaw(0), 3);
        due("the aim", x.flaw(1), 5);
    }

    private static void promise22() {
        for (int[] c : CONDITIONS) {
            WinProofs x = twoThings();
            due("part", x.part(0, c[0], c[1], c[2]), 1);
            for (int s = 0; s < 6; s++) {
                x.start(s);
                due("part " + c[0] + " " + c[1] + " " + c[2] + " in " + s, x.flaw(0) == 1 ? 0 : 1, c[3] >> s & 1);
            }
        }
        WinProofs x = twoThings();
        due("part -1", x.part(-1, 0, 0, 0), BAD);
        due("part 1", x.part(1, 0, 0, 0), BAD);
        due("part high", x.part(HIGH, 0, 0, 0), BAD);
        due("part low", x.part(LOW, 0, 0, 0), BAD);
        due("1", x.part(0, 0, 1, 0), 1);
        due("2", x.part(0, 0, 1, 1), 2);
        due("3", x.part(0, 1, 0, 1), 3);
        due("4", x.part(0, 1, 0, 1), 4);
        due("5", x.part(0, 1, 0, 0), FULL);
        due("5, bad", x.part(0, 1, 0, 4), BAD);
        x.start(5);
        due("5 is in it", x.flaw(0), 3);
        x.start(4);
        due("4 is not", x.flaw(0), 1);
        x.cover();
        x.part(1, 0, 0, 1);
        due("4 is in the second part", x.flaw(0), 3);
        due("the least of the aim", x.flaw(1), 1);
    }

    private static void promise23() {
        WinProofs x = door();
        x.cover();
        x.part(0, 0, 0, 0);
        x.cover();
        due("had two", x.bare(), 2);
        due("none", x.count(10), 0);
        due("the start is not in it", x.flaw(0), 1);
        due("none had", x.bare(), 0);
        due("no part", x.part(0, 0, 0, 0), BAD);
        due("part 0 anew", x.cover(), 0);
        due("without conditions", x.flaw(0), 3);
        due("conditions anew", x.part(0, 1, 0, 0), 1);
    }

    private static void dueFlaw(String name, WinProofs x, int... told) {
        for (int what = 0; what < 4; what++) {
            due(name + " flaw " + what, x.flaw(what), told[what]);
        }
        due(name + " flaw -1", x.flaw(-1), BAD);
        due(name + " flaw 4", x.flaw(4), BAD);
        due(name + " flaw high", x.flaw(HIGH), BAD);
        due(name + " flaw low", x.flaw(LOW), BAD);
    }

    private static void promise24() {
        WinProofs x = door();
        dueFlaw("no parts", x, 1, NONE, NONE, NONE);
        x.cover();
        x.part(0, 1, 0, 0);
        dueFlaw("taking leads out", x, 2, 1, 1, 0);
        x.start(3);
        dueFlaw("start outside", x, 1, NONE, NONE, NONE);
        x.start(0);
        x.part(0, 0, 1, 1);
        dueFlaw("walking leads out", x, 2, 0, 0, 0);
        x.bare();
        x.cover();
        x.part(0, 0, 0, 2);
        x.start(2);
        dueFlaw("the aim in it", x, 3, 5, NONE, NONE);
        x.aimless();
        dueFlaw("the aim is all", x, 3, 2, NONE, NONE);
        x.aim(1, 0, 1);
        x.part(0, 1, 0, 0);
        dueFlaw("a proof", x, 0, NONE, NONE, NONE);
        x.act();
        dueFlaw("an idle act harms no proof", x, 0, NONE, NONE, NONE);
        x.outcome(2);
        x.effect(2, 1, 0, 0, 0);
        dueFlaw("a second outcome does", x, 2, 2, 2, 1);
        x.cover();
        dueFlaw("not if all is in it", x, 3, 3, NONE, NONE);
        // A flaw is looked for in all of the cover, not only in what is reached.
        x = door();
        x.start(2);
        x.cover();
        x.part(0, 1, 0, 0);
        dueFlaw("leads out where nothing comes", x, 2, 1, 1, 0);
    }

    /** What was found is found anew when what it rests on has changed, each kind of answer by itself. */
    private static void changesAreSeen() {
        WinProofs x = new WinProofs();
        due("one state is a class", x.count(9), 1);
        due("it is reached", x.count(3), 1);
        x.thing(2);
        due("two states are a class", x.count(9), 1);
        due("of 1", x.of(1, 0), NONE);
        x.thing(4);
        due("states of the aim", x.count(4), 8);
        due("class of 7", x.of(7, 4), 0);
        x.aim(1, 0, 3);
        due("two classes", x.count(9), 2);
        due("class of 7, of the aim", x.of(7, 4), 6);
        due("may", x.of(0, 1), NONE);
        x.act();
        x.outcome(0);
        x.effect(0, 0, 1, 2, 1);
        x.effect(0, 1, 1, 2, 1);
        due("may, with an act", x.of(0, 1), 3);
        due("must, with an act", x.of(0, 2), 3);
        due("plays", x.plays(), 8);
        x.unact();
        x.act();
        x.outcome(0);
        due("the second outcome anew is without effects", x.leads(0, 0, 1), 0);
        due("may, without effects", x.of(0, 1), NONE);
        x.cover();
        due("flaw", x.flaw(0), 3);
        x.part(0, 1, 0, 0);
        due("flaw, with a condition", x.flaw(0), 0);
        x.start(2);
        due("flaw, with another start", x.flaw(0), 1);
        x.start(0);
        due("flaw, with the old start", x.flaw(0), 0);
        x.effect(0, 0, 1, 2, 1);
        due("flaw, with an effect", x.flaw(0), 2);
        x.bare();
        due("flaw, without parts", x.flaw(0), 1);
        due("still reached", x.count(3), 4);
        x.clear();
        due("classes when cleared", x.count(9), 1);
        due("reached when cleared", x.count(3), 1);
        x.thing(3);
        x.aim(0, 1, 0);
        x.act();
        x.outcome(0);
        x.effect(0, 0, 0, 0, 1);
        x.effect(0, 1, 0, 0, 2);
        due("plays to two states of the aim", x.plays(), 2);
    }

    public static void main(String[] args) {
        promise1();
        promise2();
        promise3();
        promise4();
        promise5();
        promise6();
        promise7();
        promise8();
        promise9();
        promise10();
        promise11();
        promise12();
        promise13();
        promise14and15();
        promise16();
        promise17();
        promise18();
        promise19();
        promise20();
        promise21();
        promise22();
        promise23();
        promise24();
        changesAreSeen();
        System.out.println("PromiseTest: " + checked + " answers looked at, " + wrong + " wrong");
        if (wrong != 0) {
            System.exit(1);
        }
    }
}
