import java.lang.reflect.Method;
import java.nio.charset.StandardCharsets;
import java.nio.file.Files;
import java.nio.file.Path;
import java.util.ArrayList;
import java.util.LinkedHashMap;
import java.util.List;
import java.util.Map;

/**
 * Each sentence of the document that names a boundary, with the call just inside it and the call just outside.
 * Every test begins with the place and the words of its sentence; at the end no word of the document may be left
 * that no test has named (but for the public face, which FaceTest reads).
 */
public final class BoundaryTest {
    private static final int NONE = -1, BAD = -2, FULL = -3;
    private static final int LOW = Integer.MIN_VALUE, HIGH = Integer.MAX_VALUE;
    private static final int MOST_CALLS = 512;

    private static final String[] DOOR = {
        "thing(3)", "thing(2)",
        "act()", "outcome(0)", "when(0, 0, 3, 2)", "effect(0, 0, 0, 2, 1)",
        "act()", "when(1, 0, 0, 1)", "effect(1, 0, 1, 0, 1)",
        "aim(0, 0, 2)", "aim(1, 0, 1)"};

    private static int checked = 0;
    private static int wrong = 0;
    private static String named = "";
    private static Document document = null;
    private static final List<Pair> REFUSED = new ArrayList<>();

    // ---------------------------------------------------------------- how a test is told

    private static void says(String place, String sentence) {
        endSentence();
        named = place + ", \"" + sentence + "\"";
        if (document != null && !document.take(place, sentence)) {
            fault("the document does not say this");
        }
    }

    /** What the document leaves free has no answer that is due. */
    private static void leavesFree(String place, String sentence) {
        says(place, sentence);
    }

    /** Whatever has been refused something, and was not yet looked at since, is looked at now. */
    private static void endSentence() {
        for (Pair x : REFUSED) {
            if (x.wasRefused) {
                x.isUnchanged();
            }
        }
        REFUSED.clear();
    }

    private static void fault(String what) {
        wrong++;
        System.out.println(named + ": " + what);
    }

    private static void due(String call, long got, long want) {
        checked++;
        if (got != want) {
            fault(call + " answered " + got + ", due is " + want);
        }
    }

    private static long answer(WinProofs world, String call) {
        int open = call.indexOf('(');
        String inside = call.substring(open + 1, call.length() - 1).trim();
        String[] texts = inside.isEmpty() ? new String[0] : inside.split(",");
        Object[] numbers = new Object[texts.length];
        Class<?>[] types = new Class<?>[texts.length];
        for (int i = 0; i < texts.length; i++) {
            numbers[i] = Integer.valueOf(texts[i].trim());
            types[i] = int.class;
        }
        try {
            Method method = WinProofs.class.getMethod(call.substring(0, open), types);
            return ((Number) method.invoke(world, numbers)).longValue();
        } catch (ReflectiveOperationException e) {
            throw new IllegalStateException(call, e);
        }
    }

    /**
     * Two objects that get the same calls, but for those that are refused: these only the first one gets.
     * So what the second answers is what is due from the first, if what is refused changes nothing.
     */
    private static final class Pair {
        private final WinProofs tried = new WinProofs();
        private final WinProofs spared = new WinProofs();
        private int calls = 0;
        private boolean wasRefused = false;

        Pair(String... setUp) {
            does(setUp);
        }

        Pair does(String... setUp) {
            for (String call : setUp) {
                if (alike(call) < 0) {
                    fault(call + " is refused, while a test is set up");
                }
            }
            return this;
        }

        void gives(String call, long want) {
            due(call, alike(call), want);
        }

        /** Calls that must be refused with this answer; only the first object gets them. */
        void refuses(int want, String... all) {
            wasRefused = true;
            REFUSED.add(this);
            for (String call : all) {
                count();
                due(call, answer(tried, call), want);
            }
        }

        /** The place of '#' is taken by numbers that are just outside, and by those that are farthest out. */
        void refusesOutside(String call, int least, int most) {
            int[] outside = {least - 1, most + 1, LOW, HIGH};
            for (int number : outside) {
                refuses(BAD, call.replace("#", Integer.toString(number)));
            }
        }

        private long alike(String call) {
            count();
            long got = answer(tried, call);
            due("after what was refused, " + call, got, answer(spared, call));
            return got;
        }

        private void count() {
            calls++;
            if (calls > MOST_CALLS) {
                fault("a test uses more than 512 calls");
            }
        }

        /** All that can be asked of it (of a larger world: of some states) is as without what was refused. */
        void isUnchanged() {
            wasRefused = false;
            for (int what = 0; what <= 10; what++) {
                alike("count(" + what + ")");
            }
            int states = (int) alike("count(0)");
            int things = (int) alike("count(1)");
            int step = Math.max(1, (states - 1) / 5);
            for (int s = 0; s < states; s += step) {
                asksOfState(s);
            }
            for (int t = 0; t < things; t++) {
                alike("values(" + t + ")");
                for (int v = 0; v < 4; v++) {
                    alike("fact(" + t + ", " + v + ")");
                }
            }
            for (int what = 0; what < 4; what++) {
                alike("flaw(" + what + ")");
                alike("play(0, " + what + ")");
            }
            alike("plays()");
            alike("needed()");
            long start = alike("start(0)");
            alike("start(" + start + ")");
        }

        private void asksOfState(int s) {
            for (int what = 0; what < 5; what++) {
                alike("of(" + s + ", " + what + ")");
                alike("best(" + s + ", " + what + ")");
            }
            for (int a = 0; a < 2; a++) {
                for (int k = 0; k < 3; k++) {
                    alike("leads(" + s + ", " + a + ", " + k + ")");
                }
            }
        }

        /** As much as there was room for still finds room: so nothing that is refused has taken any. */
        void hasItsRoom() {
            for (int n = 0; n < 5; n++) {
                alike("when(0, 0, 1, 3)");
                alike("effect(0, 0, 0, 2, 0)");
                alike("effect(0, 1, 0, 2, 0)");
                alike("aim(0, 1, 3)");
                alike("part(0, 0, 1, 3)");
                alike("outcome(0)");
            }
            for (int n = 0; n < 7; n++) {
                alike("cover()");
                alike("thing(2)");
            }
            for (int n = 0; n < 13; n++) {
                alike("act()");
            }
            alike("aimless()");
            alike("bare()");
            for (int n = 0; n < 13; n++) {
                alike("unact()");
            }
            for (int n = 0; n < 9; n++) {
                alike("thing(2)");
            }
            alike("clear()");
        }
    }

    /** What of the document is not yet named by a test. */
    private static final class Document {
        private final Map<String, StringBuilder> parts = new LinkedHashMap<>();

        Document(String text) {
            for (String part : text.split("(?m)^## ")) {
                int end = part.indexOf('\n');
                String title = end < 0 ? part : part.substring(0, end);
                String body = end < 0 ? "" : part.substring(end);
                String words = body.replaceAll("```\\w*", " ").replaceAll("`[^`]*`:", " ").replaceAll("\\s+", " ");
                parts.put(title.replaceAll(":.*", "").trim(), new StringBuilder(words));
            }
        }

        boolean take(String place, String sentence) {
            StringBuilder words = parts.get(place);
            int at = words == null ? -1 : words.indexOf(sentence);
            if (at < 0) {
                return false;
            }
            words.replace(at, at + sentence.length(), "|");
            return true;
        }

        List<String> left() {
            List<String> left = new ArrayList<>();
            for (Map.Entry<String, StringBuilder> part : parts.entrySet()) {
                boolean isElsewhere = part.getKey().equals("The public face") || part.getKey().startsWith("#");
                if (!isElsewhere && part.getValue().toString().matches(".*\\w.*")) {
                    left.add(part.getKey() + ": " + part.getValue().toString().trim());
                }
            }
            return left;
        }
    }

    private static Pair things(int... sizes) {
        Pair x = new Pair();
        for (int t = 0; t < sizes.length; t++) {
            x.gives("thing(" + sizes[t] + ")", t);
        }
        return x;
    }

    private static Pair door() {
        return new Pair(DOOR);
    }

    /** Things of 3 and 2, an act, a part: six states, and whatever is asked of them is so at first. */
    private static Pair six() {
        return new Pair("thing(3)", "thing(2)", "act()", "cover()");
    }

    // ---------------------------------------------------------------- part 1

    private static void whatItIs() {
        says("What it is", "Small worlds that may be won: things of few values, acts with conditions and outcomes "
                + "of which nature takes one;");
        Pair x = door();
        x.gives("leads(0, 0, 0)", 1);
        x.gives("leads(0, 0, 1)", 0);
        says("What it is", "which states can be come to, where the aim may be reached, must be, is if nature is fair;");
        dueCounts(door(), 6, 2, 2, 5, 1, 5, 1, 5, 1, 6, 0);
        says("What it is", "shortest plays, how many, what is needed;");
        x = door();
        duePlay(x, new int[][] {{0, 0, 1}, {1, 0, 4}, {0, 0, 5}});
        x.gives("plays()", 1);
        x.gives("needed()", 3);
        says("What it is", "covers judged as proofs that nothing wins;");
        x = door().does("cover()", "part(0, 1, 0, 0)");
        dueFlaw(x, 2, 1, 1, 0);
        x.gives("of(0, 1)", 3);
        x.does("unact()");
        dueFlaw(x, 0, NONE, NONE, NONE);
        x.gives("of(0, 1)", NONE);
        says("What it is", "states that nothing tells apart. ======== 1");
        x.does("aimless()");
        for (int s = 0; s < 6; s++) {
            x.gives("of(" + s + ", 4)", s % 3);
        }
    }

    private static void objects() {
        says("What it is", "An object is used for at most 512 calls after it has been made;");
        Pair x = door();
        int n = DOOR.length;
        for (; n < 509; n++) {
            x.gives("start(" + n % 6 + ")", n == DOOR.length ? 0 : (n - 1) % 6);
        }
        x.gives("start(0)", 508 % 6);
        x.gives("of(0, 1)", 3);
        x.gives("start(5)", 0);
        due("calls", x.calls, 512);
        x = door();
        for (n = DOOR.length; n < 511; n++) {
            x.gives("count(" + n % 2 + ")", n % 2 == 0 ? 6 : 2);
        }
        x.gives("plays()", 1);
        leavesFree("What it is", "what later calls answer is free.");
        // Whatever they answer, LANGUAGE.md's rule 7 lets none of them throw.
        for (n = 0; n < 100; n++) {
            answer(x.tried, "thing(" + n % 6 + ")");
            answer(x.tried, "start(" + n % 6 + ")");
            answer(x.tried, n % 10 == 0 ? "clear()" : "act()");
            answer(x.tried, "of(0, " + n % 5 + ")");
        }
    }

    private static void thingsAndSizes() {
        says("What it is", "THINGS, 8 at most, have a SIZE, 2 ..");
        Pair x = new Pair();
        x.refuses(BAD, "thing(1)", "thing(0)", "thing(-1)", "thing(-2)", "thing(" + LOW + ")");
        x.gives("count(1)", 0);
        for (int t = 0; t < 8; t++) {
            x.gives("thing(2)", t);
        }
        x.refuses(FULL, "thing(2)", "thing(3)", "thing(4)");
        x.refuses(BAD, "thing(1)");
        x.gives("count(1)", 8);
        x.gives("count(0)", 256);
        x.gives("values(7)", 1);
        x.refuses(BAD, "values(8)");
        x.isUnchanged();

        says("Terms", "4, and a VALUE, 0 .. SIZE - 1;");
        x = new Pair();
        x.refuses(BAD, "thing(5)", "thing(6)", "thing(8)", "thing(" + HIGH + ")");
        x.gives("count(1)", 0);
        x.gives("thing(4)", 0);
        x.gives("thing(3)", 1);
        x.gives("thing(2)", 2);
        x.does("act()", "effect(0, 0, 0, 2, 1)", "act()", "effect(1, 0, 1, 2, 1)", "act()", "effect(2, 0, 2, 2, 1)");
        for (int t = 0; t < 3; t++) {
            int size = 4 - t;
            x.gives("values(" + t + ")", (1 << size) - 1);
            x.gives("fact(" + t + ", 0)", 1);
            x.gives("fact(" + t + ", " + (size - 1) + ")", 0);
            x.refuses(BAD, "fact(" + t + ", -1)", "fact(" + t + ", " + size + ")");
        }
        x.isUnchanged();
    }

    private static void mostStates() {
        says("Terms", "all SIZES together make 4,096 STATES at most.");
        dueFull(things(4, 4, 4, 4, 4, 4), 6, 4096);
        dueFull(things(4, 4, 4, 4, 2, 2, 2, 2), 8, 4096);
        dueFull(things(3, 3, 3, 3, 3, 3, 3), 7, 2187);
        dueFull(things(3, 3, 3, 3, 3, 4, 4), 7, 3888);
        dueFull(things(4, 4, 4, 4, 3, 4), 6, 3072);
        // What is too large is refused, and what is small enough still comes in.
        Pair x = things(4, 4, 4, 4, 4, 2);
        x.refuses(FULL, "thing(3)", "thing(4)");
        x.gives("count(0)", 2048);
        x.gives("thing(2)", 6);
        dueFull(x, 7, 4096);
        x = things(3, 3, 3, 3, 4, 4);
        x.refuses(FULL, "thing(4)");
        x.gives("count(0)", 1296);
        x.gives("thing(3)", 6);
        dueFull(x, 7, 3888);
    }

    private static void dueFull(Pair x, int things, int states) {
        x.refuses(FULL, "thing(2)", "thing(3)", "thing(4)");
        x.refuses(BAD, "thing(1)", "thing(5)");
        x.gives("count(1)", things);
        x.gives("count(0)", states);
        x.gives("start(" + (states - 1) + ")", 0);
        x.refuses(BAD, "start(" + states + ")");
        x.gives("start(0)", states - 1);
        x.isUnchanged();
    }

    private static void statesAsNumbers() {
        says("Terms", "A STATE is told as a number: VALUE of THING 0, and SIZE of THING 0 times "
                + "(that of THING 1, and SIZE of THING 1 times (..)).");
        Pair x = things(2, 3, 4);
        int[][] single = {{0, 1, 1}, {1, 1, 2}, {1, 2, 4}, {2, 1, 6}, {2, 3, 18}};
        for (int a = 0; a < single.length; a++) {
            x.does("act()", "effect(" + a + ", 0, " + single[a][0] + ", 0, " + single[a][1] + ")");
            x.gives("leads(0, " + a + ", 0)", single[a][2]);
        }
        x.does("act()", "effect(5, 0, 0, 0, 1)", "effect(5, 0, 1, 0, 2)", "effect(5, 0, 2, 0, 3)");
        x.gives("leads(0, 5, 0)", 23);
        x.gives("leads(23, 5, 0)", 23);
        x.gives("start(23)", 0);
        x.refuses(BAD, "start(24)", "start(-1)", "leads(24, 5, 0)", "leads(-1, 5, 0)");
        x.gives("start(0)", 23);
        x.isUnchanged();
        x = things(2, 2, 2, 2, 2, 2, 2, 2);
        x.does("act()", "effect(0, 0, 7, 0, 1)");
        x.gives("leads(0, 0, 0)", 128);
        x.gives("leads(127, 0, 0)", 255);
    }

    /** Asks whether it holds of an act, of the aim and of a part, in each of the six states (as bits). */
    private static void holdsIn(int t, int op, int v, int states) {
        Pair x = six();
        String condition = t + ", " + op + ", " + v + ")";
        x.gives("when(0, " + condition, 1);
        x.gives("aim(" + condition, 1);
        x.gives("part(0, " + condition, 1);
        x.gives("count(4)", Integer.bitCount(states));
        for (int s = 0; s < 6; s++) {
            boolean holds = (states >> s & 1) != 0;
            x.gives("leads(" + s + ", 0, 0)", holds ? s : NONE);
            x.gives("of(" + s + ", 1)", holds ? 0 : NONE);
            x.does("start(" + s + ")");
            x.gives("flaw(0)", holds ? 3 : 1);
        }
    }

    private static void isNoCondition(int t, int op, int v) {
        Pair x = six();
        String condition = t + ", " + op + ", " + v + ")";
        x.refuses(BAD, "when(0, " + condition, "aim(" + condition, "part(0, " + condition);
        x.isUnchanged();
        x.hasItsRoom();
    }

    private static void areNoConditions(int op, int... vs) {
        for (int v : vs) {
            isNoCondition(0, op, v);
            isNoCondition(1, op, v);
        }
    }

    private static void conditions() {
        says("Terms", "A CONDITION is (THING t, op, v): op 0: t is v;");
        holdsIn(0, 0, 0, 0b001001);
        holdsIn(0, 0, 2, 0b100100);
        holdsIn(0, 0, 3, 0);
        holdsIn(1, 0, 1, 0b111000);
        holdsIn(1, 0, 2, 0);
        holdsIn(1, 0, 3, 0);
        areNoConditions(0, -1, 4, LOW, HIGH);
        for (int t : new int[] {-1, 2, LOW, HIGH}) {
            isNoCondition(t, 0, 0);
            isNoCondition(t, 2, 0);
        }

        says("Terms", "1: t is not v;");
        holdsIn(0, 1, 0, 0b110110);
        holdsIn(0, 1, 2, 0b011011);
        holdsIn(0, 1, 3, 0b111111);
        holdsIn(1, 1, 1, 0b000111);
        holdsIn(1, 1, 3, 0b111111);
        areNoConditions(1, -1, 4, LOW, HIGH);

        says("Terms", "2: t is as THING v;");
        holdsIn(0, 2, 0, 0b111111);
        holdsIn(0, 2, 1, 0b010001);
        holdsIn(1, 2, 0, 0b010001);
        holdsIn(1, 2, 1, 0b111111);
        areNoConditions(2, -1, 2, 3, LOW, HIGH);
        // Of eight things 4 .. 7 are none of the values that a condition names, but they are things.
        Pair x = things(2, 2, 2, 2, 2, 2, 2, 2);
        x.does("act()", "cover()");
        x.refuses(BAD, "when(0, 0, 2, 8)", "when(0, 0, 0, 7)", "when(0, 0, 1, 4)", "when(0, 0, 3, 4)");
        x.refuses(BAD, "aim(0, 2, 8)", "part(0, 0, 2, 8)", "when(0, 8, 2, 0)");
        x.gives("when(0, 0, 2, 7)", 1);
        x.gives("aim(7, 2, 4)", 1);
        x.gives("part(0, 6, 2, 7)", 1);
        x.gives("leads(0, 0, 0)", 0);
        x.gives("leads(128, 0, 0)", NONE);
        x.gives("leads(129, 0, 0)", 129);
        x.gives("count(4)", 128);
        x.isUnchanged();

        says("Terms", "3: t is less than v (v 0 .. 3 but in 2).");
        holdsIn(0, 3, 0, 0);
        holdsIn(0, 3, 1, 0b001001);
        holdsIn(0, 3, 2, 0b011011);
        holdsIn(0, 3, 3, 0b111111);
        holdsIn(1, 3, 1, 0b000111);
        holdsIn(1, 3, 2, 0b111111);
        holdsIn(1, 3, 3, 0b111111);
        areNoConditions(3, -1, 4, LOW, HIGH);
        areNoConditions(-1, 0);
        areNoConditions(4, 0);
        areNoConditions(LOW, 0);
        areNoConditions(HIGH, 0);
        x = things(4);
        x.does("act()", "when(0, 0, 3, 3)");
        x.gives("leads(2, 0, 0)", 2);
        x.gives("leads(3, 0, 0)", NONE);
    }

    /** Things of 4, 3 and 2 and one act; told are the effect, a state and where it leads. */
    private static void leadsTo(int t, int op, int v, int from, int to) {
        Pair x = things(4, 3, 2);
        x.does("act()");
        x.gives("effect(0, 0, " + t + ", " + op + ", " + v + ")", 1);
        x.gives("leads(" + from + ", 0, 0)", to);
    }

    private static void isNoEffect(int t, int op, int v) {
        Pair x = things(4, 3, 2);
        x.does("act()", "outcome(0)", "cover()");
        String effect = t + ", " + op + ", " + v + ")";
        x.refuses(BAD, "effect(0, 0, " + effect, "effect(0, 1, " + effect);
        x.isUnchanged();
        x.hasItsRoom();
    }

    private static void effects() {
        says("Terms", "An EFFECT is (THING t, op, v): 0: t becomes v (v below its SIZE);");
        leadsTo(0, 0, 3, 0, 3);
        leadsTo(0, 0, 0, 23, 20);
        leadsTo(1, 0, 2, 0, 8);
        leadsTo(2, 0, 1, 0, 12);
        for (int t = 0; t < 3; t++) {
            for (int v : new int[] {-1, 4 - t, 4, LOW, HIGH}) {
                isNoEffect(t, 0, v);
            }
        }
        for (int t : new int[] {-1, 3, LOW, HIGH}) {
            for (int op = 0; op < 3; op++) {
                isNoEffect(t, op, 0);
            }
        }

        says("Terms", "1: what THING v was, modulo t's SIZE;");
        // State 3 is 3, 0, 0; state 8 is 0, 2, 0; state 11 is 3, 2, 0; state 23 is 3, 2, 1.
        leadsTo(1, 1, 0, 2, 2 + 4 * 2);
        leadsTo(1, 1, 0, 3, 3);
        leadsTo(1, 1, 0, 11, 3);
        leadsTo(2, 1, 0, 3, 3 + 12);
        leadsTo(2, 1, 1, 8, 8);
        leadsTo(0, 1, 1, 8, 10);
        leadsTo(0, 1, 0, 23, 23);
        for (int v : new int[] {-1, 3, 4, LOW, HIGH}) {
            isNoEffect(0, 1, v);
            isNoEffect(2, 1, v);
        }
        Pair x = things(2, 2, 2, 2, 2, 2, 2, 2);
        x.does("act()");
        x.refuses(BAD, "effect(0, 0, 0, 1, 8)", "effect(0, 0, 8, 1, 0)", "effect(0, 0, 0, 2, 7)");
        x.gives("effect(0, 0, 0, 1, 7)", 1);
        x.gives("leads(128, 0, 0)", 129);
        x.gives("leads(1, 0, 0)", 0);

        says("Terms", "2: what it was plus v (0 .. 3), modulo its SIZE.");
        leadsTo(0, 2, 0, 3, 3);
        leadsTo(0, 2, 3, 0, 3);
        leadsTo(0, 2, 1, 3, 0);
        leadsTo(0, 2, 3, 3, 2);
        leadsTo(1, 2, 1, 8, 0);
        leadsTo(1, 2, 3, 8, 8);
        leadsTo(1, 2, 2, 8, 4);
        leadsTo(2, 2, 1, 12, 0);
        leadsTo(2, 2, 2, 12, 12);
        leadsTo(2, 2, 3, 12, 0);
        leadsTo(2, 2, 3, 0, 12);
        for (int t = 0; t < 3; t++) {
            for (int v : new int[] {-1, 4, LOW, HIGH}) {
                isNoEffect(t, 2, v);
            }
        }
        for (int op : new int[] {-1, 3, LOW, HIGH}) {
            isNoEffect(0, op, 0);
        }
    }

    private static void actsAndTheirBounds() {
        says("Terms", "ACTS, 12 at most,");
        Pair x = six();
        for (int a = 1; a < 12; a++) {
            x.gives("act()", a);
        }
        x.gives("when(11, 0, 0, 1)", 1);
        x.refuses(FULL, "act()", "act()");
        x.refuses(BAD, "when(12, 0, 0, 1)", "leads(1, 12, 0)", "outcome(12)", "effect(12, 0, 0, 0, 0)");
        x.gives("count(2)", 12);
        x.gives("leads(1, 11, 0)", 1);
        x.gives("leads(0, 11, 0)", NONE);
        x.isUnchanged();
        x.hasItsRoom();

        says("Terms", "have up to 4 CONDITIONS");
        x = six();
        x.gives("leads(5, 0, 0)", 5);
        x.gives("when(0, 0, 1, 0)", 1);
        x.gives("when(0, 1, 0, 1)", 2);
        x.gives("when(0, 0, 1, 3)", 3);
        x.gives("when(0, 0, 0, 2)", 4);
        x.refuses(FULL, "when(0, 0, 0, 0)", "when(0, 0, 0, 2)");
        x.gives("leads(5, 0, 0)", 5);
        x.gives("leads(4, 0, 0)", NONE);
        x.isUnchanged();
        x.hasItsRoom();

        says("Terms", "and 1 to 3 OUTCOMES");
        x = six();
        x.gives("leads(5, 0, 0)", 5);
        x.refuses(BAD, "leads(5, 0, 1)", "effect(0, 1, 0, 0, 0)");
        x.gives("outcome(0)", 1);
        x.gives("outcome(0)", 2);
        x.refuses(FULL, "outcome(0)", "outcome(0)");
        x.refuses(BAD, "leads(5, 0, 3)", "effect(0, 3, 0, 0, 0)");
        x.gives("effect(0, 2, 0, 0, 0)", 1);
        x.gives("leads(5, 0, 2)", 3);
        x.isUnchanged();
        x.hasItsRoom();

        says("Terms", "of up to 4 EFFECTS each.");
        x = six();
        x.does("outcome(0)", "outcome(0)");
        for (int k = 0; k < 3; k++) {
            x.gives("leads(3, 0, " + k + ")", 3);
            for (int n = 1; n <= 4; n++) {
                x.gives("effect(0, " + k + ", 0, 0, " + n % 3 + ")", n);
            }
            x.refuses(FULL, "effect(0, " + k + ", 0, 0, 2)", "effect(0, " + k + ", 1, 0, 0)");
            x.gives("leads(3, 0, " + k + ")", 4);
        }
        x.isUnchanged();
        x.hasItsRoom();
    }

    private static void whatActsDo() {
        says("Terms", "An ACT CAN be done in a STATE in which all its CONDITIONS hold;");
        Pair x = six();
        for (int s = 0; s < 6; s++) {
            x.gives("leads(" + s + ", 0, 0)", s);
        }
        x.does("when(0, 0, 1, 0)", "when(0, 0, 1, 1)", "when(0, 1, 1, 0)");
        int[] three = {NONE, NONE, NONE, NONE, NONE, 5};
        for (int s = 0; s < 6; s++) {
            x.gives("leads(" + s + ", 0, 0)", three[s]);
        }
        x.does("when(0, 0, 2, 1)");
        x.gives("leads(5, 0, 0)", NONE);

        says("Terms", "it leads to as many STATES as it has OUTCOMES (some may be one):");
        x = things(4);
        x.does("act()", "outcome(0)", "outcome(0)");
        x.does("effect(0, 0, 0, 0, 1)", "effect(0, 1, 0, 0, 2)", "effect(0, 2, 0, 0, 1)", "aim(0, 0, 1)");
        x.gives("leads(0, 0, 0)", 1);
        x.gives("leads(0, 0, 1)", 2);
        x.gives("leads(0, 0, 2)", 1);
        x.refuses(BAD, "leads(0, 0, 3)");
        x.gives("count(3)", 3);
        x.gives("plays()", 2);

        says("Terms", "all EFFECTS of an OUTCOME together (what was is what was ahead of all;");
        x = things(4, 4);
        x.does("act()", "effect(0, 0, 0, 1, 1)", "effect(0, 0, 1, 1, 0)");
        x.gives("leads(" + (1 + 4 * 3) + ", 0, 0)", 3 + 4);
        x.does("act()", "effect(1, 0, 0, 2, 1)", "effect(1, 0, 1, 1, 0)");
        x.gives("leads(3, 1, 0)", 4 * 3);
        x.does("act()", "effect(2, 0, 0, 0, 2)", "effect(2, 0, 1, 1, 0)", "effect(2, 0, 1, 2, 0)");
        x.gives("leads(3, 2, 0)", 2);

        says("Terms", "of several for one THING the last one counts).");
        x = things(4, 4);
        x.does("act()", "effect(0, 0, 0, 0, 3)");
        x.gives("leads(0, 0, 0)", 3);
        x.gives("effect(0, 0, 0, 2, 1)", 2);
        x.gives("leads(0, 0, 0)", 1);
        x.gives("effect(0, 0, 0, 1, 1)", 3);
        x.gives("leads(8, 0, 0)", 2 + 4 * 2);
        x.gives("effect(0, 0, 0, 0, 0)", 4);
        x.gives("leads(9, 0, 0)", 8);
        x.refuses(FULL, "effect(0, 0, 0, 0, 1)");
        x.gives("leads(9, 0, 0)", 8);
    }

    private static void aimAndStart() {
        says("Terms", "THE AIM is up to 4 CONDITIONS, which all hold in it.");
        Pair x = six();
        x.gives("count(4)", 6);
        x.gives("aim(0, 1, 1)", 1);
        x.gives("count(4)", 4);
        x.gives("aim(1, 0, 1)", 2);
        x.gives("count(4)", 2);
        x.gives("aim(0, 1, 3)", 3);
        x.gives("count(4)", 2);
        x.gives("aim(0, 3, 2)", 4);
        x.gives("count(4)", 1);
        x.refuses(FULL, "aim(0, 0, 1)", "aim(0, 3, 2)");
        x.gives("count(4)", 1);
        x.gives("of(3, 1)", 0);
        x.gives("of(5, 1)", NONE);
        x.isUnchanged();
        x.hasItsRoom();

        says("Terms", "THE START is a STATE.");
        x = six();
        x.gives("start(5)", 0);
        x.refuses(BAD, "start(6)", "start(-1)");
        x.gives("of(5, 0)", 0);
        x.gives("start(0)", 5);
        x.gives("of(0, 0)", 0);
        x.isUnchanged();
    }

    // ---------------------------------------------------------------- part 2

    private static void reached() {
        says("Terms", "======== 2 A STATE is REACHED, if ACTS lead there from THE START.");
        Pair x = six();
        x.gives("count(3)", 1);
        x.gives("of(0, 0)", 0);
        x.gives("of(1, 0)", NONE);
        x.does("effect(0, 0, 0, 2, 1)");
        x.gives("count(3)", 3);
        x.gives("of(2, 0)", 2);
        x.gives("of(3, 0)", NONE);
        x.does("when(0, 0, 3, 1)");
        x.gives("count(3)", 2);
        x.gives("of(2, 0)", NONE);
        x.does("start(1)");
        x.gives("count(3)", 1);
        x.gives("of(0, 0)", NONE);
        x = door();
        x.does("aimless()", "aim(0, 0, 0)");
        x.gives("of(0, 1)", 0);
        x.gives("of(5, 0)", 3);
        x = things(4, 4, 4, 4, 4, 4);
        x.gives("count(3)", 1);
        for (int a = 0; a < 6; a++) {
            x.does("act()", "effect(" + a + ", 0, " + a + ", 2, 1)");
        }
        x.gives("count(3)", 4096);
        x.gives("of(4095, 0)", 18);
        x.gives("start(4095)", 0);
        x.gives("of(4095, 0)", 0);
        x.gives("of(0, 0)", 6);
    }

    /** One thing 0 .. 3 that goes up by one, or stays; the aim is 3. */
    private static Pair stairs() {
        return new Pair("thing(4)", "act()", "outcome(0)", "when(0, 0, 3, 3)", "effect(0, 0, 0, 2, 1)", "aim(0, 0, 3)");
    }

    private static void may() {
        says("Terms", "MAY of a STATE: 0 in THE AIM, else the fewest ACTS by which, "
                + "with the OUTCOMES that are wished, THE AIM is reached.");
        Pair x = stairs();
        int[] fewest = {3, 2, 1, 0};
        for (int s = 0; s < 4; s++) {
            x.gives("of(" + s + ", 1)", fewest[s]);
        }
        x.does("act()", "when(1, 0, 0, 0)", "outcome(1)", "effect(1, 1, 0, 0, 2)");
        x.gives("of(0, 1)", 2);
        x.gives("of(1, 1)", 2);
        x.gives("count(5)", 4);
        x.does("aim(0, 0, 2)");
        x.gives("count(4)", 0);
        x.gives("count(5)", 0);
        x.gives("of(3, 1)", NONE);
        x.does("aimless()");
        x.gives("count(5)", 4);
        x.gives("of(0, 1)", 0);
    }

    private static void must() {
        says("Terms", "MUST: 0 in THE AIM, else the least number d such that some ACT that CAN be done "
                + "leads only to STATES of MUST below d.");
        Pair x = new Pair("thing(4)", "aim(0, 0, 3)");
        x.gives("count(6)", 1);
        x.gives("of(3, 2)", 0);
        x.gives("of(2, 2)", NONE);
        x.does("act()", "when(0, 0, 0, 2)", "effect(0, 0, 0, 0, 3)");
        x.gives("of(2, 2)", 1);
        x.does("act()", "when(1, 0, 0, 1)", "outcome(1)", "effect(1, 0, 0, 0, 3)", "effect(1, 1, 0, 0, 2)");
        x.gives("of(1, 2)", 2);
        x.gives("of(1, 1)", 1);
        // An outcome that stays is not below: it may win, and need never win.
        x.does("act()", "when(2, 0, 0, 0)", "outcome(2)", "effect(2, 0, 0, 0, 3)");
        x.gives("of(0, 1)", 1);
        x.gives("of(0, 2)", NONE);
        x.gives("count(6)", 3);
        x.does("act()", "when(3, 0, 0, 0)", "outcome(3)", "outcome(3)");
        x.does("effect(3, 0, 0, 0, 3)", "effect(3, 1, 0, 0, 1)", "effect(3, 2, 0, 0, 2)");
        x.gives("of(0, 2)", 3);
        x.gives("count(6)", 4);
        // Each outcome by itself can take it away: the first, the second and the third.
        for (int k = 0; k < 3; k++) {
            x = new Pair("thing(3)", "aim(0, 0, 2)", "act()", "when(0, 0, 0, 0)", "outcome(0)", "outcome(0)");
            x.does("effect(0, 0, 0, 0, 2)", "effect(0, 1, 0, 0, 2)", "effect(0, 2, 0, 0, 2)");
            x.gives("of(0, 2)", 1);
            x.gives("of(0, 3)", 1);
            x.does("effect(0, " + k + ", 0, 0, 1)");
            x.gives("of(0, 1)", 1);
            x.gives("of(0, 2)", NONE);
            x.gives("of(0, 3)", NONE);
        }
    }

    private static void fair() {
        says("Terms", "FAIR: the greatest set W of STATES each of which has a LEVEL: 0 in THE AIM; else the least l "
                + "such that some ACT that CAN be done leads only to STATES of W, to one of a LEVEL below l.");
        Pair x = new Pair("thing(4)", "aim(0, 0, 3)");
        x.gives("count(7)", 1);
        x.gives("of(3, 3)", 0);
        x.does("act()", "when(0, 0, 0, 0)", "outcome(0)", "effect(0, 0, 0, 0, 3)");
        x.gives("of(0, 3)", 1);
        x.gives("of(0, 2)", NONE);
        x.does("act()", "when(1, 0, 0, 1)", "outcome(1)", "effect(1, 0, 0, 0, 3)", "effect(1, 1, 0, 0, 2)");
        x.gives("of(1, 1)", 1);
        x.gives("of(1, 3)", NONE);
        x.gives("count(7)", 2);
        // Now 1 leads to 2 and 2 to 1: each is in the greatest set because the other one is.
        x.does("act()", "when(2, 0, 0, 2)", "effect(2, 0, 0, 0, 1)");
        x.gives("of(1, 3)", 1);
        x.gives("of(2, 3)", 2);
        x.gives("count(7)", 4);
        x.does("unact()");
        x.gives("count(7)", 2);
        // With 0 leading to 1, too, 2 takes 1 out of the set, and 1 then takes 0.
        x.does("effect(0, 1, 0, 0, 1)");
        x.gives("count(7)", 1);
        x.gives("of(0, 3)", NONE);
        x.gives("of(0, 1)", 1);
        // State 0 can be the one that is out, and take another one with it.
        x = new Pair("thing(3)", "aim(0, 0, 2)", "act()", "when(0, 0, 0, 1)", "outcome(0)");
        x.does("effect(0, 0, 0, 0, 2)", "effect(0, 1, 0, 0, 0)");
        x.gives("of(1, 3)", NONE);
        x.gives("count(7)", 1);
        // A round that never comes to the aim is no level, though nothing leads out of it.
        x = new Pair("thing(3)", "aim(0, 0, 2)", "act()", "when(0, 0, 0, 0)", "effect(0, 0, 0, 0, 1)");
        x.does("act()", "when(1, 0, 0, 1)", "effect(1, 0, 0, 0, 0)");
        x.gives("count(7)", 1);
        x.gives("of(0, 3)", NONE);
    }

    private static void numbersAndActs() {
        says("Terms", "(What has none has NONE.)");
        Pair x = door();
        x.gives("of(3, 0)", NONE);
        for (int what = 1; what <= 3; what++) {
            x.gives("of(2, " + what + ")", NONE);
            x.gives("best(2, " + what + ")", NONE);
            x.gives("of(5, " + what + ")", 0);
        }
        x.gives("of(4, 1)", 1);
        x.gives("of(4, 2)", NONE);
        x.gives("of(4, 3)", 1);

        says("Terms", "THE ACT for MAY, MUST, FAIR of a STATE that is not in THE AIM: "
                + "the least that gives that number.");
        x = new Pair("thing(4)", "aim(0, 0, 3)");
        x.does("act()", "when(0, 0, 0, 0)", "effect(0, 0, 0, 0, 1)");
        x.does("act()", "when(1, 0, 3, 2)", "effect(1, 0, 0, 0, 3)");
        x.does("act()", "when(2, 0, 3, 2)", "effect(2, 0, 0, 0, 3)");
        for (int what = 1; what <= 3; what++) {
            x.gives("best(0, " + what + ")", 1);
            x.gives("best(1, " + what + ")", 1);
            x.gives("best(2, " + what + ")", NONE);
            x.gives("best(3, " + what + ")", NONE);
        }
        x = new Pair("thing(4)", "aim(0, 0, 3)");
        x.does("act()", "when(0, 0, 0, 0)", "outcome(0)", "effect(0, 0, 0, 0, 3)", "effect(0, 1, 0, 0, 2)");
        x.does("act()", "when(1, 0, 0, 0)", "outcome(1)", "effect(1, 0, 0, 0, 3)");
        x.does("act()", "when(2, 0, 0, 0)", "effect(2, 0, 0, 0, 3)");
        x.gives("best(0, 1)", 0);
        x.gives("best(0, 2)", 2);
        x.gives("best(0, 3)", 1);
        x = new Pair("thing(2)", "aim(0, 0, 1)");
        for (int a = 0; a < 12; a++) {
            x.gives("best(0, 1)", NONE);
            x.does("act()");
        }
        x.does("effect(11, 0, 0, 0, 1)");
        x.gives("best(0, 1)", 11);
        x.gives("best(0, 2)", 11);
        x.gives("best(0, 3)", 11);

        says("Terms", "DEAD is what is REACHED and has no MAY.");
        x = door();
        x.gives("count(8)", 1);
        x.does("start(2)");
        x.gives("count(8)", 1);
        x.does("start(3)");
        x.gives("count(8)", 0);
        x.does("start(5)");
        x.gives("count(8)", 0);
        x.does("start(0)", "aim(0, 0, 0)");
        x.gives("count(8)", 5);
        x.does("aimless()");
        x.gives("count(8)", 0);
    }

    private static void playsOfTerms() {
        says("Terms", "PLAYS are rows of (ACT, OUTCOME) from THE START to THE AIM, with as few as can be;");
        Pair x = new Pair("thing(4)", "aim(0, 0, 3)");
        x.does("act()", "effect(0, 0, 0, 2, 1)", "act()", "effect(1, 0, 0, 0, 3)");
        x.gives("plays()", 1);
        x.gives("play(0, 0)", 1);
        x.does("start(2)");
        x.gives("plays()", 2);
        x.gives("play(0, 0)", 0);
        x.does("outcome(1)", "outcome(1)", "effect(1, 2, 0, 2, 1)");
        x.gives("plays()", 3);
        x.does("start(3)");
        x.gives("plays()", 1);
        x.gives("play(0, 0)", NONE);
        x.does("aim(0, 0, 0)");
        x.gives("plays()", 0);
        x.gives("play(0, 0)", NONE);
        // Of several states of the aim those count that are nearest, whichever number they have.
        x = new Pair("thing(4)", "aim(0, 1, 0)", "act()", "outcome(0)");
        x.does("effect(0, 0, 0, 0, 1)", "effect(0, 1, 0, 0, 3)");
        x.gives("plays()", 2);
        x.does("aimless()", "aim(0, 1, 0)", "aim(0, 1, 1)", "effect(0, 1, 0, 1, 0)");
        x.does("act()", "when(1, 0, 0, 1)", "outcome(1)", "effect(1, 0, 0, 0, 2)", "effect(1, 1, 0, 0, 3)");
        x.gives("plays()", 2);
        x.does("effect(0, 1, 0, 0, 3)");
        x.gives("plays()", 1);
        x.does("effect(0, 1, 0, 0, 2)");
        x.gives("plays()", 1);

        says("Terms", "THE FIRST PLAY is the first by ACT, then OUTCOME, of the first step, "
                + "then the second, and so on.");
        x = new Pair("thing(4)", "aim(0, 0, 3)", "act()", "when(0, 0, 0, 0)", "outcome(0)", "outcome(0)");
        x.does("effect(0, 1, 0, 0, 1)", "effect(0, 2, 0, 0, 2)");
        x.does("act()", "when(1, 0, 0, 0)", "effect(1, 0, 0, 0, 2)");
        x.does("act()", "when(2, 0, 0, 1)", "effect(2, 0, 0, 0, 3)");
        x.does("act()", "when(3, 0, 0, 2)", "outcome(3)", "effect(3, 0, 0, 0, 3)", "effect(3, 1, 0, 0, 3)");
        x.gives("plays()", 5);
        duePlay(x, new int[][] {{0, 1, 1}, {2, 0, 3}});
        x.does("when(2, 0, 0, 0)");
        x.gives("plays()", 4);
        duePlay(x, new int[][] {{0, 2, 2}, {3, 0, 3}});
        x.does("when(0, 0, 0, 1)");
        x.gives("plays()", 2);
        duePlay(x, new int[][] {{1, 0, 2}, {3, 0, 3}});
        x.does("effect(3, 0, 0, 0, 1)");
        x.gives("plays()", 1);
        duePlay(x, new int[][] {{1, 0, 2}, {3, 1, 3}});
        x.does("start(2)");
        duePlay(x, new int[][] {{3, 1, 3}});
        x.does("start(3)");
        duePlay(x, new int[0][]);
        x.does("start(1)");
        duePlay(x, new int[0][]);
    }

    /** All steps of the first play, and none ahead of them or behind them. */
    private static void duePlay(Pair x, int[][] steps) {
        for (int what = 0; what < 3; what++) {
            x.gives("play(-1, " + what + ")", NONE);
            for (int i = 0; i < steps.length; i++) {
                x.gives("play(" + i + ", " + what + ")", steps[i][what]);
            }
            x.gives("play(" + steps.length + ", " + what + ")", NONE);
        }
    }

    private static void neededOfTerms() {
        says("Terms", "An ACT is NEEDED, if without it THE AIM can not be reached from THE START "
                + "(OUTCOMES as wished).");
        Pair x = door();
        x.gives("needed()", 0b11);
        x.does("start(4)");
        x.gives("needed()", 0b01);
        x.does("start(5)");
        x.gives("needed()", 0);
        x.does("start(0)", "act()", "when(2, 0, 0, 1)", "outcome(2)", "effect(2, 1, 1, 0, 1)");
        x.gives("needed()", 0b001);
        x.does("when(1, 0, 0, 2)");
        x.gives("needed()", 0b101);

        says("Terms", "A FACT, THING t is v, is NEEDED, if each way of ACTS from THE START to THE AIM "
                + "has a STATE in which it is so (THE START and the last one, too).");
        x = stairs();
        for (int v = 0; v < 4; v++) {
            x.gives("fact(0, " + v + ")", 1);
        }
        x.does("act()", "when(1, 0, 0, 0)", "effect(1, 0, 0, 0, 2)");
        x.gives("fact(0, 0)", 1);
        x.gives("fact(0, 1)", 0);
        x.gives("fact(0, 2)", 1);
        x.gives("fact(0, 3)", 1);
        x.does("start(2)");
        x.gives("fact(0, 0)", 0);
        x.gives("fact(0, 1)", 0);
        x.gives("fact(0, 2)", 1);
        x.gives("fact(0, 3)", 1);
        x.does("start(3)");
        x.gives("fact(0, 2)", 0);
        x.gives("fact(0, 3)", 1);

        says("Terms", "(If THE AIM can not be reached at all, all are NEEDED.)");
        x = door();
        x.does("start(2)");
        dueAllNeeded(x, 0b11);
        x.does("start(0)", "aim(0, 0, 0)");
        dueAllNeeded(x, 0b11);
        x.does("unact()", "unact()");
        dueAllNeeded(x, 0);
        x.does("aimless()");
        x.gives("needed()", 0);
        x.gives("fact(0, 2)", 0);
        x.gives("fact(0, 0)", 1);
    }

    private static void dueAllNeeded(Pair x, int acts) {
        x.gives("needed()", acts);
        for (int v = 0; v < 3; v++) {
            x.gives("fact(0, " + v + ")", 1);
        }
        x.gives("fact(1, 0)", 1);
        x.gives("fact(1, 1)", 1);
    }

    // ---------------------------------------------------------------- parts 3 and 4

    private static void dueFlaw(Pair x, int... told) {
        for (int what = 0; what < 4; what++) {
            x.gives("flaw(" + what + ")", told[what]);
        }
    }

    private static void covers() {
        says("Terms", "======== 3 A COVER has up to 6 PARTS of up to 4 CONDITIONS each;");
        Pair x = door();
        for (int p = 0; p < 6; p++) {
            x.gives("cover()", p);
            for (int n = 1; n <= 4; n++) {
                x.gives("part(" + p + ", 0, 1, 3)", n);
            }
            x.refuses(FULL, "part(" + p + ", 0, 0, 3)");
            x.refuses(BAD, "part(" + (p + 1) + ", 0, 1, 3)");
        }
        x.refuses(FULL, "cover()", "cover()");
        x.gives("count(10)", 6);
        dueFlaw(x, 3, 5, NONE, NONE);
        x.isUnchanged();
        x.hasItsRoom();

        says("Terms", "it is all STATES in which all CONDITIONS of some PART hold.");
        x = six();
        x.does("bare()");
        dueFlaw(x, 1, NONE, NONE, NONE);
        x.does("cover()");
        dueFlaw(x, 3, 0, NONE, NONE);
        x.does("part(0, 0, 0, 0)", "part(0, 0, 0, 1)");
        dueFlaw(x, 1, NONE, NONE, NONE);
        x.does("cover()", "part(1, 0, 0, 1)", "part(1, 1, 0, 1)", "cover()", "part(2, 0, 0, 0)", "part(2, 1, 0, 0)");
        int[] inside = {1, 0, 0, 0, 1, 0};
        for (int s = 0; s < 6; s++) {
            x.does("start(" + s + ")");
            x.gives("flaw(0)", inside[s] == 1 ? 3 : 1);
        }
    }

    private static void flaws() {
        Pair x = new Pair("thing(4)", "aim(0, 0, 0)", "cover()", "part(0, 0, 3, 3)");
        x.does("act()", "when(0, 0, 0, 2)", "effect(0, 0, 0, 0, 3)");
        x.does("act()", "when(1, 0, 0, 1)", "outcome(1)", "outcome(1)");
        x.does("effect(1, 0, 0, 0, 0)", "effect(1, 1, 0, 0, 3)", "effect(1, 2, 0, 0, 3)");
        x.does("act()", "when(2, 0, 0, 1)", "effect(2, 0, 0, 0, 3)");

        says("Terms", "THE FLAW: 1: THE START is not in it;");
        x.does("start(3)");
        dueFlaw(x, 1, NONE, NONE, NONE);
        x.does("start(2)");
        x.gives("flaw(0)", 2);
        x.does("start(0)");
        x.gives("flaw(0)", 2);

        says("Terms", "else 2: a STATE of it from which an ACT leads out of it "
                + "(told: the least STATE, of it the least ACT, of that the least OUTCOME);");
        dueFlaw(x, 2, 1, 1, 1);
        x.does("when(1, 0, 0, 0)");
        dueFlaw(x, 2, 1, 2, 0);
        x.does("unact()");
        dueFlaw(x, 2, 2, 0, 0);
        x.does("when(0, 0, 0, 0)");
        Pair zero = new Pair("thing(4)", "cover()", "part(0, 0, 3, 3)", "act()", "effect(0, 0, 0, 0, 3)");
        dueFlaw(zero, 2, 0, 0, 0);

        says("Terms", "else 3: a STATE of THE AIM is in it (the least);");
        dueFlaw(x, 3, 0, NONE, NONE);
        x.does("aimless()", "aim(0, 1, 0)", "aim(0, 1, 1)");
        dueFlaw(x, 3, 2, NONE, NONE);
        x.does("aimless()");
        dueFlaw(x, 3, 0, NONE, NONE);

        says("Terms", "else 0.");
        x.does("aim(0, 0, 3)");
        dueFlaw(x, 0, NONE, NONE, NONE);
        x.does("aim(0, 0, 2)");
        dueFlaw(x, 0, NONE, NONE, NONE);
        x.does("bare()");
        dueFlaw(x, 1, NONE, NONE, NONE);
    }

    private static void alike() {
        says("Terms", "======== 4 STATES are ALIKE, as long as nothing parts them:");
        Pair x = new Pair();
        x.gives("count(9)", 1);
        x = things(4, 4, 4, 4, 4, 4);
        x.gives("count(9)", 1);
        x.gives("of(4095, 4)", 0);
        x.does("act()", "outcome(0)", "effect(0, 0, 0, 2, 1)", "effect(0, 1, 5, 0, 0)");
        x.gives("count(9)", 1);

        says("Terms", "those in THE AIM from others;");
        x = six();
        x.does("aim(0, 0, 2)");
        x.gives("count(9)", 2);
        int[] least = {0, 0, 2, 0, 0, 2};
        for (int s = 0; s < 6; s++) {
            x.gives("of(" + s + ", 4)", least[s]);
        }
        x.does("aim(0, 0, 1)");
        x.gives("count(9)", 1);
        x.gives("of(5, 4)", 0);

        says("Terms", "those from others in which an ACT CAN be done that can not be in these,");
        x = six();
        x.does("when(0, 0, 0, 2)");
        x.gives("count(9)", 2);
        x.gives("of(4, 4)", 0);
        x.gives("of(5, 4)", 2);
        x.does("when(0, 0, 0, 1)");
        x.gives("count(9)", 1);

        says("Terms", "or leads to STATES that are not ALIKE: the sets of what it leads to, "
                + "ALIKE ones being one, differ.");
        // Things a, b, c of 2; the aim is b = 1. Where b is 0, b becomes what a was, or what c was.
        x = things(2, 2, 2);
        x.does("aim(1, 0, 1)", "act()", "when(0, 1, 0, 0)", "outcome(0)");
        x.does("effect(0, 0, 1, 1, 0)", "effect(0, 1, 1, 1, 2)");
        int[] sets = {0, 1, 2, 2, 1, 5, 2, 2};
        for (int round = 0; round < 2; round++) {
            x.gives("count(9)", 4);
            for (int s = 0; s < 8; s++) {
                x.gives("of(" + s + ", 4)", sets[s]);
            }
            if (round == 0) {
                // A third outcome that is as the second one leaves the sets as they are.
                x.does("outcome(0)", "effect(0, 2, 1, 1, 2)");
            }
        }

        // The third outcome alone parts 1, which it leads to the aim, from 0, which it leaves where it is.
        x = things(2, 2);
        x.does("aim(1, 0, 1)", "act()", "when(0, 1, 0, 0)", "outcome(0)", "outcome(0)");
        x.gives("count(9)", 2);
        x.does("effect(0, 2, 1, 1, 0)");
        x.gives("count(9)", 3);
        x.gives("of(1, 4)", 1);
        x.gives("of(3, 4)", 2);

        says("Terms", "CLASSES are all that are ALIKE.");
        x = things(4, 4, 4, 4, 4, 4);
        for (int t = 0; t < 6; t++) {
            x.does("act()", "when(" + 2 * t + ", " + t + ", 0, 0)");
            x.gives("count(9)", 2 << 2 * t);
            x.does("act()", "effect(" + (2 * t + 1) + ", 0, " + t + ", 2, 1)");
            x.gives("count(9)", 4 << 2 * t);
        }
        x.gives("of(4095, 4)", 4095);
    }

    // ---------------------------------------------------------------- refusals

    /** A world in which all is full: 8 things, 12 acts, of act 0 and of the aim and of part 0 all that they hold. */
    private static Pair full() {
        Pair x = things(2, 2, 2, 2, 2, 2, 2, 2);
        for (int a = 0; a < 12; a++) {
            x.does("act()");
        }
        x.does("outcome(0)", "outcome(0)");
        for (int p = 0; p < 6; p++) {
            x.does("cover()");
        }
        for (int n = 0; n < 4; n++) {
            x.does("when(0, " + n + ", 0, 0)", "aim(" + n + ", 0, 1)", "part(0, " + n + ", 0, 0)");
            x.does("effect(0, 0, " + n + ", 0, 1)", "effect(0, 1, 0, 2, 1)", "effect(0, 2, 1, 2, 1)");
        }
        return x;
    }

    private static void badIsFirst() {
        says("Terms", "REFUSALS are answers: BAD (a number is none, or out of its bounds) first;");
        Pair x = full();
        x.refuses(FULL, "act()", "outcome(0)", "cover()");
        x.refuses(FULL, "when(0, 0, 0, 0)", "aim(0, 0, 0)", "part(0, 0, 0, 0)", "effect(0, 2, 0, 0, 0)");
        x.refuses(BAD, "thing(2)", "thing(1)", "outcome(12)", "outcome(-1)");
        x.refuses(BAD, "when(12, 0, 0, 0)", "when(0, 8, 0, 0)", "when(0, 0, 4, 0)", "when(0, 0, 0, 4)");
        x.refuses(BAD, "aim(8, 0, 0)", "aim(0, 4, 0)", "aim(0, 0, 4)", "aim(0, 2, 8)");
        x.refuses(BAD, "part(6, 0, 0, 0)", "part(0, 8, 0, 0)", "part(0, 0, 4, 0)", "part(0, 0, 0, 4)");
        x.refuses(BAD, "effect(0, 3, 0, 0, 0)", "effect(0, 0, 8, 0, 0)", "effect(0, 0, 0, 3, 0)");
        x.refuses(BAD, "effect(12, 0, 0, 0, 0)", "effect(0, 0, 0, 0, 2)");
        // Where NONE would be the answer, too: act 0 can not be done in 1; 15 is in the aim; no play has a step 99.
        x.gives("leads(1, 0, 0)", NONE);
        x.refuses(BAD, "leads(1, 0, 3)", "leads(1, 12, 0)", "leads(256, 0, 0)");
        x.gives("best(15, 1)", NONE);
        x.refuses(BAD, "best(15, 0)", "best(15, 4)", "best(256, 1)");
        x.gives("play(99, 0)", NONE);
        x.refuses(BAD, "play(99, 3)", "play(99, -1)");
        x.isUnchanged();
        x.hasItsRoom();

        says("Terms", "then what a call names, in the order named.");
        // Of a thing BAD is named ahead of FULL, also where acts, conditions or parts are what is BAD.
        x = things(4, 4, 4, 4, 4, 4);
        x.refuses(FULL, "thing(2)");
        x.refuses(BAD, "thing(1)");
        x.does("act()");
        x.refuses(BAD, "thing(2)");
        x.does("unact()", "aim(0, 0, 0)");
        x.refuses(BAD, "thing(2)");
        x.does("aimless()", "cover()");
        x.refuses(BAD, "thing(2)");
        x.does("bare()");
        x.refuses(FULL, "thing(2)");
        x.isUnchanged();
    }

    private static void nothingChanges() {
        says("Terms", "What is refused changes nothing.");
        for (int start = 0; start < 6; start++) {
            Pair x = door();
            x.does("start(" + start + ")", "cover()", "part(0, 1, 0, 0)");
            x.isUnchanged();
            x.refuses(BAD, "thing(2)", "thing(5)", "start(6)", "start(-1)", "outcome(2)", "outcome(-1)");
            x.refuses(BAD, "when(2, 0, 0, 0)", "when(0, 2, 0, 0)", "when(0, 0, 4, 0)", "when(0, 0, 0, 4)");
            x.refuses(BAD, "effect(2, 0, 0, 0, 0)", "effect(1, 1, 0, 0, 0)", "effect(0, 0, 2, 0, 0)");
            x.refuses(BAD, "effect(0, 0, 0, 3, 0)", "effect(0, 0, 0, 0, 3)", "effect(0, 0, 1, 0, 2)");
            x.refuses(BAD, "aim(2, 0, 0)", "aim(0, 4, 0)", "aim(0, 0, 4)", "aim(0, 2, 2)");
            x.refuses(BAD, "part(1, 0, 0, 0)", "part(0, 2, 0, 0)", "part(0, 0, 4, 0)", "part(0, 0, 3, 4)");
            x.refuses(BAD, "leads(6, 0, 0)", "leads(0, 2, 0)", "leads(0, 0, 2)", "count(11)", "count(-1)");
            x.refuses(BAD, "of(6, 0)", "of(0, 5)", "best(6, 1)", "best(0, 0)", "best(0, 4)", "play(0, 3)");
            x.refuses(BAD, "fact(2, 0)", "fact(0, 3)", "fact(1, 2)", "values(2)", "flaw(4)", "flaw(-1)");
            x.isUnchanged();
            x.hasItsRoom();
        }
    }

    private static void withoutThings() {
        says("Terms", "What is asked without THINGS is asked of the one STATE 0.");
        Pair x = new Pair();
        dueOneState(x, 0, 0);
        x.refuses(BAD, "start(1)", "start(-1)", "of(1, 0)", "best(1, 1)", "of(-1, 0)");
        x.refuses(BAD, "fact(0, 0)", "values(0)", "aim(0, 0, 0)", "aim(0, 2, 0)", "leads(0, 0, 0)");
        dueFlaw(x, 1, NONE, NONE, NONE);
        x.gives("cover()", 0);
        dueFlaw(x, 3, 0, NONE, NONE);
        x.refuses(BAD, "part(0, 0, 0, 0)", "part(0, 0, 2, 0)");
        x.gives("act()", 0);
        x.gives("outcome(0)", 1);
        x.gives("leads(0, 0, 1)", 0);
        x.refuses(BAD, "leads(1, 0, 0)", "leads(0, 0, 2)");
        x.refuses(BAD, "when(0, 0, 0, 0)", "when(0, 0, 2, 0)", "effect(0, 0, 0, 0, 0)", "effect(0, 0, 0, 1, 0)");
        dueOneState(x, 1, 1);
        dueFlaw(x, 3, 0, NONE, NONE);
        x.isUnchanged();
        x.gives("clear()", 0);
        dueOneState(x, 0, 0);
    }

    private static void dueOneState(Pair x, int acts, int parts) {
        int[] counts = {1, 0, acts, 1, 1, 1, 1, 1, 0, 1, parts};
        for (int what = 0; what < counts.length; what++) {
            x.gives("count(" + what + ")", counts[what]);
        }
        for (int what = 0; what < 5; what++) {
            x.gives("of(0, " + what + ")", 0);
        }
        for (int what = 1; what < 4; what++) {
            x.gives("best(0, " + what + ")", NONE);
        }
        for (int what = 0; what < 3; what++) {
            x.gives("play(0, " + what + ")", NONE);
        }
        x.gives("plays()", 1);
        x.gives("needed()", 0);
        x.gives("start(0)", 0);
    }

    // ---------------------------------------------------------------- the promises

    /** All that a new object has none of, and that there is room for all of it. */
    private static void dueAtFirst(Pair x) {
        dueOneState(x, 0, 0);
        dueFlaw(x, 1, NONE, NONE, NONE);
        x.gives("aimless()", 0);
        x.gives("bare()", 0);
        x.refuses(NONE, "unact()");
        x.refuses(BAD, "values(0)", "outcome(0)", "part(0, 0, 0, 0)", "start(1)");
        x.gives("thing(4)", 0);
        x.gives("act()", 0);
        x.gives("leads(3, 0, 0)", 3);
        x.refuses(BAD, "leads(3, 0, 1)");
        x.gives("when(0, 0, 1, 0)", 1);
        x.gives("effect(0, 0, 0, 2, 3)", 1);
        x.gives("outcome(0)", 1);
        x.gives("effect(0, 1, 0, 2, 2)", 1);
        x.gives("leads(3, 0, 0)", 2);
        x.gives("leads(3, 0, 1)", 1);
        x.gives("aim(0, 0, 0)", 1);
        x.gives("cover()", 0);
        x.gives("part(0, 0, 3, 3)", 1);
        x.gives("count(3)", 1);
        x.gives("start(3)", 0);
    }

    private static void promises1and2() {
        says("Promise 1", "No THINGS, ACTS, CONDITIONS, PARTS; THE START is 0.");
        Pair x = new Pair();
        dueAtFirst(x);
        // What one object holds, another one does not.
        dueAtFirst(new Pair());
        x.gives("count(0)", 4);

        says("Promise 2", "All as at first: how many THINGS there were.");
        x = new Pair();
        x.gives("clear()", 0);
        x.gives("clear()", 0);
        dueAtFirst(x);
        x.gives("clear()", 1);
        dueAtFirst(x);
        x = full();
        x.does("start(255)");
        x.gives("count(9)", 3);
        x.gives("clear()", 8);
        dueAtFirst(x);
        x.gives("clear()", 1);
        x.gives("clear()", 0);
        // Four states again, but told otherwise.
        x = new Pair("thing(4)", "act()", "effect(0, 0, 0, 2, 1)", "aim(0, 0, 3)");
        x.gives("of(0, 1)", 3);
        x.gives("count(3)", 4);
        x.gives("clear()", 1);
        x.does("thing(2)", "thing(2)", "act()", "aim(1, 0, 1)");
        x.gives("of(0, 1)", NONE);
        x.gives("of(3, 1)", 0);
        x.gives("count(3)", 1);
        x.does("effect(0, 0, 1, 2, 1)");
        x.gives("of(1, 1)", 1);
        x = things(4, 4, 4, 4, 4, 4);
        x.does("start(4095)");
        x.refuses(FULL, "thing(2)");
        x.gives("clear()", 6);
        x.gives("thing(2)", 0);
        x.gives("count(0)", 2);
        x.refuses(BAD, "start(2)");
        x.gives("start(1)", 0);
    }

    private static void promise3() {
        says("Promise 3", "A THING more of a SIZE: its number.");
        Pair x = new Pair();
        for (int size = 2; size <= 4; size++) {
            x.gives("thing(" + size + ")", size - 2);
        }
        x.refusesOutside("thing(#)", 2, 4);
        x.gives("count(0)", 24);
        x.gives("count(1)", 3);
        x.gives("thing(2)", 3);
        x.isUnchanged();
        // The start is a number, and stays that number when a thing is more.
        x = new Pair("thing(3)", "start(2)");
        x.gives("thing(2)", 1);
        x.gives("of(2, 0)", 0);
        x.gives("start(5)", 2);

        // What is asked goes with the things that there are.
        x = new Pair();
        int states = 1;
        for (int t = 0; t <= 8; t++) {
            for (int what = 4; what <= 7; what++) {
                x.gives("count(" + what + ")", states);
            }
            x.gives("count(3)", 1);
            x.gives("count(9)", 1);
            x.gives("of(" + (states - 1) + ", 0)", t == 0 ? 0 : NONE);
            x.gives("of(" + (states - 1) + ", 4)", 0);
            x.refuses(BAD, "of(" + states + ", 0)");
            if (t < 8) {
                x.gives("values(" + (t - 1) + ")", t == 0 ? BAD : 1);
                x.gives("thing(2)", t);
                states *= 2;
            }
        }

        says("Promise 3", "BAD: also there are ACTS, CONDITIONS or PARTS already;");
        x = new Pair("thing(2)", "act()");
        x.refuses(BAD, "thing(2)");
        x.gives("unact()", 0);
        x.gives("thing(2)", 1);
        x.does("aim(0, 0, 0)");
        x.refuses(BAD, "thing(2)");
        x.gives("aimless()", 1);
        x.gives("thing(2)", 2);
        x.does("cover()");
        x.refuses(BAD, "thing(2)");
        x.gives("bare()", 1);
        x.gives("thing(2)", 3);
        x.gives("count(0)", 16);
        x.isUnchanged();
        // Acts and parts stand in the way without things and without conditions, too.
        x = new Pair("act()");
        x.refuses(BAD, "thing(2)");
        x.does("unact()", "cover()");
        x.refuses(BAD, "thing(2)");
        x.does("bare()");
        x.gives("thing(2)", 0);

        says("Promise 3", "FULL: 8, or more than 4,096 STATES.");
        x = things(2, 2, 2, 2, 2, 2, 2);
        x.gives("thing(4)", 7);
        x.refuses(FULL, "thing(2)", "thing(3)", "thing(4)");
        x.gives("count(1)", 8);
        x.gives("count(0)", 512);
        x.isUnchanged();
        x = things(4, 4, 4, 4, 4, 2);
        x.refuses(FULL, "thing(3)", "thing(4)");
        x.gives("thing(2)", 6);
        x.refuses(FULL, "thing(2)");
        x.gives("count(1)", 7);
        x.gives("count(0)", 4096);
        x.isUnchanged();
    }

    private static void promises4and5() {
        says("Promise 4", "THE START: what it was.");
        Pair x = six();
        x.gives("start(0)", 0);
        x.gives("start(5)", 0);
        x.gives("start(5)", 5);
        x.gives("start(1)", 5);
        x.gives("of(1, 0)", 0);
        x.gives("of(5, 0)", NONE);

        says("Promise 4", "BAD.");
        x.refusesOutside("start(#)", 0, 5);
        x.gives("of(1, 0)", 0);
        x.isUnchanged();
        x.gives("start(0)", 1);
        x = things(4, 4, 4, 4, 4, 4);
        x.gives("start(4095)", 0);
        x.refusesOutside("start(#)", 0, 4095);
        x.gives("start(0)", 4095);

        says("Promise 5", "An ACT more, without CONDITIONS, with one OUTCOME without EFFECTS: its number.");
        x = things(3, 2);
        for (int a = 0; a < 12; a++) {
            x.gives("act()", a);
            x.gives("leads(5, " + a + ", 0)", 5);
            x.refuses(BAD, "leads(5, " + a + ", 1)");
            x.gives("when(" + a + ", 0, 0, 0)", 1);
            x.gives("effect(" + a + ", 0, 1, 0, 1)", 1);
            x.gives("outcome(" + a + ")", 1);
        }
        x.gives("unact()", 11);
        x.gives("act()", 11);
        x.gives("leads(5, 11, 0)", 5);
        x.refuses(BAD, "leads(5, 11, 1)");
        x.gives("outcome(11)", 1);
        x.gives("leads(5, 11, 1)", 5);

        says("Promise 5", "FULL.");
        x.refuses(FULL, "act()", "act()");
        x.gives("count(2)", 12);
        x.isUnchanged();
        x.hasItsRoom();
    }

    private static void promises6and7() {
        says("Promise 6", "An OUTCOME more of an ACT: its number.");
        Pair x = things(4);
        for (int a = 0; a < 12; a++) {
            x.does("act()", "effect(" + a + ", 0, 0, 0, 0)");
            x.gives("outcome(" + a + ")", 1);
            x.gives("leads(3, " + a + ", 1)", 3);
            x.gives("outcome(" + a + ")", 2);
            x.gives("leads(3, " + a + ", 2)", 3);
        }

        Pair y = new Pair("thing(2)", "aim(0, 0, 1)", "act()", "effect(0, 0, 0, 0, 1)");
        y.gives("of(0, 2)", 1);
        y.gives("plays()", 1);
        y.gives("outcome(0)", 1);
        y.gives("of(0, 2)", NONE);
        y.gives("of(0, 3)", 1);
        y.does("effect(0, 1, 0, 2, 1)");
        y.gives("of(0, 2)", 1);
        y.gives("plays()", 2);

        says("Promise 6", "BAD; FULL.");
        x.refusesOutside("outcome(#)", 0, 11);
        x.refuses(FULL, "outcome(0)", "outcome(11)");
        x.gives("leads(3, 0, 2)", 3);
        x.refuses(BAD, "leads(3, 0, 3)");
        x.isUnchanged();
        x.does("unact()");
        x.refuses(BAD, "outcome(11)");
        x.refuses(FULL, "outcome(10)");

        says("Promise 7", "A CONDITION more of an ACT: how many.");
        x = six();
        x.does("act()");
        for (int n = 1; n <= 4; n++) {
            x.gives("when(1, 0, 1, " + (n - 1) + ")", n);
        }
        x.gives("leads(2, 0, 0)", 2);
        x.gives("leads(2, 1, 0)", NONE);

        says("Promise 7", "BAD; FULL.");
        x.refusesOutside("when(#, 0, 1, 3)", 0, 1);
        x.refusesOutside("when(0, #, 1, 3)", 0, 1);
        x.refusesOutside("when(0, 0, #, 1)", 0, 3);
        x.refusesOutside("when(0, 0, 0, #)", 0, 3);
        x.refusesOutside("when(0, 0, 1, #)", 0, 3);
        x.refusesOutside("when(0, 0, 2, #)", 0, 1);
        x.refusesOutside("when(0, 0, 3, #)", 0, 3);
        x.refuses(FULL, "when(1, 0, 1, 3)");
        x.refuses(BAD, "when(1, 0, 1, 4)");
        x.isUnchanged();
        x.gives("when(0, 1, 0, 3)", 1);
        x.gives("leads(0, 0, 0)", NONE);
        x.hasItsRoom();
    }

    private static void promise8() {
        says("Promise 8", "An EFFECT more of an OUTCOME: how many.");
        Pair x = things(4, 2);
        x.does("act()", "act()", "outcome(1)");
        for (int n = 1; n <= 4; n++) {
            x.gives("effect(1, 1, 0, 0, " + (n - 1) + ")", n);
            x.gives("leads(0, 1, 1)", n - 1);
            x.gives("leads(0, 1, 0)", 0);
        }
        x.gives("effect(1, 0, 1, 0, 1)", 1);
        x.gives("leads(0, 1, 0)", 4);

        says("Promise 8", "BAD; FULL.");
        x.refusesOutside("effect(#, 0, 0, 0, 0)", 0, 1);
        x.refusesOutside("effect(0, #, 0, 0, 0)", 0, 0);
        x.refusesOutside("effect(1, #, 0, 0, 0)", 0, 1);
        x.refusesOutside("effect(0, 0, #, 0, 0)", 0, 1);
        x.refusesOutside("effect(0, 0, 0, #, 0)", 0, 2);
        x.refusesOutside("effect(0, 0, 0, 0, #)", 0, 3);
        x.refusesOutside("effect(0, 0, 1, 0, #)", 0, 1);
        x.refusesOutside("effect(0, 0, 0, 1, #)", 0, 1);
        x.refusesOutside("effect(0, 0, 1, 2, #)", 0, 3);
        x.refuses(FULL, "effect(1, 1, 0, 0, 0)", "effect(1, 1, 1, 2, 3)");
        x.refuses(BAD, "effect(1, 1, 1, 0, 2)", "effect(1, 1, 0, 1, 2)");
        x.gives("leads(0, 0, 0)", 0);
        x.gives("leads(0, 1, 1)", 3);
        x.isUnchanged();
        x.gives("effect(0, 0, 1, 2, 3)", 1);
        x.gives("leads(0, 0, 0)", 4);
        x.hasItsRoom();
    }

    private static void promises9to11() {
        says("Promise 9", "A CONDITION more of THE AIM: how many.");
        Pair x = six();
        int[] left = {6, 4, 2, 0, 0};
        for (int n = 1; n <= 4; n++) {
            x.gives("count(4)", left[n - 1]);
            x.gives("aim(0, 1, " + (n - 1) + ")", n);
        }
        x.gives("count(4)", 0);

        says("Promise 9", "BAD; FULL.");
        x.refuses(FULL, "aim(0, 1, 3)");
        x.refuses(BAD, "aim(0, 1, 4)");
        x.gives("aimless()", 4);
        x.refusesOutside("aim(#, 1, 3)", 0, 1);
        x.refusesOutside("aim(0, #, 1)", 0, 3);
        x.refusesOutside("aim(0, 0, #)", 0, 3);
        x.refusesOutside("aim(0, 1, #)", 0, 3);
        x.refusesOutside("aim(0, 2, #)", 0, 1);
        x.refusesOutside("aim(0, 3, #)", 0, 3);
        x.gives("count(4)", 6);
        x.isUnchanged();
        x.gives("aim(1, 2, 0)", 1);
        x.gives("count(4)", 2);
        x.hasItsRoom();

        says("Promise 10", "THE AIM has no CONDITIONS any more: how many it had.");
        x = six();
        for (int n = 0; n <= 4; n++) {
            for (int i = 1; i <= n; i++) {
                x.gives("aim(0, 0, 0)", i);
            }
            x.gives("count(4)", n == 0 ? 6 : 2);
            x.gives("aimless()", n);
            x.gives("count(4)", 6);
            x.gives("of(1, 1)", 0);
        }
        x.gives("aimless()", 0);
        x.gives("count(2)", 1);
        x.gives("count(10)", 1);

        says("Promise 11", "The last ACT goes: how many are left.");
        x = things(2);
        for (int a = 0; a < 12; a++) {
            x.does("act()", "outcome(" + a + ")", "effect(" + a + ", 0, 0, 0, 1)");
        }
        for (int a = 11; a >= 0; a--) {
            x.gives("leads(0, " + a + ", 0)", 1);
            x.gives("unact()", a);
            x.refuses(BAD, "leads(0, " + a + ", 0)", "outcome(" + a + ")");
            x.gives("count(2)", a);
            x.gives("count(3)", a == 0 ? 1 : 2);
        }

        says("Promise 11", "NONE.");
        x.refuses(NONE, "unact()", "unact()");
        x.gives("count(2)", 0);
        x.gives("act()", 0);
        x.gives("leads(0, 0, 0)", 0);
        x.refuses(BAD, "leads(0, 0, 1)");
        x.isUnchanged();
        x.gives("unact()", 0);
        x.refuses(NONE, "unact()");
    }

    private static void promise12() {
        says("Promise 12", "Where an ACT with an OUTCOME leads from a STATE.");
        Pair x = door();
        int[] walks = {1, 2, NONE, 4, 5, NONE};
        int[] slips = {0, 1, NONE, 3, 4, NONE};
        int[] takes = {NONE, 4, NONE, NONE, 4, NONE};
        for (int s = 0; s < 6; s++) {
            x.gives("leads(" + s + ", 0, 0)", walks[s]);
            x.gives("leads(" + s + ", 0, 1)", slips[s]);
            x.gives("leads(" + s + ", 1, 0)", takes[s]);
        }

        says("Promise 12", "NONE: it CAN not be done;");
        x.gives("leads(1, 0, 0)", 2);
        x.refuses(NONE, "leads(2, 0, 0)", "leads(2, 0, 1)", "leads(0, 1, 0)", "leads(5, 1, 0)");
        x.gives("leads(1, 1, 0)", 4);

        says("Promise 12", "BAD.");
        x.refusesOutside("leads(#, 0, 0)", 0, 5);
        x.refusesOutside("leads(0, #, 0)", 0, 1);
        x.refusesOutside("leads(0, 0, #)", 0, 1);
        x.refusesOutside("leads(1, 1, #)", 0, 0);
        // Where it can not be done, a wrong number is still told first.
        x.refusesOutside("leads(2, 0, #)", 0, 1);
        x.refusesOutside("leads(0, 1, #)", 0, 0);
        x.isUnchanged();
        x.hasItsRoom();
    }

    private static void promise13() {
        says("Promise 13", "What = 0 STATES, 1 THINGS, 2 ACTS, 3 REACHED, 4 in THE AIM, 5 with MAY, 6 with MUST, "
                + "7 FAIR, 8 DEAD, 9 CLASSES, 10 PARTS.");
        dueCounts(new Pair(), 1, 0, 0, 1, 1, 1, 1, 1, 0, 1, 0);
        dueCounts(door(), 6, 2, 2, 5, 1, 5, 1, 5, 1, 6, 0);
        dueCounts(stairs(), 4, 1, 1, 4, 1, 4, 1, 4, 0, 4, 0);
        // Nothing is in the aim: nothing may win, and all that is reached is dead.
        Pair x = door();
        x.does("aim(0, 0, 0)", "cover()");
        dueCounts(x, 6, 2, 2, 5, 0, 0, 0, 0, 5, 3, 1);
        // All is in the aim.
        x.does("aimless()");
        dueCounts(x, 6, 2, 2, 5, 6, 6, 6, 6, 0, 3, 1);
        x = full();
        dueCounts(x, 256, 8, 12, 4, 16, 32, 16, 16, 2, 3, 6);
        x = things(4, 4, 4, 4, 4, 4);
        dueCounts(x, 4096, 6, 0, 1, 4096, 4096, 4096, 4096, 0, 1, 0);

        says("Promise 13", "BAD.");
        x = door();
        x.refusesOutside("count(#)", 0, 10);
        x.refuses(BAD, "count(12)", "count(-2)");
        x.isUnchanged();
        x.hasItsRoom();
    }

    private static void dueCounts(Pair x, int... counts) {
        for (int what = 0; what < counts.length; what++) {
            x.gives("count(" + what + ")", counts[what]);
        }
    }

    private static void promises14and15() {
        says("Promise 14", "Of a STATE: what = 0 the fewest ACTS from THE START (NONE: not REACHED), 1 MAY, 2 MUST, "
                + "3 its LEVEL as FAIR, 4 the least STATE of its CLASS.");
        int[][] rows = {{0, 3, NONE, 3, 0}, {1, 2, NONE, 2, 1}, {2, NONE, NONE, NONE, 2},
            {NONE, 2, NONE, 2, 3}, {2, 1, NONE, 1, 4}, {3, 0, 0, 0, 5}};
        Pair x = door();
        for (int s = 0; s < 6; s++) {
            for (int what = 0; what < 5; what++) {
                x.gives("of(" + s + ", " + what + ")", rows[s][what]);
            }
        }
        x = things(4, 4, 4, 4, 4, 4);
        x.does("start(4095)", "aim(5, 0, 3)");
        int[] last = {0, 0, 0, 0, 3072};
        for (int what = 0; what < 5; what++) {
            x.gives("of(4095, " + what + ")", last[what]);
            x.gives("of(0, " + what + ")", what == 4 ? 0 : NONE);
        }
        x.refusesOutside("of(#, 0)", 0, 4095);

        says("Promise 14", "BAD.");
        x = door();
        for (int what = 0; what < 5; what++) {
            x.refusesOutside("of(#, " + what + ")", 0, 5);
        }
        for (int s = 0; s < 6; s++) {
            x.refusesOutside("of(" + s + ", #)", 0, 4);
        }
        x.isUnchanged();
        x.hasItsRoom();

        says("Promise 15", "THE ACT of a STATE for what = 1 MAY, 2 MUST, 3 FAIR.");
        int[][] best = {{0, NONE, 0}, {1, NONE, 1}, {NONE, NONE, NONE}, {0, NONE, 0}, {0, NONE, 0}, {NONE, NONE, NONE}};
        x = door();
        for (int s = 0; s < 6; s++) {
            for (int what = 1; what <= 3; what++) {
                x.gives("best(" + s + ", " + what + ")", best[s][what - 1]);
            }
        }

        says("Promise 15", "NONE: it has no such number, or is in THE AIM;");
        x.does("act()", "when(2, 0, 0, 2)", "effect(2, 0, 0, 0, 2)");
        for (int what = 1; what <= 3; what++) {
            x.gives("of(2, " + what + ")", NONE);
            x.refuses(NONE, "best(2, " + what + ")");
            x.gives("of(5, " + what + ")", 0);
            x.refuses(NONE, "best(5, " + what + ")");
        }
        x.does("effect(2, 0, 1, 0, 1)");
        for (int what = 1; what <= 3; what++) {
            x.gives("of(2, " + what + ")", 1);
            x.gives("best(2, " + what + ")", 2);
            x.refuses(NONE, "best(5, " + what + ")");
        }

        says("Promise 15", "BAD.");
        x = door();
        for (int what = 1; what <= 3; what++) {
            x.refusesOutside("best(#, " + what + ")", 0, 5);
        }
        // What 0 is none here, and states with and without an act are alike in that.
        for (int s = 0; s < 6; s++) {
            x.refusesOutside("best(" + s + ", #)", 1, 3);
        }
        x.isUnchanged();
        x.hasItsRoom();
    }

    /** Four digits that count up from 0 to 255, a step an act; each act has outcomes that are all one. */
    private static Pair digits(int outcomes) {
        Pair x = things(4, 4, 4, 4);
        for (int d = 0; d < 4; d++) {
            x.does("act()");
            for (int t = 0; t < d; t++) {
                x.does("when(" + d + ", " + t + ", 0, 3)");
            }
            x.does("when(" + d + ", " + d + ", 1, 3)");
            for (int k = 0; k < outcomes; k++) {
                if (k > 0) {
                    x.gives("outcome(" + d + ")", k);
                }
                for (int t = 0; t <= d; t++) {
                    x.does("effect(" + d + ", " + k + ", " + t + ", 2, 1)");
                }
            }
            x.does("aim(" + d + ", 0, 3)");
        }
        return x;
    }

    private static void promises16and17() {
        says("Promise 16", "Step i of THE FIRST PLAY: what = 0 the ACT, 1 the OUTCOME, 2 the STATE behind it.");
        Pair x = door();
        duePlay(x, new int[][] {{0, 0, 1}, {1, 0, 4}, {0, 0, 5}});
        x.does("outcome(1)", "effect(1, 0, 0, 0, 1)", "when(1, 1, 0, 1)");
        x.does("effect(0, 1, 1, 0, 1)");
        duePlay(x, new int[][] {{0, 0, 1}, {0, 1, 4}, {0, 0, 5}});
        x = digits(2);
        for (int what = 0; what < 3; what++) {
            x.gives("play(0, " + what + ")", what == 2 ? 1 : 0);
        }
        x.gives("play(63, 0)", 3);
        x.gives("play(63, 2)", 64);
        x.gives("play(254, 0)", 0);
        x.gives("play(254, 2)", 255);

        says("Promise 16", "NONE: there is none such;");
        for (int what = 0; what < 3; what++) {
            x.refuses(NONE, "play(255, " + what + ")", "play(256, " + what + ")", "play(4096, " + what + ")");
            for (int i : new int[] {-1, LOW, HIGH}) {
                x.refuses(NONE, "play(" + i + ", " + what + ")");
            }
        }
        x.does("start(254)");
        x.gives("play(0, 2)", 255);
        x.refuses(NONE, "play(1, 2)");
        x.does("start(255)");
        x.refuses(NONE, "play(0, 0)", "play(0, 1)", "play(0, 2)");
        x = door();
        x.does("start(2)");
        x.refuses(NONE, "play(0, 0)", "play(0, 1)", "play(0, 2)");
        x.isUnchanged();

        says("Promise 16", "BAD: what.");
        for (int start : new int[] {0, 2, 5}) {
            x = door();
            x.does("start(" + start + ")");
            x.refusesOutside("play(0, #)", 0, 2);
            x.refusesOutside("play(3, #)", 0, 2);
            x.refusesOutside("play(-1, #)", 0, 2);
            x.isUnchanged();
            x.hasItsRoom();
        }

        says("Promise 17", "How many PLAYS there are, in 64 bits that wrap.");
        x = digits(2);
        x.does("start(255)");
        x.gives("plays()", 1);
        x.does("start(254)");
        x.gives("plays()", 2);
        x.does("start(193)");
        x.gives("plays()", 1L << 62);
        x.does("start(192)");
        x.gives("plays()", Long.MIN_VALUE);
        x.does("start(191)");
        x.gives("plays()", 0);
        // No play is counted any more, and still there are some.
        x.gives("play(63, 2)", 255);
        x.gives("of(191, 1)", 64);
        x.gives("needed()", 0b1111);
        x = digits(3);
        long product = 1;
        for (int s = 255; s > 180; s--) {
            x.does("start(" + s + ")");
            x.gives("plays()", product);
            product *= 3;
        }
        x.does("aimless()", "aim(0, 0, 0)", "aim(0, 0, 1)");
        x.gives("plays()", 0);
        x.gives("play(0, 0)", NONE);
    }

    private static void promises18to20() {
        says("Promise 18", "All ACTS that are NEEDED (bit a for ACT a).");
        Pair x = new Pair("thing(2)", "aim(0, 0, 1)");
        x.gives("needed()", 0);
        for (int a = 0; a < 12; a++) {
            x.does("act()");
            x.gives("needed()", (2 << a) - 1);
        }
        x.does("effect(11, 0, 0, 0, 1)");
        x.gives("needed()", 1 << 11);
        x.does("effect(0, 0, 0, 0, 1)");
        x.gives("needed()", 0);
        x.does("unact()");
        x.gives("needed()", 1);
        x.does("start(1)");
        x.gives("needed()", 0);

        says("Promise 19", "Whether the FACT that THING t is v is NEEDED (1 or 0).");
        x = door();
        x.gives("fact(0, 0)", 1);
        x.gives("fact(0, 2)", 1);
        x.gives("fact(1, 0)", 1);
        x.gives("fact(1, 1)", 1);
        x.does("start(4)");
        x.gives("fact(0, 0)", 0);
        x.gives("fact(0, 2)", 1);
        x.gives("fact(1, 0)", 0);
        x.gives("fact(1, 1)", 1);

        says("Promise 19", "BAD: also v is not below its SIZE.");
        for (int start : new int[] {0, 2}) {
            x = door();
            x.does("start(" + start + ")");
            x.refusesOutside("fact(#, 0)", 0, 1);
            x.refusesOutside("fact(0, #)", 0, 2);
            x.refusesOutside("fact(1, #)", 0, 1);
            x.refuses(BAD, "fact(1, 3)");
            x.isUnchanged();
            x.hasItsRoom();
        }

        says("Promise 20", "The VALUES (as bits) that a THING has in all STATES that are REACHED together.");
        x = things(4, 3, 2);
        x.does("start(23)");
        x.gives("values(0)", 8);
        x.gives("values(1)", 4);
        x.gives("values(2)", 2);
        x.does("act()", "when(0, 0, 1, 1)", "effect(0, 0, 0, 2, 1)");
        x.gives("values(0)", 8 + 1 + 2);
        x.gives("values(1)", 4);
        x.does("act()", "effect(1, 0, 0, 2, 1)", "outcome(1)", "effect(1, 1, 2, 0, 0)");
        x.gives("values(0)", 15);
        x.gives("values(1)", 4);
        x.gives("values(2)", 3);

        says("Promise 20", "BAD.");
        x.refusesOutside("values(#)", 0, 2);
        x.refuses(BAD, "values(7)", "values(8)");
        x.isUnchanged();
        x = new Pair();
        x.refuses(BAD, "values(0)", "values(-1)");
    }

    private static void promises21to23() {
        says("Promise 21", "A PART more of the COVER, without CONDITIONS: its number.");
        Pair x = things(2);
        for (int round = 0; round < 2; round++) {
            for (int p = 0; p < 6; p++) {
                x.gives("cover()", p);
                x.gives("flaw(0)", 3);
                x.gives("part(" + p + ", 0, 0, 2)", 1);
                x.gives("flaw(0)", 1);
            }
            if (round == 0) {
                x.gives("bare()", 6);
            }
        }

        says("Promise 21", "FULL.");
        x.refuses(FULL, "cover()", "cover()");
        x.gives("count(10)", 6);
        x.gives("flaw(0)", 1);
        x.isUnchanged();
        x.hasItsRoom();

        says("Promise 22", "A CONDITION more of a PART: how many.");
        x = six();
        x.does("cover()");
        for (int p = 0; p < 2; p++) {
            for (int n = 1; n <= 4; n++) {
                x.gives("part(" + p + ", 0, 1, " + (n - 1) + ")", n);
            }
            x.gives("flaw(0)", p == 0 ? 3 : 1);
        }

        says("Promise 22", "BAD; FULL.");
        x.refuses(FULL, "part(0, 0, 1, 3)", "part(1, 0, 1, 3)");
        x.refuses(BAD, "part(0, 0, 1, 4)", "part(2, 0, 1, 3)");
        x.does("cover()");
        x.refusesOutside("part(#, 0, 1, 3)", 0, 2);
        x.refusesOutside("part(2, #, 1, 3)", 0, 1);
        x.refusesOutside("part(2, 0, #, 1)", 0, 3);
        x.refusesOutside("part(2, 0, 0, #)", 0, 3);
        x.refusesOutside("part(2, 0, 1, #)", 0, 3);
        x.refusesOutside("part(2, 0, 2, #)", 0, 1);
        x.refusesOutside("part(2, 0, 3, #)", 0, 3);
        x.gives("flaw(0)", 3);
        x.isUnchanged();
        x.gives("part(2, 0, 3, 0)", 1);
        x.gives("flaw(0)", 1);
        x.hasItsRoom();

        says("Promise 23", "The COVER has no PARTS any more: how many it had.");
        x = door();
        for (int parts = 0; parts <= 6; parts++) {
            for (int p = 0; p < parts; p++) {
                x.gives("cover()", p);
                x.gives("part(" + p + ", 0, 0, 0)", 1);
            }
            x.gives("bare()", parts);
            x.gives("count(10)", 0);
            x.gives("flaw(0)", 1);
            x.refuses(BAD, "part(0, 0, 0, 0)");
        }
        x.gives("bare()", 0);
        x.gives("count(2)", 2);
        x.gives("count(4)", 1);
        x.isUnchanged();
    }

    private static void promise24() {
        says("Promise 24", "THE FLAW of the COVER: what = 0 its number, 1 the STATE, 2 the ACT, 3 the OUTCOME "
                + "(NONE where none is told).");
        Pair x = new Pair("thing(4)", "aim(0, 0, 3)", "cover()", "part(0, 0, 3, 3)");
        dueFlaw(x, 0, NONE, NONE, NONE);
        for (int a = 0; a < 12; a++) {
            x.does("act()");
        }
        dueFlaw(x, 0, NONE, NONE, NONE);
        x.does("when(11, 0, 0, 2)", "outcome(11)", "outcome(11)", "effect(11, 2, 0, 2, 1)");
        dueFlaw(x, 2, 2, 11, 2);
        x.does("start(3)");
        dueFlaw(x, 1, NONE, NONE, NONE);
        x.does("cover()");
        dueFlaw(x, 3, 3, NONE, NONE);
        x.does("aim(0, 0, 0)");
        dueFlaw(x, 0, NONE, NONE, NONE);

        says("Promise 24", "BAD.");
        x.refusesOutside("flaw(#)", 0, 3);
        x.refuses(BAD, "flaw(5)", "flaw(-2)");
        dueFlaw(x, 0, NONE, NONE, NONE);
        x.isUnchanged();
        x.hasItsRoom();
        x = new Pair();
        x.refusesOutside("flaw(#)", 0, 3);
        dueFlaw(x, 1, NONE, NONE, NONE);
    }

    // ---------------------------------------------------------------- what is not promised

    private static void notPromised() {
        leavesFree("Not promised", "How the state is held inside the object is free, as are the speed of each call, "
                + "the text of toString and the behaviour of equals and hashCode.");
        leavesFree("Not promised", "Use of one object from several threads at once is not promised to be safe.");
        leavesFree("Not promised", "Nothing is promised beyond the answers and state changes described above, "
                + "and nothing about an object after its 512th call.");
    }

    // ---------------------------------------------------------------- all of it

    private static void terms() {
        whatItIs();
        objects();
        thingsAndSizes();
        mostStates();
        statesAsNumbers();
        conditions();
        effects();
        actsAndTheirBounds();
        whatActsDo();
        aimAndStart();
        reached();
        may();
        must();
        fair();
        numbersAndActs();
        playsOfTerms();
        neededOfTerms();
        covers();
        flaws();
        alike();
        badIsFirst();
        nothingChanges();
        withoutThings();
    }

    private static void promises() {
        promises1and2();
        promise3();
        promises4and5();
        promises6and7();
        promise8();
        promises9to11();
        promise12();
        promise13();
        promises14and15();
        promises16and17();
        promises18to20();
        promises21to23();
        promise24();
    }

    public static void main(String[] args) throws Exception {
        Path path = Path.of("../shared/DOC.md");
        if (Files.exists(path)) {
            document = new Document(new String(Files.readAllBytes(path), StandardCharsets.UTF_8));
        } else {
            System.out.println("BoundaryTest: no " + path + ", so its sentences are not compared");
        }
        terms();
        promises();
        notPromised();
        endSentence();
        if (document != null) {
            named = "BoundaryTest";
            for (String left : document.left()) {
                fault("no test names what '|' does not stand for in " + left);
            }
        }
        System.out.println("BoundaryTest: " + checked + " answers looked at, " + wrong + " wrong");
        if (wrong != 0) {
            System.exit(1);
        }
    }
}
