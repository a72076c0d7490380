import java.util.ArrayList;
import java.util.Arrays;
import java.util.HashSet;
import java.util.List;
import java.util.Set;

/**
 * The terms of the document as they are told, by trying all there is: all rows of steps, all ways without a
 * circle, all sets of states. That takes long, so the worlds have eight states at most. OracleTest comes to the
 * same answers by growing numbers; here nothing grows, so that both can't be wrong in the same way.
 */
public final class DefinitionTest {
    private static final int NONE = -1;
    private static final int[][] SIZES = {{2}, {3}, {4}, {2, 2}, {3, 2}, {2, 3}, {4, 2}, {2, 4}, {2, 2, 2}};

    private static long checked = 0;
    private static int wrong = 0;
    private static long dice = 1;

    private final WinProofs x = new WinProofs();
    private final List<String> calls = new ArrayList<>();
    private final int[] sizes;
    private int states = 1;
    private int start = 0;
    private boolean[] aim;
    private boolean[] inCover;
    /** By state, act and outcome; null where the act can't be done. */
    private int[][][] to;

    private DefinitionTest(int[] sizes) {
        this.sizes = sizes;
    }

    private static int below(int bound) {
        dice = dice * 6364136223846793005L + 1442695040888963407L;
        return (int) ((dice >>> 33) % bound);
    }

    private void due(String call, long got, long want) {
        checked++;
        if (got != want) {
            wrong++;
            if (wrong < 10) {
                System.out.println(calls + ": " + call + " answered " + got + ", due is " + want);
            }
        }
    }

    // ---------------------------------------------------------------- a world is drawn

    private int value(int state, int t) {
        int rest = state;
        for (int i = 0; i < t; i++) {
            rest /= sizes[i];
        }
        return rest % sizes[t];
    }

    private boolean holds(int[] condition, int state) {
        int is = value(state, condition[0]);
        int v = condition[2];
        return switch (condition[1]) {
            case 0 -> is == v;
            case 1 -> is != v;
            case 2 -> is == value(state, v);
            default -> is < v;
        };
    }

    private int[] drawCondition() {
        int t = below(sizes.length);
        int op = below(4);
        return new int[] {t, op, op == 2 ? below(sizes.length) : below(sizes[t])};
    }

    private void drawAct(int a) {
        x.act();
        calls.add("act()");
        for (int n = below(3); n > 0; n--) {
            int[] c = drawCondition();
            x.when(a, c[0], c[1], c[2]);
            calls.add("when(" + a + ", " + c[0] + ", " + c[1] + ", " + c[2] + ")");
        }
        int outcomes = below(3) == 0 ? 1 : 2;
        if (outcomes == 2) {
            x.outcome(a);
            calls.add("outcome(" + a + ")");
        }
        for (int k = 0; k < outcomes; k++) {
            for (int n = below(3); n > 0; n--) {
                int t = below(sizes.length);
                int op = below(3);
                int v = op == 1 ? below(sizes.length) : below(sizes[t]);
                x.effect(a, k, t, op, v);
                calls.add("effect(" + a + ", " + k + ", " + t + ", " + op + ", " + v + ")");
            }
        }
    }

    private boolean[] drawAim() {
        boolean[] in = new boolean[states];
        Arrays.fill(in, true);
        for (int n = below(4); n > 0; n--) {
            int[] c = drawCondition();
            x.aim(c[0], c[1], c[2]);
            calls.add("aim(" + c[0] + ", " + c[1] + ", " + c[2] + ")");
            for (int s = 0; s < states; s++) {
                in[s] &= holds(c, s);
            }
        }
        return in;
    }

    private boolean[] drawCover() {
        boolean[] in = new boolean[states];
        int parts = below(4);
        for (int p = 0; p < parts; p++) {
            x.cover();
            calls.add("cover()");
            boolean[] inPart = new boolean[states];
            Arrays.fill(inPart, true);
            for (int n = below(3); n > 0; n--) {
                int[] c = drawCondition();
                x.part(p, c[0], c[1], c[2]);
                calls.add("part(" + p + ", " + c[0] + ", " + c[1] + ", " + c[2] + ")");
                for (int s = 0; s < states; s++) {
                    inPart[s] &= holds(c, s);
                }
            }
            for (int s = 0; s < states; s++) {
                in[s] |= inPart[s];
            }
        }
        return in;
    }

    private void draw() {
        for (int size : sizes) {
            x.thing(size);
            calls.add("thing(" + size + ")");
            states *= size;
        }
        int acts = below(4);
        for (int a = 0; a < acts; a++) {
            drawAct(a);
        }
        aim = drawAim();
        inCover = drawCover();
        start = below(states);
        x.start(start);
        calls.add("start(" + start + ")");
        to = new int[states][acts][];
        for (int s = 0; s < states; s++) {
            for (int a = 0; a < acts; a++) {
                to[s][a] = readAct(s, a);
            }
        }
    }

    /** Where an act leads is told by promise 12, which other tests look at. */
    private int[] readAct(int s, int a) {
        if (x.leads(s, a, 0) == NONE) {
            return null;
        }
        int outcomes = x.leads(s, a, 1) == WinProofs.BAD ? 1 : 2;
        int[] behind = new int[outcomes];
        for (int k = 0; k < outcomes; k++) {
            behind[k] = x.leads(s, a, k);
        }
        return behind;
    }

    // ---------------------------------------------------------------- rows of steps

    /** All rows of so many steps that end so, first by act, then by outcome: (act, outcome, state) a step. */
    private void rows(int state, int left, boolean[] ends, List<int[]> row, List<List<int[]>> all) {
        if (left == 0) {
            if (ends[state]) {
                all.add(new ArrayList<>(row));
            }
            return;
        }
        for (int a = 0; a < to[state].length; a++) {
            for (int k = 0; to[state][a] != null && k < to[state][a].length; k++) {
                row.add(new int[] {a, k, to[state][a][k]});
                rows(to[state][a][k], left - 1, ends, row, all);
                row.remove(row.size() - 1);
            }
        }
    }

    /** Those with as few steps as can be to one of these states: none if there are none. */
    private List<List<int[]>> shortest(int from, boolean[] ends) {
        List<List<int[]>> found = new ArrayList<>();
        for (int length = 0; length < states && found.isEmpty(); length++) {
            rows(from, length, ends, new ArrayList<>(), found);
        }
        return found;
    }

    private int fewest(int from, boolean[] ends) {
        List<List<int[]>> found = shortest(from, ends);
        return found.isEmpty() ? NONE : found.get(0).size();
    }

    private boolean[] only(int state) {
        boolean[] marks = new boolean[states];
        marks[state] = true;
        return marks;
    }

    private void lookAtReached() {
        int reached = 0;
        int dead = 0;
        int[] seen = new int[sizes.length];
        for (int s = 0; s < states; s++) {
            int steps = fewest(start, only(s));
            due("of(" + s + ", 0)", x.of(s, 0), steps);
            if (steps != NONE) {
                reached++;
                dead += fewest(s, aim) == NONE ? 1 : 0;
                for (int t = 0; t < sizes.length; t++) {
                    seen[t] |= 1 << value(s, t);
                }
            }
        }
        due("count(3)", x.count(3), reached);
        due("count(8)", x.count(8), dead);
        for (int t = 0; t < sizes.length; t++) {
            due("values(" + t + ")", x.values(t), seen[t]);
        }
    }

    private void lookAtPlays() {
        List<List<int[]>> all = shortest(start, aim);
        due("plays()", x.plays(), all.size());
        List<int[]> first = all.isEmpty() ? List.of() : all.get(0);
        for (int i = 0; i < first.size(); i++) {
            for (int what = 0; what < 3; what++) {
                due("play(" + i + ", " + what + ")", x.play(i, what), first.get(i)[what]);
            }
        }
        due("play(" + first.size() + ", 0)", x.play(first.size(), 0), NONE);
    }

    // ---------------------------------------------------------------- MAY, MUST, FAIR

    private boolean mustWithin(int state, int d) {
        if (aim[state]) {
            return true;
        }
        for (int a = 0; d > 0 && a < to[state].length; a++) {
            if (mustBehind(state, a, d)) {
                return true;
            }
        }
        return false;
    }

    private boolean mustBehind(int state, int a, int d) {
        boolean all = to[state][a] != null;
        for (int k = 0; all && k < to[state][a].length; k++) {
            all = mustWithin(to[state][a][k], d - 1);
        }
        return all;
    }

    private int leastMust(int state) {
        for (int d = 0; d <= states; d++) {
            if (mustWithin(state, d)) {
                return d;
            }
        }
        return NONE;
    }

    private static boolean isIn(int set, int state) {
        return (set >> state & 1) != 0;
    }

    private boolean leadsInto(int state, int a, int set, int[] levels, int l) {
        if (to[state][a] == null) {
            return false;
        }
        boolean comesNearer = false;
        for (int behind : to[state][a]) {
            if (!isIn(set, behind)) {
                return false;
            }
            comesNearer |= levels[behind] != NONE && levels[behind] < l;
        }
        return comesNearer;
    }

    /** The levels that states of a set have, if only what stays in it counts. */
    private int[] levelsIn(int set) {
        int[] levels = new int[states];
        for (int s = 0; s < states; s++) {
            levels[s] = isIn(set, s) && aim[s] ? 0 : NONE;
        }
        for (int l = 1; l <= states; l++) {
            for (int s = 0; s < states; s++) {
                for (int a = 0; a < to[s].length; a++) {
                    if (isIn(set, s) && levels[s] == NONE && leadsInto(s, a, set, levels, l)) {
                        levels[s] = l;
                    }
                }
            }
        }
        return levels;
    }

    private boolean allHaveLevels(int set) {
        int[] levels = levelsIn(set);
        for (int s = 0; s < states; s++) {
            if (isIn(set, s) && levels[s] == NONE) {
                return false;
            }
        }
        return true;
    }

    /** Of all sets whose states all have levels the greatest: it holds all the others. */
    private int greatestSet() {
        int greatest = 0;
        for (int set = 0; set < 1 << states; set++) {
            greatest |= allHaveLevels(set) ? set : 0;
        }
        if (!allHaveLevels(greatest)) {
            throw new IllegalStateException("the document's greatest set is none");
        }
        return greatest;
    }

    private void lookAtNumbers() {
        int set = greatestSet();
        int[] levels = levelsIn(set);
        int[] many = new int[4];
        for (int s = 0; s < states; s++) {
            int[] numbers = {0, fewest(s, aim), leastMust(s), levels[s]};
            for (int what = 1; what <= 3; what++) {
                due("of(" + s + ", " + what + ")", x.of(s, what), numbers[what]);
                many[what] += numbers[what] == NONE ? 0 : 1;
                due("best(" + s + ", " + what + ")", x.best(s, what), leastAct(s, what, numbers[what], set, levels));
            }
        }
        for (int what = 1; what <= 3; what++) {
            due("count(" + (4 + what) + ")", x.count(4 + what), many[what]);
        }
    }

    private int leastAct(int s, int what, int number, int set, int[] levels) {
        for (int a = 0; number > 0 && a < to[s].length; a++) {
            boolean gives = switch (what) {
                case 1 -> mayBehind(s, a) == number - 1;
                case 2 -> mustBehind(s, a, number);
                default -> leadsInto(s, a, set, levels, number);
            };
            if (gives) {
                return a;
            }
        }
        return NONE;
    }

    private int mayBehind(int s, int a) {
        int least = NONE;
        for (int k = 0; to[s][a] != null && k < to[s][a].length; k++) {
            int may = fewest(to[s][a][k], aim);
            least = may != NONE && (least == NONE || may < least) ? may : least;
        }
        return least;
    }

    // ---------------------------------------------------------------- what is needed

    /** A way without a circle: its states and its acts, as bits. */
    private void ways(int state, int passed, int acts, Set<List<Integer>> all) {
        int now = passed | 1 << state;
        if (aim[state]) {
            all.add(List.of(now, acts));
        }
        for (int a = 0; a < to[state].length; a++) {
            for (int k = 0; to[state][a] != null && k < to[state][a].length; k++) {
                if (!isIn(now, to[state][a][k])) {
                    ways(to[state][a][k], now, acts | 1 << a, all);
                }
            }
        }
    }

    private void lookAtNeeds() {
        Set<List<Integer>> all = new HashSet<>();
        ways(start, 0, 0, all);
        int needed = (1 << to[0].length) - 1;
        for (List<Integer> way : all) {
            needed &= way.get(1);
        }
        due("needed()", x.needed(), needed);
        for (int t = 0; t < sizes.length; t++) {
            for (int v = 0; v < sizes[t]; v++) {
                due("fact(" + t + ", " + v + ")", x.fact(t, v), onEachWay(all, t, v) ? 1 : 0);
            }
        }
    }

    private boolean onEachWay(Set<List<Integer>> all, int t, int v) {
        for (List<Integer> way : all) {
            boolean is = false;
            for (int s = 0; s < states; s++) {
                is |= isIn(way.get(0), s) && value(s, t) == v;
            }
            if (!is) {
                return false;
            }
        }
        return true;
    }

    // ---------------------------------------------------------------- covers, and what is alike

    private void lookAtFlaw() {
        int[] told = {0, NONE, NONE, NONE};
        for (int s = states - 1; s >= 0; s--) {
            told = inCover[s] && aim[s] ? new int[] {3, s, NONE, NONE} : told;
        }
        for (int s = states - 1; s >= 0; s--) {
            for (int a = to[s].length - 1; a >= 0; a--) {
                for (int k = to[s][a] == null ? -1 : to[s][a].length - 1; k >= 0; k--) {
                    told = inCover[s] && !inCover[to[s][a][k]] ? new int[] {2, s, a, k} : told;
                }
            }
        }
        told = inCover[start] ? told : new int[] {1, NONE, NONE, NONE};
        for (int what = 0; what < 4; what++) {
            due("flaw(" + what + ")", x.flaw(what), told[what]);
        }
    }

    /** Whether something behind the one is parted from all that is behind the other. */
    private static boolean hasOther(int[] ones, int[] others, boolean[][] parted) {
        for (int one : ones) {
            boolean like = false;
            for (int other : others) {
                like |= !parted[one][other];
            }
            if (!like) {
                return true;
            }
        }
        return false;
    }

    private boolean actsPart(int s, int r, boolean[][] parted) {
        for (int a = 0; a < to[s].length; a++) {
            if ((to[s][a] == null) != (to[r][a] == null)) {
                return true;
            }
            if (to[s][a] != null && (hasOther(to[s][a], to[r][a], parted) || hasOther(to[r][a], to[s][a], parted))) {
                return true;
            }
        }
        return false;
    }

    private boolean[][] allParted() {
        boolean[][] parted = new boolean[states][states];
        for (int round = 0; round <= states * states; round++) {
            for (int s = 0; s < states; s++) {
                for (int r = 0; r < states; r++) {
                    parted[s][r] |= aim[s] != aim[r] || actsPart(s, r, parted);
                }
            }
        }
        return parted;
    }

    private void lookAtClasses() {
        boolean[][] parted = allParted();
        int classes = 0;
        for (int s = 0; s < states; s++) {
            int least = 0;
            while (parted[s][least]) {
                least++;
            }
            classes += least == s ? 1 : 0;
            due("of(" + s + ", 4)", x.of(s, 4), least);
        }
        due("count(9)", x.count(9), classes);
    }

    public static void main(String[] args) {
        int times = args.length > 0 ? Integer.parseInt(args[0]) : 1;
        for (int run = 0; run < 3000 * times; run++) {
            DefinitionTest world = new DefinitionTest(SIZES[run % SIZES.length]);
            world.draw();
            world.lookAtReached();
            world.lookAtPlays();
            world.lookAtNumbers();
            world.lookAtNeeds();
            world.lookAtFlaw();
            world.lookAtClasses();
        }
        System.out.println("DefinitionTest: " + checked + " answers looked at, " + wrong + " wrong");
        if (wrong != 0) {
            System.exit(1);
        }
    }
}
