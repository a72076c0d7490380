import java.math.BigInteger;
import java.util.ArrayList;
import java.util.Arrays;
import java.util.HashMap;
import java.util.HashSet;
import java.util.List;
import java.util.Map;
import java.util.Set;
import java.util.TreeSet;

/** Makes the same calls of WinProofs and of a slow, plain reading of the document, and compares all answers. */
public final class OracleTest {
    private static final int NONE = -1, BAD = -2, FULL = -3;

    /** The document, word by word, without any thought of speed. */
    static final class Oracle {
        record Clause(int t, int op, int v) { }

        static final class Act {
            final List<Clause> when = new ArrayList<>();
            final List<List<Clause>> outcomes = new ArrayList<>();
        }

        final List<Integer> sizes = new ArrayList<>();
        final List<Act> acts = new ArrayList<>();
        final List<Clause> goal = new ArrayList<>();
        final List<List<Clause>> parts = new ArrayList<>();
        int start = 0;
        /** Kept only until a thing or an act changes. */
        int[][][] known = null;

        int states() {
            int all = 1;
            for (int size : sizes) {
                all *= size;
            }
            return all;
        }

        int[] decode(int state) {
            int[] values = new int[sizes.size()];
            for (int t = 0; t < values.length; t++) {
                values[t] = state % sizes.get(t);
                state /= sizes.get(t);
            }
            return values;
        }

        int encode(int[] values) {
            int state = 0;
            for (int t = values.length - 1; t >= 0; t--) {
                state = state * sizes.get(t) + values[t];
            }
            return state;
        }

        boolean isThing(int t) {
            return t >= 0 && t < sizes.size();
        }

        boolean isState(int s) {
            return s >= 0 && s < states();
        }

        boolean isAct(int a) {
            return a >= 0 && a < acts.size();
        }

        boolean badCondition(int t, int op, int v) {
            if (!isThing(t)) {
                return true;
            }
            return switch (op) {
                case 0, 1, 3 -> v < 0 || v > 3;
                case 2 -> !isThing(v);
                default -> true;
            };
        }

        boolean all(List<Clause> clauses, int state) {
            int[] x = decode(state);
            for (Clause c : clauses) {
                boolean holds = switch (c.op) {
                    case 0 -> x[c.t] == c.v;
                    case 1 -> x[c.t] != c.v;
                    case 2 -> x[c.t] == x[c.v];
                    default -> x[c.t] < c.v;
                };
                if (!holds) {
                    return false;
                }
            }
            return true;
        }

        int step(int state, int a, int k) {
            int[] was = decode(state);
            int[] is = was.clone();
            for (Clause c : acts.get(a).outcomes.get(k)) {
                int size = sizes.get(c.t);
                is[c.t] = switch (c.op) {
                    case 0 -> c.v;
                    case 1 -> was[c.v] % size;
                    default -> (was[c.t] + c.v) % size;
                };
            }
            return encode(is);
        }

        int[][][] edges() {
            if (known == null) {
                known = allEdges();
            }
            return known;
        }

        int[][][] allEdges() {
            int n = states();
            int[][][] to = new int[n][acts.size()][];
            for (int s = 0; s < n; s++) {
                for (int a = 0; a < acts.size(); a++) {
                    if (all(acts.get(a).when, s)) {
                        to[s][a] = new int[acts.get(a).outcomes.size()];
                        for (int k = 0; k < to[s][a].length; k++) {
                            to[s][a][k] = step(s, a, k);
                        }
                    }
                }
            }
            return to;
        }

        boolean[] inAim() {
            boolean[] in = new boolean[states()];
            for (int s = 0; s < in.length; s++) {
                in[s] = all(goal, s);
            }
            return in;
        }

        int[] fromStart() {
            int[][][] to = edges();
            int[] steps = new int[states()];
            Arrays.fill(steps, NONE);
            steps[start] = 0;
            boolean grew = true;
            for (int d = 0; grew; d++) {
                grew = false;
                for (int s = 0; s < steps.length; s++) {
                    if (steps[s] != d) {
                        continue;
                    }
                    for (int[] outs : to[s]) {
                        for (int x : outs == null ? new int[0] : outs) {
                            if (steps[x] == NONE) {
                                steps[x] = d + 1;
                                grew = true;
                            }
                        }
                    }
                }
            }
            return steps;
        }

        /** MAY and MUST by their growing numbers. */
        int[] numbers(boolean must) {
            int[][][] to = edges();
            boolean[] aim = inAim();
            int[] d = new int[aim.length];
            for (int s = 0; s < d.length; s++) {
                d[s] = aim[s] ? 0 : NONE;
            }
            boolean grew = true;
            for (int level = 1; grew; level++) {
                grew = false;
                for (int s = 0; s < d.length; s++) {
                    if (d[s] != NONE) {
                        continue;
                    }
                    for (int[] outs : to[s]) {
                        if (outs == null) {
                            continue;
                        }
                        int good = 0;
                        for (int x : outs) {
                            good += d[x] != NONE && d[x] < level ? 1 : 0;
                        }
                        if (must ? good == outs.length : good > 0) {
                            d[s] = level;
                            grew = true;
                        }
                    }
                }
            }
            return d;
        }

        int[] fair() {
            int[][][] to = edges();
            boolean[] aim = inAim();
            boolean[] w = new boolean[aim.length];
            Arrays.fill(w, true);
            while (true) {
                int[] level = new int[aim.length];
                for (int s = 0; s < level.length; s++) {
                    level[s] = aim[s] ? 0 : NONE;
                }
                boolean grew = true;
                for (int l = 1; grew; l++) {
                    grew = false;
                    for (int s = 0; s < level.length; s++) {
                        if (level[s] != NONE || !w[s]) {
                            continue;
                        }
                        for (int[] outs : to[s]) {
                            if (outs == null) {
                                continue;
                            }
                            boolean safe = true;
                            boolean near = false;
                            for (int x : outs) {
                                safe &= w[x];
                                near |= level[x] != NONE && level[x] < l;
                            }
                            if (safe && near) {
                                level[s] = l;
                                grew = true;
                            }
                        }
                    }
                }
                boolean same = true;
                for (int s = 0; s < w.length; s++) {
                    same &= w[s] == (level[s] != NONE);
                    w[s] = level[s] != NONE;
                }
                if (same) {
                    return level;
                }
            }
        }

        int[] classes() {
            int[][][] to = edges();
            boolean[] aim = inAim();
            int[] c = new int[aim.length];
            for (int s = 0; s < c.length; s++) {
                c[s] = aim[s] ? 1 : 0;
            }
            int many = 0;
            while (true) {
                Map<List<Object>, Integer> found = new HashMap<>();
                int[] next = new int[c.length];
                for (int s = 0; s < c.length; s++) {
                    List<Object> sign = new ArrayList<>();
                    sign.add(c[s]);
                    for (int[] outs : to[s]) {
                        Set<Integer> behind = new TreeSet<>();
                        for (int x : outs == null ? new int[0] : outs) {
                            behind.add(c[x]);
                        }
                        sign.add(behind);
                    }
                    next[s] = found.computeIfAbsent(sign, k -> found.size());
                }
                c = next;
                if (found.size() == many) {
                    return c;
                }
                many = found.size();
            }
        }

        /** Row d: how many rows of d steps lead from each state into THE AIM. */
        List<BigInteger[]> rowsToAim() {
            if (!canWin(NONE, NONE, NONE)) {
                return null;
            }
            int[][][] to = edges();
            boolean[] aim = inAim();
            List<BigInteger[]> rows = new ArrayList<>();
            for (int d = 0; d <= states(); d++) {
                BigInteger[] row = new BigInteger[aim.length];
                for (int s = 0; s < aim.length; s++) {
                    row[s] = d == 0 && aim[s] ? BigInteger.ONE : BigInteger.ZERO;
                    if (d > 0) {
                        for (int[] outs : to[s]) {
                            for (int x : outs == null ? new int[0] : outs) {
                                row[s] = row[s].add(rows.get(d - 1)[x]);
                            }
                        }
                    }
                }
                rows.add(row);
                if (row[start].signum() > 0) {
                    return rows;
                }
            }
            throw new IllegalStateException();
        }

        boolean canWin(int withoutAct, int t, int v) {
            int[][][] to = edges();
            boolean[] aim = inAim();
            Set<Integer> seen = new HashSet<>();
            List<Integer> todo = new ArrayList<>(List.of(start));
            while (!todo.isEmpty()) {
                int s = todo.remove(todo.size() - 1);
                if (t != NONE && decode(s)[t] == v || !seen.add(s)) {
                    continue;
                }
                if (aim[s]) {
                    return true;
                }
                for (int a = 0; a < acts.size(); a++) {
                    if (a != withoutAct && to[s][a] != null) {
                        for (int x : to[s][a]) {
                            todo.add(x);
                        }
                    }
                }
            }
            return false;
        }

        int[] judge() {
            boolean[] in = new boolean[states()];
            for (int s = 0; s < in.length; s++) {
                for (List<Clause> part : parts) {
                    in[s] |= all(part, s);
                }
            }
            if (!in[start]) {
                return new int[] {1, NONE, NONE, NONE};
            }
            int[][][] to = edges();
            for (int s = 0; s < in.length; s++) {
                for (int a = 0; in[s] && a < acts.size(); a++) {
                    for (int k = 0; to[s][a] != null && k < to[s][a].length; k++) {
                        if (!in[to[s][a][k]]) {
                            return new int[] {2, s, a, k};
                        }
                    }
                }
            }
            boolean[] aim = inAim();
            for (int s = 0; s < in.length; s++) {
                if (in[s] && aim[s]) {
                    return new int[] {3, s, NONE, NONE};
                }
            }
            return new int[] {0, NONE, NONE, NONE};
        }

        int clear() {
            int had = sizes.size();
            sizes.clear();
            acts.clear();
            goal.clear();
            parts.clear();
            start = 0;
            known = null;
            return had;
        }

        int thing(int size) {
            if (size < 2 || size > 4 || !acts.isEmpty() || !goal.isEmpty() || !parts.isEmpty()) {
                return BAD;
            }
            if (sizes.size() == 8 || states() * size > 4096) {
                return FULL;
            }
            sizes.add(size);
            known = null;
            return sizes.size() - 1;
        }

        int start(int state) {
            if (!isState(state)) {
                return BAD;
            }
            int was = start;
            start = state;
            return was;
        }

        int act() {
            if (acts.size() == 12) {
                return FULL;
            }
            acts.add(new Act());
            known = null;
            acts.get(acts.size() - 1).outcomes.add(new ArrayList<>());
            return acts.size() - 1;
        }

        int outcome(int a) {
            if (!isAct(a)) {
                return BAD;
            }
            if (acts.get(a).outcomes.size() == 3) {
                return FULL;
            }
            acts.get(a).outcomes.add(new ArrayList<>());
            known = null;
            return acts.get(a).outcomes.size() - 1;
        }

        int add(List<Clause> to, int t, int op, int v) {
            if (to.size() == 4) {
                return FULL;
            }
            to.add(new Clause(t, op, v));
            known = null;
            return to.size();
        }

        int when(int a, int t, int op, int v) {
            return !isAct(a) || badCondition(t, op, v) ? BAD : add(acts.get(a).when, t, op, v);
        }

        int effect(int a, int k, int t, int op, int v) {
            if (!isAct(a) || k < 0 || k >= acts.get(a).outcomes.size() || !isThing(t)) {
                return BAD;
            }
            boolean good = switch (op) {
                case 0 -> v >= 0 && v < sizes.get(t);
                case 1 -> isThing(v);
                case 2 -> v >= 0 && v <= 3;
                default -> false;
            };
            return good ? add(acts.get(a).outcomes.get(k), t, op, v) : BAD;
        }

        int aim(int t, int op, int v) {
            return badCondition(t, op, v) ? BAD : add(goal, t, op, v);
        }

        int aimless() {
            int had = goal.size();
            goal.clear();
            return had;
        }

        int unact() {
            if (acts.isEmpty()) {
                return NONE;
            }
            acts.remove(acts.size() - 1);
            known = null;
            return acts.size();
        }

        int leads(int state, int a, int k) {
            if (!isState(state) || !isAct(a) || k < 0 || k >= acts.get(a).outcomes.size()) {
                return BAD;
            }
            return all(acts.get(a).when, state) ? step(state, a, k) : NONE;
        }

        int having(int[] numbers) {
            return (int) Arrays.stream(numbers).filter(x -> x != NONE).count();
        }

        int count(int what) {
            switch (what) {
                case 0: return states();
                case 1: return sizes.size();
                case 2: return acts.size();
                case 3: return having(fromStart());
                case 4: {
                    int many = 0;
                    for (boolean in : inAim()) {
                        many += in ? 1 : 0;
                    }
                    return many;
                }
                case 5: return having(numbers(false));
                case 6: return having(numbers(true));
                case 7: return having(fair());
                case 8: {
                    int[] steps = fromStart();
                    int[] may = numbers(false);
                    int many = 0;
                    for (int s = 0; s < steps.length; s++) {
                        many += steps[s] != NONE && may[s] == NONE ? 1 : 0;
                    }
                    return many;
                }
                case 9: return (int) Arrays.stream(classes()).distinct().count();
                case 10: return parts.size();
                default: return BAD;
            }
        }

        int of(int state, int what) {
            if (!isState(state)) {
                return BAD;
            }
            switch (what) {
                case 0: return fromStart()[state];
                case 1: return numbers(false)[state];
                case 2: return numbers(true)[state];
                case 3: return fair()[state];
                case 4: {
                    int[] c = classes();
                    for (int s = 0; s < c.length; s++) {
                        if (c[s] == c[state]) {
                            return s;
                        }
                    }
                    throw new IllegalStateException();
                }
                default: return BAD;
            }
        }

        int best(int state, int what) {
            if (!isState(state) || what < 1 || what > 3) {
                return BAD;
            }
            int[] n = what == 3 ? fair() : numbers(what == 2);
            if (n[state] <= 0) {
                return NONE;
            }
            int[][][] to = edges();
            for (int a = 0; a < acts.size(); a++) {
                if (to[state][a] == null) {
                    continue;
                }
                int least = Integer.MAX_VALUE;
                int most = 0;
                boolean safe = true;
                for (int x : to[state][a]) {
                    safe &= n[x] != NONE;
                    if (n[x] != NONE) {
                        least = Math.min(least, n[x] + 1);
                        most = Math.max(most, n[x] + 1);
                    }
                }
                int gives = what == 2 ? most : least;
                if ((safe || what == 1) && gives == n[state]) {
                    return a;
                }
            }
            throw new IllegalStateException();
        }

        int play(int i, int what) {
            if (what < 0 || what > 2) {
                return BAD;
            }
            List<BigInteger[]> rows = rowsToAim();
            if (rows == null || i < 0 || i >= rows.size() - 1) {
                return NONE;
            }
            int[][][] to = edges();
            int s = start;
            for (int left = rows.size() - 2, n = 0; left >= 0; left--, n++) {
                int[] first = null;
                for (int a = 0; a < acts.size() && first == null; a++) {
                    for (int k = 0; to[s][a] != null && k < to[s][a].length && first == null; k++) {
                        if (rows.get(left)[to[s][a][k]].signum() > 0) {
                            first = new int[] {a, k, to[s][a][k]};
                        }
                    }
                }
                if (n == i) {
                    return first[what];
                }
                s = first[2];
            }
            throw new IllegalStateException();
        }

        long plays() {
            List<BigInteger[]> rows = rowsToAim();
            return rows == null ? 0 : rows.get(rows.size() - 1)[start].longValue();
        }

        int needed() {
            int mask = 0;
            for (int a = 0; a < acts.size(); a++) {
                mask |= canWin(a, NONE, NONE) ? 0 : 1 << a;
            }
            return mask;
        }

        int fact(int t, int v) {
            if (!isThing(t) || v < 0 || v >= sizes.get(t)) {
                return BAD;
            }
            return canWin(NONE, t, v) ? 0 : 1;
        }

        int values(int t) {
            if (!isThing(t)) {
                return BAD;
            }
            int[] steps = fromStart();
            int mask = 0;
            for (int s = 0; s < steps.length; s++) {
                mask |= steps[s] == NONE ? 0 : 1 << decode(s)[t];
            }
            return mask;
        }

        int cover() {
            if (parts.size() == 6) {
                return FULL;
            }
            parts.add(new ArrayList<>());
            return parts.size() - 1;
        }

        int part(int p, int t, int op, int v) {
            return p < 0 || p >= parts.size() || badCondition(t, op, v) ? BAD : add(parts.get(p), t, op, v);
        }

        int bare() {
            int had = parts.size();
            parts.clear();
            return had;
        }

        int flaw(int what) {
            return what < 0 || what > 3 ? BAD : judge()[what];
        }
    }

    /** A fixed row of numbers, so that each run of the test is the same. */
    static final class Dice {
        private long state;

        Dice(long seed) {
            state = seed * 0x9E3779B97F4A7C15L + 1;
        }

        int below(int bound) {
            state = state * 6364136223846793005L + 1442695040888963407L;
            return (int) ((state >>> 33) % bound);
        }

        boolean oneIn(int n) {
            return below(n) == 0;
        }
    }

    private static final int[] ODD = {-1, -2, 12, 100, 4096, Integer.MAX_VALUE, Integer.MIN_VALUE, 65536, 1 << 30};

    private final Dice dice;
    private final long run;
    private WinProofs x = new WinProofs();
    private final Oracle y = new Oracle();
    private final List<String> calls = new ArrayList<>();
    private static int wrong = 0;
    private static long compared = 0;

    OracleTest(long run) {
        this.run = run;
        this.dice = new Dice(run);
    }

    private void due(String call, long got, long want) {
        compared++;
        calls.add(call + " -> " + got);
        if (got != want) {
            wrong++;
            if (wrong < 10) {
                System.out.println("run " + run + ": " + calls + " due is " + want);
            }
        }
    }

    /** A number below the bound, rarely at the bound or far out of it. */
    private int pick(int bound) {
        if (dice.oneIn(60)) {
            return ODD[dice.below(ODD.length)];
        }
        if (dice.oneIn(40)) {
            return bound;
        }
        return bound > 0 ? dice.below(bound) : dice.below(3);
    }

    private int things() {
        return y.sizes.size();
    }

    private int pickThing() {
        return pick(things());
    }

    private int pickConditionValue(int op, int t) {
        if (op == 2) {
            return pickThing();
        }
        return y.isThing(t) && !dice.oneIn(8) ? pick(y.sizes.get(t)) : pick(4);
    }

    private int pickOutcome(int a) {
        return y.isAct(a) ? pick(y.acts.get(a).outcomes.size()) : pick(3);
    }

    private void callThing() {
        int size = dice.oneIn(25) ? pick(7) : 2 + dice.below(3);
        due("thing " + size, x.thing(size), y.thing(size));
    }

    private void callStart() {
        int s = pick(y.states());
        due("start " + s, x.start(s), y.start(s));
    }

    private void callAct() {
        due("act", x.act(), y.act());
    }

    private void callOutcome() {
        int a = pick(y.acts.size());
        due("outcome " + a, x.outcome(a), y.outcome(a));
    }

    private void callWhen() {
        int a = pick(y.acts.size());
        int t = pickThing();
        int op = pick(4);
        int v = pickConditionValue(op, t);
        due("when " + a + " " + t + " " + op + " " + v, x.when(a, t, op, v), y.when(a, t, op, v));
    }

    private void callEffect() {
        int a = pick(y.acts.size());
        int k = pickOutcome(a);
        int t = pickThing();
        int op = pick(3);
        int v = op == 1 ? pickThing() : op == 0 && y.isThing(t) ? pick(y.sizes.get(t)) : pick(4);
        due("effect " + a + " " + k + " " + t + " " + op + " " + v,
                x.effect(a, k, t, op, v), y.effect(a, k, t, op, v));
    }

    private void callAim() {
        int t = pickThing();
        int op = pick(4);
        int v = pickConditionValue(op, t);
        due("aim " + t + " " + op + " " + v, x.aim(t, op, v), y.aim(t, op, v));
    }

    private void callPart() {
        int p = pick(y.parts.size());
        int t = pickThing();
        int op = pick(4);
        int v = pickConditionValue(op, t);
        due("part " + p + " " + t + " " + op + " " + v, x.part(p, t, op, v), y.part(p, t, op, v));
    }

    private void change() {
        switch (dice.below(14)) {
            case 0 -> callThing();
            case 1 -> callStart();
            case 2 -> callAct();
            case 3 -> callOutcome();
            case 4, 5 -> callWhen();
            case 6, 7, 8 -> callEffect();
            case 9 -> callAim();
            case 10 -> due("cover", x.cover(), y.cover());
            case 11, 12 -> callPart();
            default -> changeBack();
        }
    }

    private void changeBack() {
        switch (dice.below(12)) {
            case 0 -> due("clear", x.clear(), y.clear());
            case 1 -> due("new", (x = new WinProofs()).count(1), y.clear() * 0L);
            case 2, 3, 4, 5 -> due("unact", x.unact(), y.unact());
            case 6, 7, 8 -> due("bare", x.bare(), y.bare());
            default -> due("aimless", x.aimless(), y.aimless());
        }
    }

    private void ask() {
        int s = pick(y.states());
        int a = pick(y.acts.size());
        int k = pickOutcome(a);
        int t = pickThing();
        int v = pick(4);
        int w = pick(5);
        switch (dice.below(11)) {
            case 0 -> due("leads " + s + " " + a + " " + k, x.leads(s, a, k), y.leads(s, a, k));
            case 1, 2 -> due("of " + s + " " + w, x.of(s, w), y.of(s, w));
            case 3 -> due("best " + s + " " + w, x.best(s, w), y.best(s, w));
            case 4 -> due("play " + v + " " + w, x.play(v, w), y.play(v, w));
            case 5 -> due("plays", x.plays(), y.plays());
            case 6 -> due("needed", x.needed(), y.needed());
            case 7 -> due("fact " + t + " " + v, x.fact(t, v), y.fact(t, v));
            case 8 -> due("values " + t, x.values(t), y.values(t));
            case 9 -> due("flaw " + w, x.flaw(w), y.flaw(w));
            default -> {
                int what = pick(11);
                due("count " + what, x.count(what), y.count(what));
            }
        }
    }

    private void buildAct() {
        callAct();
        int a = y.acts.size() - 1;
        for (int j = dice.below(3); j > 0; j--) {
            due("outcome " + a, x.outcome(a), y.outcome(a));
        }
        for (int j = dice.below(3); j > 0 && things() > 0; j--) {
            int t = dice.below(things());
            int op = dice.oneIn(3) ? dice.below(4) : dice.below(2);
            int v = op == 2 ? dice.below(things()) : dice.below(y.sizes.get(t));
            due("when " + a + " " + t + " " + op + " " + v, x.when(a, t, op, v), y.when(a, t, op, v));
        }
        for (int k = 0; k < y.acts.get(a).outcomes.size(); k++) {
            for (int j = dice.below(4); j > 0 && things() > 0; j--) {
                int t = dice.below(things());
                int op = dice.oneIn(2) ? 2 : dice.below(3);
                int v = op == 1 ? dice.below(things()) : dice.below(y.sizes.get(t));
                due("effect " + a + " " + k + " " + t + " " + op + " " + v,
                        x.effect(a, k, t, op, v), y.effect(a, k, t, op, v));
            }
        }
    }

    private void build(int thingCount, int actCount) {
        for (int i = 0; i < thingCount; i++) {
            callThing();
        }
        for (int i = 0; i < actCount; i++) {
            buildAct();
        }
        for (int t = 0; t < Math.min(things(), 1 + dice.below(4)); t++) {
            int v = dice.below(y.sizes.get(t));
            due("aim " + t + " 0 " + v, x.aim(t, 0, v), y.aim(t, 0, v));
        }
        for (int j = dice.below(4); j > 0; j--) {
            due("cover", x.cover(), y.cover());
            callPart();
        }
        callStart();
    }

    /** Everything there is to ask, with the slow rows made once. */
    private void askAll() {
        int n = y.states();
        int[][] rows = {y.fromStart(), y.numbers(false), y.numbers(true), y.fair(), y.classes()};
        Map<Integer, Integer> least = new HashMap<>();
        for (int s = 0; s < n; s++) {
            for (int what = 0; what < 4; what++) {
                due("of " + s + " " + what, x.of(s, what), rows[what][s]);
            }
            least.putIfAbsent(rows[4][s], s);
            due("of " + s + " 4", x.of(s, 4), least.get(rows[4][s]));
        }
        for (int j = 0; j < 20; j++) {
            int s = dice.below(n);
            int what = 1 + dice.below(3);
            due("best " + s + " " + what, x.best(s, what), y.best(s, what));
        }
        for (int what = -1; what <= 11; what++) {
            due("count " + what, x.count(what), y.count(what));
        }
        due("plays", x.plays(), y.plays());
        due("needed", x.needed(), y.needed());
        for (int t = -1; t <= things(); t++) {
            due("values " + t, x.values(t), y.values(t));
            for (int v = -1; v <= 4; v++) {
                due("fact " + t + " " + v, x.fact(t, v), y.fact(t, v));
            }
        }
        for (int i = -1; i < 5; i++) {
            for (int what = -1; what <= 3; what++) {
                due("play " + i + " " + what, x.play(i, what), y.play(i, what));
            }
        }
        for (int what = -1; what <= 4; what++) {
            due("flaw " + what, x.flaw(what), y.flaw(what));
        }
    }

    private void mixed(int length) {
        build(dice.below(5), dice.below(6));
        for (int j = 0; j < length; j++) {
            if (dice.oneIn(3)) {
                change();
            } else {
                ask();
            }
        }
    }

    public static void main(String[] args) {
        int times = args.length > 0 ? Integer.parseInt(args[0]) : 1;
        for (int run = 0; run < 1500 * times; run++) {
            new OracleTest(run).mixed(120);
        }
        for (int run = 0; run < 1500 * times; run++) {
            OracleTest test = new OracleTest(100000 + run);
            test.build(1 + test.dice.below(4), 1 + test.dice.below(8));
            test.askAll();
        }
        for (int run = 0; run < 12 * times; run++) {
            OracleTest test = new OracleTest(500000 + run);
            test.build(6 + test.dice.below(3), 3 + test.dice.below(9));
            test.askAll();
        }
        System.out.println("OracleTest: " + compared + " answers compared, " + wrong + " wrong");
        if (wrong != 0) {
            System.exit(1);
        }
    }
}
