import java.util.Arrays;

/** Small worlds that may be won. ../shared/DOC.md tells what each call answers. */
public final class WinProofs {
    public static final int NONE = -1, BAD = -2, FULL = -3;

    private static final int MOST_THINGS = 8;
    private static final int MOST_STATES = 4096;
    private static final int MOST_ACTS = 12;
    private static final int MOST_OUTCOMES = 3;
    private static final int MOST_CLAUSES = 4;
    private static final int MOST_PARTS = 6;
    private static final int LEAST_SIZE = 2;
    private static final int MOST_SIZE = 4;
    private static final int MOST_EDGES = MOST_STATES * MOST_ACTS * MOST_OUTCOMES;

    /** Far above what the splitting of 4,096 states can need. */
    private static final int MOST_TURNS = 8000000;

    private static final int IS = 0, IS_NOT = 1, IS_AS = 2, IS_LESS = 3;
    private static final int BECOMES = 0, TAKES = 1, GROWS = 2;
    private static final int MAY = 1, MUST = 2, FAIR = 3;

    private static final int STATE_BITS = 12;
    private static final int ACT_SHIFT = 14;
    private static final int SET_BITS = 37;
    private static final long MIX = 0x9E3779B97F4A7C15L;

    private final World world = new World();
    private final Clauses goal = new Clauses();
    private final Cover shield = new Cover();
    private final Changes changes = new Changes();
    private final Reach reach = new Reach();
    private final Wins wins = new Wins();
    private final Kinds kinds = new Kinds();
    private final Search search = new Search();
    private int origin = 0;
    private int neededActs = 0;
    private long neededMade = 0;

    public WinProofs() {
    }

    public int clear() {
        int had = world.things;
        world.forget();
        goal.size = 0;
        shield.size = 0;
        origin = 0;
        changes.inWorld();
        return had;
    }

    public int thing(int size) {
        if (size < LEAST_SIZE || size > MOST_SIZE) {
            return BAD;
        }
        if (world.actCount > 0 || goal.size > 0 || shield.size > 0) {
            return BAD;
        }
        int made = world.addThing(size);
        if (made != FULL) {
            changes.inWorld();
        }
        return made;
    }

    public int start(int state) {
        if (!world.isState(state)) {
            return BAD;
        }
        int was = origin;
        if (state != was) {
            origin = state;
            changes.inStart();
        }
        return was;
    }

    public int act() {
        int made = world.addAct();
        if (made != FULL) {
            changes.inWorld();
        }
        return made;
    }

    public int outcome(int a) {
        if (!world.isAct(a)) {
            return BAD;
        }
        int made = world.acts[a].addOutcome();
        noteActChange(a, made);
        return made;
    }

    public int when(int a, int t, int op, int v) {
        if (!world.isAct(a) || !world.isCondition(t, op, v)) {
            return BAD;
        }
        int many = world.acts[a].conditions.add(t, op, v);
        noteActChange(a, many);
        return many;
    }

    public int effect(int a, int k, int t, int op, int v) {
        if (!world.isOutcome(a, k) || !world.isEffect(t, op, v)) {
            return BAD;
        }
        int many = world.acts[a].outcomes[k].effects.add(t, op, v);
        noteActChange(a, many);
        return many;
    }

    public int aim(int t, int op, int v) {
        if (!world.isCondition(t, op, v)) {
            return BAD;
        }
        int many = goal.add(t, op, v);
        if (many != FULL) {
            changes.inAim();
        }
        return many;
    }

    public int aimless() {
        int had = goal.size;
        goal.size = 0;
        if (had > 0) {
            changes.inAim();
        }
        return had;
    }

    public int unact() {
        if (world.actCount == 0) {
            return NONE;
        }
        world.dropAct();
        changes.inWorld();
        return world.actCount;
    }

    public int leads(int state, int a, int k) {
        if (!world.isState(state) || !world.isOutcome(a, k)) {
            return BAD;
        }
        Act act = world.acts[a];
        int packed = world.pack(state);
        return act.conditions.hold(packed) ? world.after(act.outcomes[k].effects, state, packed) : NONE;
    }

    public int count(int what) {
        if (what >= 3 && what <= 9) {
            world.prepare();
        }
        switch (what) {
            case 0:
                return world.states;
            case 1:
                return world.things;
            case 2:
                return world.actCount;
            case 3:
                findReached();
                return reach.found;
            case 4:
                findAim();
                return wins.aimStates;
            case 5:
                return countNumbered(findNumbers(MAY));
            case 6:
                return countNumbered(findNumbers(MUST));
            case 7:
                return countNumbered(findNumbers(FAIR));
            case 8:
                return countDead();
            case 9:
                findKinds();
                return kinds.many;
            case 10:
                return shield.size;
            default:
                return BAD;
        }
    }

    public int of(int state, int what) {
        if (!world.isState(state) || what < 0 || what > 4) {
            return BAD;
        }
        world.prepare();
        if (what == 0) {
            findReached();
            return reach.steps[state];
        }
        if (what == 4) {
            findKinds();
            return kinds.least[kinds.kind[state]];
        }
        return findNumbers(what)[state];
    }

    public int best(int state, int what) {
        if (!world.isState(state) || what < MAY || what > FAIR) {
            return BAD;
        }
        world.prepare();
        return wins.leastAct(world, findNumbers(what), state, what);
    }

    public int play(int i, int what) {
        if (what < 0 || what > 2) {
            return BAD;
        }
        world.prepare();
        int[] may = findNumbers(MAY);
        if (i < 0 || i >= may[origin]) {
            return NONE;
        }
        int state = origin;
        int edge = NONE;
        for (int step = 0; step <= i; step++) {
            edge = wins.firstStep(world, state);
            if (edge == NONE) {
                return NONE;
            }
            state = world.behind(edge);
        }
        if (what == 0) {
            return actOf(edge);
        }
        return what == 1 ? outcomeOf(edge) : state;
    }

    public long plays() {
        world.prepare();
        findReached();
        findAim();
        int fewest = MOST_STATES;
        long many = 0;
        for (int s = 0; s < world.states; s++) {
            int steps = reach.steps[s];
            if (!wins.inAim[s] || steps == NONE || steps > fewest) {
                continue;
            }
            many = steps < fewest ? reach.ways[s] : many + reach.ways[s];
            fewest = steps;
        }
        return many;
    }

    public int needed() {
        world.prepare();
        findAim();
        if (neededMade < changes.latest) {
            neededActs = 0;
            for (int a = 0; a < world.actCount; a++) {
                if (!search.wins(world, wins.inAim, origin, a, NONE, NONE)) {
                    neededActs |= 1 << a;
                }
            }
            neededMade = changes.latest;
        }
        return neededActs;
    }

    public int fact(int t, int v) {
        if (!world.isThing(t) || v < 0 || v >= world.sizes[t]) {
            return BAD;
        }
        world.prepare();
        findAim();
        return search.wins(world, wins.inAim, origin, NONE, t, v) ? 0 : 1;
    }

    public int values(int t) {
        if (!world.isThing(t)) {
            return BAD;
        }
        world.prepare();
        findReached();
        int seen = 0;
        for (int s = 0; s < world.states; s++) {
            if (reach.steps[s] != NONE) {
                seen |= 1 << valueIn(world.packed[s], t);
            }
        }
        return seen;
    }

    public int cover() {
        int made = shield.addPart();
        if (made != FULL) {
            changes.inCover();
        }
        return made;
    }

    public int part(int p, int t, int op, int v) {
        if (p < 0 || p >= shield.size || !world.isCondition(t, op, v)) {
            return BAD;
        }
        int many = shield.parts[p].add(t, op, v);
        if (many != FULL) {
            changes.inCover();
        }
        return many;
    }

    public int bare() {
        int had = shield.size;
        shield.size = 0;
        if (had > 0) {
            changes.inCover();
        }
        return had;
    }

    public int flaw(int what) {
        if (what < 0 || what > 3) {
            return BAD;
        }
        world.prepare();
        findAim();
        if (shield.made < changes.latest) {
            shield.judge(world, wins.inAim, origin);
            shield.made = changes.latest;
        }
        switch (what) {
            case 0:
                return shield.number;
            case 1:
                return shield.toldState;
            case 2:
                return shield.toldAct;
            default:
                return shield.toldOutcome;
        }
    }

    private void noteActChange(int a, int answer) {
        if (answer != FULL) {
            world.acts[a].fresh = false;
            world.rowsFresh = false;
            changes.inWorld();
        }
    }

    private void findReached() {
        if (reach.made < Math.max(changes.world, changes.start)) {
            reach.spread(world, origin);
            reach.made = changes.latest;
        }
    }

    private void findAim() {
        if (wins.aimMade < Math.max(changes.world, changes.aim)) {
            wins.findAim(world, goal);
            wins.aimMade = changes.latest;
        }
    }

    private int[] findNumbers(int what) {
        findAim();
        if (wins.made[what] < Math.max(changes.world, changes.aim)) {
            wins.findNumbers(world, what);
            wins.made[what] = changes.latest;
        }
        return wins.numbersOf(what);
    }

    private void findKinds() {
        findAim();
        if (kinds.made < Math.max(changes.world, changes.aim)) {
            kinds.split(world, wins.inAim);
            kinds.made = changes.latest;
        }
    }

    private int countNumbered(int[] numbers) {
        int many = 0;
        for (int s = 0; s < world.states; s++) {
            if (numbers[s] != NONE) {
                many++;
            }
        }
        return many;
    }

    private int countDead() {
        findReached();
        int[] may = findNumbers(MAY);
        int many = 0;
        for (int s = 0; s < world.states; s++) {
            if (reach.steps[s] != NONE && may[s] == NONE) {
                many++;
            }
        }
        return many;
    }

    /** All values of a state stand in one int, two bits a thing, so that no row a thing is kept. */
    private static int valueIn(int packed, int t) {
        return (packed >> (2 * t)) & 3;
    }

    /** An edge is an act's outcome in a state, as one number. */
    private static int edgeOf(int a, int k, int state) {
        return (a << ACT_SHIFT) | (k << STATE_BITS) | state;
    }

    private static int actOf(int edge) {
        return edge >> ACT_SHIFT;
    }

    private static int outcomeOf(int edge) {
        return (edge >> STATE_BITS) & 3;
    }

    private static int stateOf(int edge) {
        return edge & (MOST_STATES - 1);
    }

    /** Rows grow eightfold: a small world stays small, and all outgrown rows together stay below a seventh. */
    private static int roomFor(int states) {
        int room = 8;
        for (int i = 0; i < 3 && room < states; i++) {
            room *= 8;
        }
        return room;
    }

    private static int[] rowFor(int[] row, int states) {
        return row.length >= states ? row : new int[roomFor(states)];
    }

    private static boolean[] marksFor(boolean[] row, int states) {
        return row.length >= states ? row : new boolean[roomFor(states)];
    }

    /** When what was last changed, so that a found row is kept as long as nothing it rests on changes. */
    private static final class Changes {
        long latest = 1;
        long world = 1;
        long start = 1;
        long aim = 1;

        void inWorld() {
            latest++;
            world = latest;
        }

        void inStart() {
            latest++;
            start = latest;
        }

        void inAim() {
            latest++;
            aim = latest;
        }

        void inCover() {
            latest++;
        }
    }

    /** Up to four (thing, op, v): conditions, or effects. */
    private static final class Clauses {
        int size = 0;
        final int[] thing = new int[MOST_CLAUSES];
        final int[] op = new int[MOST_CLAUSES];
        final int[] value = new int[MOST_CLAUSES];

        int add(int t, int kind, int v) {
            if (size >= MOST_CLAUSES) {
                return FULL;
            }
            thing[size] = t;
            op[size] = kind;
            value[size] = v;
            size++;
            return size;
        }

        boolean hold(int packed) {
            for (int i = 0; i < size; i++) {
                int is = valueIn(packed, thing[i]);
                boolean holds;
                if (op[i] == IS) {
                    holds = is == value[i];
                } else if (op[i] == IS_NOT) {
                    holds = is != value[i];
                } else if (op[i] == IS_AS) {
                    holds = is == valueIn(packed, value[i]);
                } else {
                    holds = is < value[i];
                }
                if (!holds) {
                    return false;
                }
            }
            return true;
        }

        boolean isLastOfItsThing(int i) {
            for (int j = i + 1; j < size; j++) {
                if (thing[j] == thing[i]) {
                    return false;
                }
            }
            return true;
        }
    }

    /** Effects, with rows by state: where they lead, and the next edge that leads to that state too. */
    private static final class Outcome {
        final Clauses effects = new Clauses();
        int[] to = new int[0];
        int[] next = new int[0];
    }

    private static final class Act {
        final Clauses conditions = new Clauses();
        final Outcome[] outcomes = new Outcome[MOST_OUTCOMES];
        int outcomeCount = 1;
        boolean fresh = false;

        Act() {
            for (int k = 0; k < MOST_OUTCOMES; k++) {
                outcomes[k] = new Outcome();
            }
        }

        void beginAnew() {
            conditions.size = 0;
            outcomes[0].effects.size = 0;
            outcomeCount = 1;
            fresh = false;
        }

        int addOutcome() {
            if (outcomeCount >= MOST_OUTCOMES) {
                return FULL;
            }
            outcomes[outcomeCount].effects.size = 0;
            outcomeCount++;
            return outcomeCount - 1;
        }

        boolean canBeDone(int state) {
            return outcomes[0].to[state] != NONE;
        }

        void fillRows(World world) {
            for (int k = 0; k < outcomeCount; k++) {
                Outcome o = outcomes[k];
                o.to = rowFor(o.to, world.states);
                o.next = rowFor(o.next, world.states);
            }
            for (int s = 0; s < world.states; s++) {
                int packed = world.packed[s];
                boolean can = conditions.hold(packed);
                for (int k = 0; k < outcomeCount; k++) {
                    outcomes[k].to[s] = can ? world.after(outcomes[k].effects, s, packed) : NONE;
                }
            }
            fresh = true;
        }
    }

    /** Things and acts, and the edges that they make. */
    private static final class World {
        int things = 0;
        int states = 1;
        int actCount = 0;
        final int[] sizes = new int[MOST_THINGS];
        final int[] weights = new int[MOST_THINGS];
        final Act[] acts = new Act[MOST_ACTS];
        int[] packed = new int[0];
        int[] lastInto = new int[0];
        boolean packedFresh = false;
        boolean rowsFresh = false;

        World() {
            for (int a = 0; a < MOST_ACTS; a++) {
                acts[a] = new Act();
            }
        }

        void forget() {
            things = 0;
            states = 1;
            actCount = 0;
            packedFresh = false;
            rowsFresh = false;
        }

        int addThing(int size) {
            if (things >= MOST_THINGS || states * size > MOST_STATES) {
                return FULL;
            }
            sizes[things] = size;
            weights[things] = states;
            states *= size;
            things++;
            packedFresh = false;
            rowsFresh = false;
            return things - 1;
        }

        int addAct() {
            if (actCount >= MOST_ACTS) {
                return FULL;
            }
            acts[actCount].beginAnew();
            actCount++;
            rowsFresh = false;
            return actCount - 1;
        }

        void dropAct() {
            actCount--;
            rowsFresh = false;
        }

        boolean isState(int state) {
            return state >= 0 && state < states;
        }

        boolean isThing(int t) {
            return t >= 0 && t < things;
        }

        boolean isAct(int a) {
            return a >= 0 && a < actCount;
        }

        boolean isOutcome(int a, int k) {
            return isAct(a) && k >= 0 && k < acts[a].outcomeCount;
        }

        boolean isCondition(int t, int op, int v) {
            if (!isThing(t) || op < IS || op > IS_LESS) {
                return false;
            }
            return op == IS_AS ? isThing(v) : v >= 0 && v < MOST_SIZE;
        }

        boolean isEffect(int t, int op, int v) {
            if (!isThing(t) || op < BECOMES || op > GROWS) {
                return false;
            }
            if (op == TAKES) {
                return isThing(v);
            }
            return v >= 0 && v < (op == BECOMES ? sizes[t] : MOST_SIZE);
        }

        int pack(int state) {
            int rest = state;
            int all = 0;
            for (int t = 0; t < things; t++) {
                int size = sizes[t];
                if (size > 0) {
                    all |= (rest % size) << (2 * t);
                    rest /= size;
                }
            }
            return all;
        }

        int after(Clauses effects, int state, int packedState) {
            int result = state;
            for (int i = 0; i < effects.size; i++) {
                if (effects.isLastOfItsThing(i)) {
                    int t = effects.thing[i];
                    result += weights[t] * (newValue(effects, i, packedState) - valueIn(packedState, t));
                }
            }
            return result;
        }

        private int newValue(Clauses effects, int i, int packedState) {
            int t = effects.thing[i];
            int v = effects.value[i];
            int raw = v;
            if (effects.op[i] == TAKES) {
                raw = valueIn(packedState, v);
            } else if (effects.op[i] == GROWS) {
                raw = valueIn(packedState, t) + v;
            }
            int size = sizes[t];
            return size > 0 ? raw % size : 0;
        }

        int behind(int edge) {
            return acts[actOf(edge)].outcomes[outcomeOf(edge)].to[stateOf(edge)];
        }

        /** Unpacks the edge itself, as it is asked once an edge, below many other calls. */
        int nextInto(int edge) {
            return acts[edge >> ACT_SHIFT].outcomes[(edge >> STATE_BITS) & 3].next[edge & (MOST_STATES - 1)];
        }

        void prepare() {
            if (rowsFresh) {
                return;
            }
            if (!packedFresh) {
                fillPacked();
            }
            for (int a = 0; a < actCount; a++) {
                if (!acts[a].fresh) {
                    acts[a].fillRows(this);
                }
            }
            linkBack();
            rowsFresh = true;
        }

        private void fillPacked() {
            packed = rowFor(packed, states);
            lastInto = rowFor(lastInto, states);
            for (int s = 0; s < states; s++) {
                packed[s] = pack(s);
            }
            packedFresh = true;
        }

        private void linkBack() {
            Arrays.fill(lastInto, 0, states, NONE);
            for (int a = 0; a < actCount; a++) {
                for (int k = 0; k < acts[a].outcomeCount; k++) {
                    linkOutcome(acts[a].outcomes[k], edgeOf(a, k, 0));
                }
            }
        }

        private void linkOutcome(Outcome o, int firstEdge) {
            for (int s = 0; s < states; s++) {
                int to = o.to[s];
                if (to != NONE) {
                    o.next[s] = lastInto[to];
                    lastInto[to] = firstEdge + s;
                }
            }
        }
    }

    /** What can be come to from the start, in how few acts, and in how many shortest rows. */
    private static final class Reach {
        int[] steps = new int[0];
        long[] ways = new long[0];
        int[] queue = new int[0];
        int found = 0;
        long made = 0;

        void spread(World world, int from) {
            steps = rowFor(steps, world.states);
            queue = rowFor(queue, world.states);
            if (ways.length < world.states) {
                ways = new long[roomFor(world.states)];
            }
            Arrays.fill(steps, 0, world.states, NONE);
            steps[from] = 0;
            ways[from] = 1;
            queue[0] = from;
            found = 1;
            for (int i = 0; i < found && i < world.states; i++) {
                for (int a = 0; a < world.actCount; a++) {
                    if (world.acts[a].canBeDone(queue[i])) {
                        follow(world.acts[a], queue[i]);
                    }
                }
            }
        }

        private void follow(Act act, int state) {
            for (int k = 0; k < act.outcomeCount; k++) {
                int to = act.outcomes[k].to[state];
                if (steps[to] == NONE) {
                    steps[to] = steps[state] + 1;
                    ways[to] = 0;
                    queue[found] = to;
                    found++;
                }
                if (steps[to] == steps[state] + 1) {
                    ways[to] += ways[state];
                }
            }
        }
    }

    /** MAY, MUST and LEVEL of all states. */
    private static final class Wins {
        boolean[] inAim = new boolean[0];
        int aimStates = 0;
        long aimMade = 0;
        int[] may = new int[0];
        int[] must = new int[0];
        int[] level = new int[0];
        final long[] made = new long[FAIR + 1];
        private boolean[] trusted = new boolean[0];
        private int[] queue = new int[0];

        void findAim(World world, Clauses goal) {
            inAim = marksFor(inAim, world.states);
            aimStates = 0;
            for (int s = 0; s < world.states; s++) {
                inAim[s] = goal.hold(world.packed[s]);
                if (inAim[s]) {
                    aimStates++;
                }
            }
        }

        int[] numbersOf(int what) {
            if (what == MAY) {
                return may;
            }
            return what == MUST ? must : level;
        }

        void findNumbers(World world, int what) {
            queue = rowFor(queue, world.states);
            if (what == MAY) {
                may = rowFor(may, world.states);
                spreadBack(world, what, may);
            } else if (what == MUST) {
                must = rowFor(must, world.states);
                spreadBack(world, what, must);
            } else {
                level = rowFor(level, world.states);
                findLevels(world);
            }
        }

        /** Trusts all states first, and then ever fewer: those that had a level while more were trusted. */
        private void findLevels(World world) {
            trusted = marksFor(trusted, world.states);
            for (int s = 0; s < world.states; s++) {
                trusted[s] = true;
            }
            int trustedCount = world.states;
            for (int round = 0; round <= world.states; round++) {
                int levelled = spreadBack(world, FAIR, level);
                if (levelled == trustedCount) {
                    return;
                }
                trustedCount = levelled;
                for (int s = 0; s < world.states; s++) {
                    trusted[s] = level[s] != NONE;
                }
            }
        }

        /** Goes back from the aim, nearest first, so that the first number a state gets is its least. */
        private int spreadBack(World world, int what, int[] numbers) {
            int tail = 0;
            for (int s = 0; s < world.states; s++) {
                numbers[s] = inAim[s] ? 0 : NONE;
                if (inAim[s]) {
                    queue[tail] = s;
                    tail++;
                }
            }
            for (int i = 0; i < tail && i < world.states; i++) {
                int x = queue[i];
                int edge = world.lastInto[x];
                for (int n = 0; n < MOST_EDGES && edge != NONE; n++) {
                    int s = stateOf(edge);
                    if (numbers[s] == NONE && mayCome(world, edge, what, numbers[x])) {
                        numbers[s] = numbers[x] + 1;
                        queue[tail] = s;
                        tail++;
                    }
                    edge = world.nextInto(edge);
                }
            }
            return tail;
        }

        private boolean mayCome(World world, int edge, int what, int highest) {
            if (what == MAY) {
                return true;
            }
            Act act = world.acts[actOf(edge)];
            int state = stateOf(edge);
            for (int k = 0; k < act.outcomeCount; k++) {
                int to = act.outcomes[k].to[state];
                if (what == MUST ? must[to] == NONE || must[to] > highest : !trusted[to]) {
                    return false;
                }
            }
            return true;
        }

        int leastAct(World world, int[] numbers, int state, int what) {
            if (numbers[state] <= 0) {
                return NONE;
            }
            for (int a = 0; a < world.actCount; a++) {
                if (world.acts[a].canBeDone(state) && gives(world.acts[a], numbers, state, what)) {
                    return a;
                }
            }
            return NONE;
        }

        private boolean gives(Act act, int[] numbers, int state, int what) {
            boolean comesNearer = false;
            boolean isSafe = true;
            for (int k = 0; k < act.outcomeCount; k++) {
                int number = numbers[act.outcomes[k].to[state]];
                boolean isNearer = number != NONE && number < numbers[state];
                comesNearer |= isNearer;
                isSafe &= what == MUST ? isNearer : number != NONE;
            }
            return comesNearer && (isSafe || what == MAY);
        }

        int firstStep(World world, int state) {
            for (int a = 0; a < world.actCount; a++) {
                Act act = world.acts[a];
                for (int k = 0; k < act.outcomeCount; k++) {
                    int to = act.outcomes[k].to[state];
                    if (to != NONE && may[to] != NONE && may[to] < may[state]) {
                        return edgeOf(a, k, state);
                    }
                }
            }
            return NONE;
        }
    }

    /** Looks for the aim from the start while one act, or one fact, is barred. */
    private static final class Search {
        private boolean[] seen = new boolean[0];
        private int[] queue = new int[0];
        private int tail = 0;
        private int barredThing = NONE;
        private int barredValue = NONE;

        boolean wins(World world, boolean[] inAim, int from, int barredAct, int t, int v) {
            barredThing = t;
            barredValue = v;
            begin(world.states);
            if (visit(world, inAim, from)) {
                return true;
            }
            for (int i = 0; i < tail && i < world.states; i++) {
                for (int a = 0; a < world.actCount; a++) {
                    Act act = world.acts[a];
                    if (a == barredAct || !act.canBeDone(queue[i])) {
                        continue;
                    }
                    for (int k = 0; k < act.outcomeCount; k++) {
                        if (visit(world, inAim, act.outcomes[k].to[queue[i]])) {
                            return true;
                        }
                    }
                }
            }
            return false;
        }

        private void begin(int states) {
            seen = marksFor(seen, states);
            queue = rowFor(queue, states);
            tail = 0;
            for (int s = 0; s < states; s++) {
                seen[s] = false;
            }
        }

        private boolean visit(World world, boolean[] inAim, int state) {
            if (seen[state]) {
                return false;
            }
            seen[state] = true;
            if (barredThing != NONE && valueIn(world.packed[state], barredThing) == barredValue) {
                return false;
            }
            queue[tail] = state;
            tail++;
            return inAim[state];
        }
    }

    private static final class Cover {
        int size = 0;
        final Clauses[] parts = new Clauses[MOST_PARTS];
        int number = 0;
        int toldState = NONE;
        int toldAct = NONE;
        int toldOutcome = NONE;
        long made = 0;
        private boolean[] inside = new boolean[0];

        Cover() {
            for (int p = 0; p < MOST_PARTS; p++) {
                parts[p] = new Clauses();
            }
        }

        int addPart() {
            if (size >= MOST_PARTS) {
                return FULL;
            }
            parts[size].size = 0;
            size++;
            return size - 1;
        }

        void judge(World world, boolean[] inAim, int from) {
            findInside(world);
            tell(0, NONE, NONE);
            toldOutcome = NONE;
            if (!inside[from]) {
                tell(1, NONE, NONE);
                return;
            }
            for (int s = 0; s < world.states; s++) {
                if (inside[s] && leavesFrom(world, s)) {
                    return;
                }
            }
            for (int s = 0; s < world.states; s++) {
                if (inside[s] && inAim[s]) {
                    tell(3, s, NONE);
                    return;
                }
            }
        }

        private void tell(int flawNumber, int state, int a) {
            number = flawNumber;
            toldState = state;
            toldAct = a;
        }

        private void findInside(World world) {
            inside = marksFor(inside, world.states);
            for (int s = 0; s < world.states; s++) {
                inside[s] = isInside(world.packed[s]);
            }
        }

        private boolean isInside(int packed) {
            for (int p = 0; p < size; p++) {
                if (parts[p].hold(packed)) {
                    return true;
                }
            }
            return false;
        }

        private boolean leavesFrom(World world, int state) {
            for (int a = 0; a < world.actCount; a++) {
                Act act = world.acts[a];
                for (int k = 0; k < act.outcomeCount; k++) {
                    int to = act.outcomes[k].to[state];
                    if (to != NONE && !inside[to]) {
                        tell(2, state, a);
                        toldOutcome = k;
                        return true;
                    }
                }
            }
            return false;
        }
    }

    /**
     * The classes of states that are alike. They begin as two, and one is divided as long as its states
     * lead to different classes; the largest piece keeps its number, so that only what leads to the
     * smaller ones has to be looked at again. Changed states stand first in their class.
     */
    private static final class Kinds {
        int many = 0;
        long made = 0;
        int[] kind = new int[0];
        int[] least = new int[0];
        private int[] order = new int[0];
        private int[] place = new int[0];
        private int[] from = new int[0];
        private int[] until = new int[0];
        private int[] changedCount = new int[0];
        private int[] changedActs = new int[0];
        private int[] waiting = new int[0];
        private int waitingCount = 0;
        private int[] group = new int[0];
        private int[] tally = new int[0];
        private int[] spot = new int[0];
        private int[] sorted = new int[0];
        private int[] groupAt = new int[0];
        private long[] keyAt = new long[0];

        void split(World world, boolean[] inAim) {
            makeRoom(world.states);
            many = 0;
            waitingCount = 0;
            int end = placeThose(world, inAim, true, 0);
            placeThose(world, inAim, false, end);
            for (int turn = 0; turn < MOST_TURNS && waitingCount > 0; turn++) {
                waitingCount--;
                settle(world, waiting[waitingCount]);
            }
            findLeast(world.states);
        }

        private void makeRoom(int states) {
            if (kind.length >= states) {
                return;
            }
            int room = roomFor(states);
            kind = new int[room];
            least = new int[room];
            order = new int[room];
            place = new int[room];
            from = new int[room];
            until = new int[room];
            changedCount = new int[room];
            changedActs = new int[room];
            waiting = new int[room];
            group = new int[room];
            tally = new int[room];
            spot = new int[room];
            sorted = new int[room];
            groupAt = new int[2 * room];
            keyAt = new long[2 * room];
        }

        private int placeThose(World world, boolean[] inAim, boolean wanted, int at) {
            int end = at;
            for (int s = 0; s < world.states; s++) {
                if (inAim[s] == wanted) {
                    order[end] = s;
                    place[s] = end;
                    changedActs[s] = (1 << world.actCount) - 1;
                    end++;
                }
            }
            if (end > at) {
                changedCount[open(at, end)] = end - at;
                waiting[waitingCount] = many - 1;
                waitingCount++;
            }
            return end;
        }

        private int open(int at, int end) {
            int b = many;
            many++;
            from[b] = at;
            until[b] = end;
            changedCount[b] = 0;
            for (int i = at; i < end; i++) {
                kind[order[i]] = b;
            }
            return b;
        }

        private void settle(World world, int b) {
            int changedEnd = from[b] + changedCount[b];
            // Unchanged states all lead to the same classes: one of them speaks for all.
            int end = Math.min(changedEnd + 1, until[b]);
            int acts = 0;
            for (int i = from[b]; i < end; i++) {
                acts |= changedActs[order[i]];
                changedActs[order[i]] = 0;
                group[order[i]] = 0;
            }
            changedCount[b] = 0;
            int groups = 1;
            for (int a = 0; a < world.actCount; a++) {
                if ((acts >> a & 1) != 0) {
                    groups = regroup(world.acts[a], from[b], end);
                }
            }
            if (groups > 1) {
                sortByGroup(from[b], changedEnd, groups);
                divide(world, b, changedEnd, groups);
            }
        }

        /** Goes from the end, so that the unchanged one, which stands there, is of group 0. */
        private int regroup(Act act, int at, int end) {
            int slots = 2;
            for (int i = 0; i < STATE_BITS && slots < 2 * (end - at); i++) {
                slots *= 2;
            }
            Arrays.fill(groupAt, 0, slots, NONE);
            int groups = 0;
            for (int i = end - 1; i >= at; i--) {
                int s = order[i];
                long key = ((long) group[s] << SET_BITS) | kindsBehind(act, s);
                int slot = slotOf(key, slots - 1);
                if (groupAt[slot] == NONE) {
                    groupAt[slot] = groups;
                    keyAt[slot] = key;
                    groups++;
                }
                group[s] = groupAt[slot];
            }
            return groups;
        }

        private int slotOf(long key, int mask) {
            int slot = (int) (key * MIX >>> 40) & mask;
            for (int n = 0; n < mask && groupAt[slot] != NONE && keyAt[slot] != key; n++) {
                slot = (slot + 1) & mask;
            }
            return slot;
        }

        /** The set of classes that an act leads to, as a number that is the same for the same set alone. */
        private long kindsBehind(Act act, int state) {
            if (!act.canBeDone(state)) {
                return 0;
            }
            int x = kind[act.outcomes[0].to[state]];
            int y = act.outcomeCount > 1 ? kind[act.outcomes[1].to[state]] : x;
            int z = act.outcomeCount > 2 ? kind[act.outcomes[2].to[state]] : x;
            int low = Math.min(x, Math.min(y, z));
            int high = Math.max(x, Math.max(y, z));
            int middle = x ^ y ^ z ^ low ^ high;
            if (middle == high) {
                middle = low;
            }
            return 1 + (((long) low << (2 * STATE_BITS)) | ((long) middle << STATE_BITS) | high);
        }

        /** Group 0 comes last, where it meets the unchanged states, which are of it. */
        private void sortByGroup(int at, int changedEnd, int groups) {
            Arrays.fill(tally, 0, groups, 0);
            for (int i = at; i < changedEnd; i++) {
                tally[group[order[i]]]++;
            }
            int next = at;
            for (int g = 1; g < groups; g++) {
                spot[g] = next;
                next += tally[g];
            }
            spot[0] = next;
            for (int i = at; i < changedEnd; i++) {
                int g = group[order[i]];
                sorted[spot[g]] = order[i];
                spot[g]++;
            }
            for (int i = at; i < changedEnd; i++) {
                order[i] = sorted[i];
                place[order[i]] = i;
            }
        }

        private void divide(World world, int b, int changedEnd, int groups) {
            int end = until[b];
            // Only now does group 0 count what is unchanged, too.
            tally[0] += end - changedEnd;
            spot[0] = end;
            int largest = 0;
            for (int g = 1; g < groups; g++) {
                if (tally[g] > tally[largest]) {
                    largest = g;
                }
            }
            if (largest != 0) {
                System.arraycopy(order, changedEnd, sorted, changedEnd, end - changedEnd);
            }
            int firstNew = many;
            for (int g = 0; g < groups; g++) {
                if (g != largest) {
                    open(spot[g] - tally[g], spot[g]);
                }
            }
            from[b] = spot[largest] - tally[largest];
            until[b] = spot[largest];
            for (int n = firstNew; n < many; n++) {
                // Marking moves states in order, so what is gone through is the copy.
                for (int i = from[n]; i < until[n]; i++) {
                    markThoseBefore(world, sorted[i]);
                }
            }
        }

        private void markThoseBefore(World world, int state) {
            int edge = world.lastInto[state];
            for (int n = 0; n < MOST_EDGES && edge != NONE; n++) {
                int s = stateOf(edge);
                int b = kind[s];
                if (until[b] - from[b] > 1) {
                    if (changedActs[s] == 0) {
                        moveToChanged(s, b);
                    }
                    changedActs[s] |= 1 << actOf(edge);
                }
                edge = world.nextInto(edge);
            }
        }

        private void moveToChanged(int s, int b) {
            int to = from[b] + changedCount[b];
            int other = order[to];
            order[place[s]] = other;
            place[other] = place[s];
            order[to] = s;
            place[s] = to;
            if (changedCount[b] == 0) {
                waiting[waitingCount] = b;
                waitingCount++;
            }
            changedCount[b]++;
        }

        private void findLeast(int states) {
            Arrays.fill(least, 0, many, NONE);
            for (int s = 0; s < states; s++) {
                if (least[kind[s]] == NONE) {
                    least[kind[s]] = s;
                }
            }
        }
    }
}
