import java.util.Arrays;

/** Looks for inputs on which a small program traps; shared/DOC.md numbers what each call promises. */
public final class EdgeCampaign {
    public static final int NONE = -1;

    private static final int MOST_TRIALS = 20;

    private static final int ENDED = 0;
    private static final int TRAP_EQUAL = 1;
    private static final int TRAP_DIVISION = 2;
    private static final int TRAP_MEMORY = 3;
    private static final int TRAP_STACK = 4;
    private static final int HUNG = 5;

    private final Program program;
    private final Input draft;
    private final Input changed;
    private final Run run;
    private final Store store;
    private final Findings findings;
    private final Shortener shortener;
    private final Generator generator;
    private final Trials trials;
    private int executions;
    private int hangs;
    private int lost;

    public EdgeCampaign(int seed) {
        program = new Program();
        draft = new Input();
        changed = new Input();
        run = new Run();
        store = new Store();
        findings = new Findings();
        shortener = new Shortener();
        generator = new Generator(seed);
        trials = new Trials();
        executions = 0;
        hangs = 0;
        lost = 0;
    }

    public boolean emit(int op, int a, int b) {
        return executions == 0 && program.append(op, a, b);
    }

    public boolean feed(int b) {
        return draft.append(b);
    }

    public int plant() {
        int outcome = execute(draft);
        draft.cutTo(0);
        return outcome;
    }

    public int fuzz(int n) {
        if (n < 1 || n > MOST_TRIALS) {
            return NONE;
        }
        if (store.size == 0) {
            return 0;
        }
        for (int i = 0; i < n; i++) {
            trials.change(changed, store, generator);
            execute(changed);
            trials.advance(store);
        }
        return n;
    }

    public int count(int which) {
        return switch (which) {
            case 0 -> executions;
            case 1 -> hangs;
            case 2 -> lost;
            case 3 -> store.size;
            case 4 -> findings.size;
            case 5 -> store.seenEdges;
            case 6 -> store.seenPairs;
            default -> NONE;
        };
    }

    public int entry(int e, int which) {
        if (!store.has(e)) {
            return NONE;
        }
        Entry asked = store.entries[e];
        return switch (which) {
            case 0 -> asked.input.size;
            case 1 -> asked.steps;
            case 2 -> asked.edgeCount;
            case 3 -> asked.finished;
            case 4 -> store.isFavoured(e) ? 1 : 0;
            default -> NONE;
        };
    }

    public int entryByte(int e, int k) {
        return store.has(e) ? store.entries[e].input.at(k) : NONE;
    }

    public int seen(int from, int to) {
        if (!Program.isPlace(from) || !Program.isPlace(to)) {
            return 0;
        }
        return store.buckets[Program.PLACES * from + to];
    }

    public int finding(int c, int which) {
        if (!findings.has(c)) {
            return NONE;
        }
        Finding asked = findings.made[c];
        return switch (which) {
            case 0 -> asked.trap;
            case 1 -> asked.here;
            case 2 -> asked.depth;
            case 3, 4, 5 -> asked.latestFirst[which - 3];
            case 6 -> asked.hits;
            case 7 -> asked.input.size;
            case 8 -> asked.shortest.size;
            default -> NONE;
        };
    }

    public int findingByte(int c, boolean shortest, int k) {
        if (!findings.has(c)) {
            return NONE;
        }
        Finding asked = findings.made[c];
        return shortest ? asked.shortest.at(k) : asked.input.at(k);
    }

    public int current(int which) {
        if (store.size == 0) {
            return NONE;
        }
        return switch (which) {
            case 0 -> trials.taken;
            case 1 -> trials.number;
            case 2 -> trials.energy;
            default -> NONE;
        };
    }

    public int state() {
        return generator.x;
    }

    private int execute(Input input) {
        run.perform(program, input);
        executions++;
        if (run.outcome == HUNG) {
            hangs++;
        }
        if (store.hasNews(run) && !store.keep(input, run)) {
            lost++;
        }
        if (run.hasTrapped() && !findings.countHit(run)) {
            Finding made = findings.begin(input, run);
            if (made == null) {
                lost++;
            } else {
                shortener.shorten(made, program);
            }
        }
        trials.beginWithFirst(store);
        return run.outcome;
    }

    private static final class Program {
        private static final int PLACES = 24;
        private static final int REGISTERS = 4;
        private static final int EDGES = PLACES * PLACES;

        private static final int END = 0;
        private static final int SET = 1;
        private static final int READ = 2;
        private static final int ADD = 3;
        private static final int SUBTRACT = 4;
        private static final int MULTIPLY = 5;
        private static final int JUMP_IF_ZERO = 6;
        private static final int JUMP_IF_LESS = 7;
        private static final int JUMP = 8;
        private static final int CALL = 9;
        private static final int RETURN = 10;
        private static final int DIVIDE = 11;
        private static final int TRAP_IF_EQUAL = 12;
        private static final int LOAD = 13;
        private static final int SAVE = 14;
        private static final int LENGTH = 15;

        private final int[] ops = new int[PLACES];
        private final int[] as = new int[PLACES];
        private final int[] bs = new int[PLACES];
        private int size;

        static boolean isPlace(int place) {
            return place >= 0 && place < PLACES;
        }

        static boolean isJump(int op) {
            return op >= JUMP_IF_ZERO && op <= RETURN;
        }

        boolean has(int place) {
            return place >= 0 && place < size;
        }

        boolean append(int op, int a, int b) {
            if (size >= PLACES || !isRegister(a) || !fits(op, b)) {
                return false;
            }
            ops[size] = op;
            as[size] = a;
            bs[size] = b;
            size++;
            return true;
        }

        private static boolean isRegister(int number) {
            return number >= 0 && number < REGISTERS;
        }

        private static boolean fits(int op, int b) {
            return switch (op) {
                case READ, ADD, SUBTRACT, MULTIPLY, DIVIDE, LOAD, SAVE -> isRegister(b);
                case JUMP_IF_ZERO, JUMP_IF_LESS, JUMP, CALL -> isPlace(b);
                case SET, TRAP_IF_EQUAL -> true;
                case END, RETURN, LENGTH -> b == 0;
                default -> false;
            };
        }
    }

    private static final class Input {
        private static final int MOST_BYTES = 6;
        private static final int HIGHEST_BYTE = 255;

        private final int[] bytes = new int[MOST_BYTES];
        private int size;

        int at(int k) {
            return k >= 0 && k < size ? bytes[k] : NONE;
        }

        boolean append(int b) {
            if (b < 0 || b > HIGHEST_BYTE || size >= MOST_BYTES) {
                return false;
            }
            bytes[size] = b;
            size++;
            return true;
        }

        void appendPart(Input other, int from, int to) {
            int end = Math.min(to, other.size);
            for (int k = from; k < end; k++) {
                append(other.at(k));
            }
        }

        void copy(Input other) {
            size = 0;
            appendPart(other, 0, other.size);
        }

        void cutTo(int length) {
            size = Math.max(0, Math.min(size, length));
        }

        void put(int k, int value) {
            if (k >= 0 && k < size) {
                bytes[k] = value & HIGHEST_BYTE;
            }
        }

        void addTo(int k, int amount) {
            put(k, at(k) + amount);
        }

        void turnBit(int k, int bit) {
            put(k, at(k) ^ 1 << bit);
        }

        void insert(int k, int b) {
            if (k < 0 || k > size || !append(b)) {
                return;
            }
            for (int i = size - 1; i > k; i--) {
                bytes[i] = bytes[i - 1];
            }
            bytes[k] = b;
        }

        void takeOut(int k) {
            if (k < 0 || k >= size) {
                return;
            }
            for (int i = k; i < size - 1; i++) {
                bytes[i] = bytes[i + 1];
            }
            size--;
        }
    }

    private static final class Run {
        private static final int GOING = -1;
        private static final int MOST_STEPS = 64;
        private static final int MEMORY_WORDS = 4;
        private static final int MOST_ON_STACK = 3;

        private final int[] registers = new int[Program.REGISTERS];
        private final int[] memory = new int[MEMORY_WORDS];
        private final int[] stack = new int[MOST_ON_STACK];
        private final int[] times = new int[Program.EDGES];
        private final int[] edges = new int[MOST_STEPS];
        private int edgeCount;
        private int depth;
        private int pc;
        private int here;
        private int steps;
        private int outcome;

        void perform(Program program, Input input) {
            reset();
            for (int done = 0; done <= MOST_STEPS && outcome == GOING; done++) {
                if (!program.has(pc)) {
                    outcome = ENDED;
                } else if (done == MOST_STEPS) {
                    outcome = HUNG;
                } else {
                    step(program, input);
                }
            }
        }

        boolean hasTrapped() {
            return outcome >= TRAP_EQUAL && outcome <= TRAP_STACK;
        }

        int onStack(int behindLatest) {
            int place = depth - 1 - behindLatest;
            return behindLatest >= 0 && place >= 0 ? stack[place] : 0;
        }

        int pairBit(int edge) {
            int often = times[edge];
            if (often <= 3) {
                return 1 << often - 1;
            }
            if (often <= 7) {
                return 1 << 3;
            }
            return often <= 15 ? 1 << 4 : 1 << 5;
        }

        private void reset() {
            // Only the edges of the last run are not 0: this is far less than the whole row.
            for (int i = 0; i < edgeCount; i++) {
                times[edges[i]] = 0;
            }
            Arrays.fill(registers, 0);
            Arrays.fill(memory, 0);
            edgeCount = 0;
            depth = 0;
            pc = 0;
            here = 0;
            steps = 0;
            outcome = GOING;
        }

        private void step(Program program, Input input) {
            here = pc;
            pc = here + 1;
            steps++;
            int op = program.ops[here];
            int a = program.as[here];
            int b = program.bs[here];
            switch (op) {
                case Program.SET -> registers[a] = b;
                case Program.READ -> registers[a] = input.at(registers[b]);
                case Program.ADD -> registers[a] += registers[b];
                case Program.SUBTRACT -> registers[a] -= registers[b];
                case Program.MULTIPLY -> registers[a] *= registers[b];
                case Program.JUMP_IF_ZERO -> pc = registers[a] == 0 ? b : pc;
                case Program.JUMP_IF_LESS -> pc = registers[a] < 0 ? b : pc;
                case Program.JUMP -> pc = b;
                case Program.CALL -> goInto(b);
                case Program.RETURN -> goBack();
                case Program.DIVIDE -> divide(a, b);
                case Program.TRAP_IF_EQUAL -> outcome = registers[a] == b ? TRAP_EQUAL : GOING;
                case Program.LOAD -> load(a, registers[b]);
                case Program.SAVE -> save(a, registers[b]);
                case Program.LENGTH -> registers[a] = input.size;
                default -> outcome = ENDED;
            }
            if (outcome == GOING && Program.isJump(op) && program.has(pc)) {
                goAlong(Program.PLACES * here + pc);
            }
        }

        private void divide(int a, int b) {
            if (registers[b] == 0) {
                outcome = TRAP_DIVISION;
            } else {
                registers[a] /= registers[b];
            }
        }

        private void load(int a, int word) {
            if (word < 0 || word >= MEMORY_WORDS) {
                outcome = TRAP_MEMORY;
            } else {
                registers[a] = memory[word];
            }
        }

        private void save(int a, int word) {
            if (word < 0 || word >= MEMORY_WORDS) {
                outcome = TRAP_MEMORY;
            } else {
                memory[word] = registers[a];
            }
        }

        private void goInto(int place) {
            if (depth >= MOST_ON_STACK) {
                outcome = TRAP_STACK;
            } else {
                stack[depth] = here + 1;
                depth++;
                pc = place;
            }
        }

        private void goBack() {
            if (depth <= 0) {
                outcome = ENDED;
            } else {
                depth--;
                pc = stack[depth];
            }
        }

        private void goAlong(int edge) {
            if (times[edge] == 0) {
                edges[edgeCount] = edge;
                edgeCount++;
            }
            times[edge]++;
        }
    }

    private static final class Entry {
        private final Input input = new Input();
        private int steps;
        private int edgeCount;
        private int finished;

        int cost() {
            return steps * (1 + input.size);
        }
    }

    private static final class Store {
        private static final int MOST_ENTRIES = 16;

        private final Entry[] entries = new Entry[MOST_ENTRIES];
        /** Bit b of an edge: it is seen with the bucket b. */
        private final int[] buckets = new int[Program.EDGES];
        /** Bit e of an edge: the run of entry e went along it. */
        private final int[] goers = new int[Program.EDGES];
        private int size;
        private int favoured;
        private int seenEdges;
        private int seenPairs;

        Store() {
            for (int e = 0; e < MOST_ENTRIES; e++) {
                entries[e] = new Entry();
            }
        }

        boolean has(int e) {
            return e >= 0 && e < size;
        }

        boolean isFavoured(int e) {
            return (favoured >> e & 1) == 1;
        }

        int behind(int e) {
            return e + 1 < size ? e + 1 : 0;
        }

        boolean hasNews(Run run) {
            for (int i = 0; i < run.edgeCount; i++) {
                int edge = run.edges[i];
                if ((buckets[edge] & run.pairBit(edge)) == 0) {
                    return true;
                }
            }
            return false;
        }

        boolean keep(Input input, Run run) {
            if (size >= MOST_ENTRIES) {
                return false;
            }
            Entry kept = entries[size];
            kept.input.copy(input);
            kept.steps = run.steps;
            kept.edgeCount = run.edgeCount;
            for (int i = 0; i < run.edgeCount; i++) {
                markSeen(run.edges[i], run.pairBit(run.edges[i]));
            }
            size++;
            // Nothing else than a new entry changes who is favoured.
            chooseFavoured();
            return true;
        }

        private void markSeen(int edge, int pairBit) {
            if (buckets[edge] == 0) {
                seenEdges++;
            }
            if ((buckets[edge] & pairBit) == 0) {
                seenPairs++;
            }
            buckets[edge] |= pairBit;
            goers[edge] |= 1 << size;
        }

        private void chooseFavoured() {
            favoured = 0;
            for (int edge = 0; edge < Program.EDGES; edge++) {
                if (goers[edge] != 0 && (goers[edge] & favoured) == 0) {
                    favoured |= 1 << top(goers[edge]);
                }
            }
        }

        private int top(int among) {
            int best = NONE;
            for (int e = 0; e < size; e++) {
                boolean went = (among >> e & 1) == 1;
                if (went && (best == NONE || entries[e].cost() < entries[best].cost())) {
                    best = e;
                }
            }
            return best;
        }
    }

    private static final class Finding {
        private final Input input = new Input();
        private final Input shortest = new Input();
        private final int[] latestFirst = new int[Run.MOST_ON_STACK];
        private int trap;
        private int here;
        private int depth;
        private int hits;

        void begin(Input trapping, Run run) {
            input.copy(trapping);
            shortest.copy(trapping);
            trap = run.outcome;
            here = run.here;
            depth = run.depth;
            for (int i = 0; i < latestFirst.length; i++) {
                latestFirst[i] = run.onStack(i);
            }
            hits = 1;
        }

        boolean hasSignOf(Run run) {
            if (trap != run.outcome || here != run.here || depth != run.depth) {
                return false;
            }
            for (int i = 0; i < latestFirst.length; i++) {
                if (latestFirst[i] != run.onStack(i)) {
                    return false;
                }
            }
            return true;
        }
    }

    private static final class Findings {
        private static final int MOST_FINDINGS = 8;

        private final Finding[] made = new Finding[MOST_FINDINGS];
        private int size;

        Findings() {
            for (int c = 0; c < MOST_FINDINGS; c++) {
                made[c] = new Finding();
            }
        }

        boolean has(int c) {
            return c >= 0 && c < size;
        }

        /** Answers whether a finding has the sign of the run. */
        boolean countHit(Run run) {
            for (int c = 0; c < size; c++) {
                if (made[c].hasSignOf(run)) {
                    made[c].hits++;
                    return true;
                }
            }
            return false;
        }

        /** Answers null when there is no room left. */
        Finding begin(Input input, Run run) {
            if (size >= MOST_FINDINGS) {
                return null;
            }
            Finding finding = made[size];
            finding.begin(input, run);
            size++;
            return finding;
        }
    }

    private static final class Shortener {
        /** Six bytes shrink at most six times, and between two times the grain grows at most three times. */
        private static final int MOST_ROUNDS = 64;
        private static final int FIRST_GRAIN = 2;

        /** A run of its own, so that the run of the executed input stays as it was. */
        private final Run run = new Run();
        private final Input candidate = new Input();

        void shorten(Finding finding, Program program) {
            int grain = FIRST_GRAIN;
            for (int round = 0; round < MOST_ROUNDS; round++) {
                int n = finding.shortest.size;
                int parts = Math.min(grain, n);
                if (n == 0) {
                    return;
                }
                if (parts >= 2 && keepFirst(finding, program, parts, true)) {
                    grain = FIRST_GRAIN;
                } else if (keepFirst(finding, program, parts, false)) {
                    grain = Math.max(parts - 1, FIRST_GRAIN);
                } else if (parts == n) {
                    return;
                } else {
                    grain = Math.min(2 * parts, n);
                }
            }
        }

        private boolean keepFirst(Finding finding, Program program, int parts, boolean alone) {
            Input whole = finding.shortest;
            for (int i = 0; i < parts; i++) {
                int from = i * whole.size / parts;
                int to = (i + 1) * whole.size / parts;
                if (alone) {
                    makePart(whole, from, to);
                } else {
                    makeRest(whole, from, to);
                }
                run.perform(program, candidate);
                if (finding.hasSignOf(run)) {
                    whole.copy(candidate);
                    return true;
                }
            }
            return false;
        }

        private void makePart(Input whole, int from, int to) {
            candidate.cutTo(0);
            candidate.appendPart(whole, from, to);
        }

        private void makeRest(Input whole, int from, int to) {
            candidate.cutTo(0);
            candidate.appendPart(whole, 0, from);
            candidate.appendPart(whole, to, whole.size);
        }
    }

    private static final class Generator {
        private static final int ALL_BUT_HIGHEST_BIT = 0x7fffffff;

        private int x;

        Generator(int seed) {
            x = seed == 0 ? 1 : seed;
        }

        int draw(int n) {
            x ^= x << 13;
            x ^= x >>> 17;
            x ^= x << 5;
            return n > 0 ? (x & ALL_BUT_HIGHEST_BIT) % n : 0;
        }
    }

    private static final class Trials {
        private static final int MOST_ENERGY = 8;
        private static final int[] ADDED = {1, -1, 16, -16};
        private static final int[] PUT = {0, 127, 128, 255};

        private int taken = NONE;
        private int number;
        private int energy;

        void beginWithFirst(Store store) {
            if (taken == NONE && store.has(0)) {
                takeUp(store, 0);
            }
        }

        void change(Input changed, Store store, Generator generator) {
            if (!store.has(taken)) {
                return;
            }
            Input input = store.entries[taken].input;
            changed.copy(input);
            int n = input.size;
            int drawing = firstDrawing(input);
            if (number < 8 * n) {
                changed.turnBit(number >> 3, number & 7);
            } else if (number < 12 * n) {
                int t = number - 8 * n;
                changed.addTo(t >> 2, ADDED[t & 3]);
            } else if (number < drawing) {
                int t = number - 12 * n;
                changed.put(t >> 2, PUT[t & 3]);
            } else if (number < drawing + energy) {
                changeByDraws(changed, generator);
            } else {
                joinPartner(changed, store, generator);
            }
        }

        void advance(Store store) {
            if (!store.has(taken)) {
                return;
            }
            number++;
            int joining = firstDrawing(store.entries[taken].input) + energy;
            if (number < joining || number == joining && store.size >= 2) {
                return;
            }
            store.entries[taken].finished++;
            takeUp(store, next(store));
        }

        private static int firstDrawing(Input input) {
            return 16 * input.size;
        }

        private void takeUp(Store store, int e) {
            Entry entry = store.entries[e];
            taken = e;
            number = entry.finished > 0 ? firstDrawing(entry.input) : 0;
            energy = Math.min(MOST_ENERGY, entry.edgeCount) * (store.isFavoured(e) ? 2 : 1);
        }

        private int next(Store store) {
            int e = taken;
            for (int i = 0; i < store.size; i++) {
                e = store.behind(e);
                if (store.isFavoured(e) || store.entries[e].finished == 0) {
                    return e;
                }
            }
            return store.behind(taken);
        }

        private static void changeByDraws(Input changed, Generator generator) {
            int often = generator.draw(4) + 1;
            for (int i = 0; i < often; i++) {
                int kind = generator.draw(5);
                if (kind == 2) {
                    insertDrawn(changed, generator);
                } else if (changed.size > 0) {
                    changeDrawn(kind, changed, generator);
                }
            }
        }

        private static void insertDrawn(Input changed, Generator generator) {
            if (changed.size >= Input.MOST_BYTES) {
                return;
            }
            int b = generator.draw(Input.HIGHEST_BYTE + 1);
            changed.insert(generator.draw(changed.size + 1), b);
        }

        private static void changeDrawn(int kind, Input changed, Generator generator) {
            int n = changed.size;
            switch (kind) {
                case 0 -> {
                    int bit = generator.draw(8);
                    changed.turnBit(generator.draw(n), bit);
                }
                case 1 -> {
                    int place = generator.draw(n);
                    changed.put(place, generator.draw(Input.HIGHEST_BYTE + 1));
                }
                case 3 -> changed.takeOut(generator.draw(n));
                default -> {
                    int amount = generator.draw(16) - 8;
                    changed.addTo(generator.draw(n), amount);
                }
            }
        }

        private void joinPartner(Input changed, Store store, Generator generator) {
            int drawn = generator.draw(store.size - 1);
            int partner = drawn < taken ? drawn : drawn + 1;
            if (!store.has(partner)) {
                return;
            }
            Input other = store.entries[partner].input;
            int c = generator.draw(1 + Math.min(changed.size, other.size));
            changed.cutTo(c);
            changed.appendPart(other, c, other.size);
        }
    }
}
