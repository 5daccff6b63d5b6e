import java.util.ArrayList;
import java.util.List;
import java.util.TreeMap;
import java.util.TreeSet;

/** The document once more, as near to its words as lists and maps allow, without a thought for speed. */
final class Reference {
    record Instruction(int op, int a, int b) {
    }

    /** What a run did; edges maps 24 * from + to to how often. */
    record Outcome(int end, int steps, List<Integer> sign, TreeMap<Integer, Integer> edges) {
    }

    static final class Kept {
        List<Integer> input;
        Outcome run;
        int finished;
    }

    static final class Trap {
        List<Integer> sign;
        List<Integer> input;
        List<Integer> shortest;
        int hits;
    }

    final List<Instruction> program = new ArrayList<>();
    final List<Kept> entries = new ArrayList<>();
    final List<Trap> traps = new ArrayList<>();
    List<Integer> draft = new ArrayList<>();
    int executions;
    int hangs;
    int lost;
    int lostTwice;
    int x;
    int taken = -1;
    int trial;
    int energy;

    Reference(int seed) {
        x = seed == 0 ? 1 : seed;
    }

    boolean emit(int op, int a, int b) {
        boolean bIsRight;
        if (List.of(2, 3, 4, 5, 11, 13, 14).contains(op)) {
            bIsRight = b >= 0 && b <= 3;
        } else if (List.of(6, 7, 8, 9).contains(op)) {
            bIsRight = b >= 0 && b <= 23;
        } else if (List.of(0, 10, 15).contains(op)) {
            bIsRight = b == 0;
        } else {
            bIsRight = op == 1 || op == 12;
        }
        if (!bIsRight || a < 0 || a > 3 || program.size() == 24 || executions > 0) {
            return false;
        }
        return program.add(new Instruction(op, a, b));
    }

    boolean feed(int b) {
        return b >= 0 && b <= 255 && draft.size() < 6 && draft.add(b);
    }

    int plant() {
        List<Integer> input = draft;
        draft = new ArrayList<>();
        return execute(input);
    }

    int fuzz(int n) {
        if (n < 1 || n > 20) {
            return -1;
        }
        if (entries.isEmpty()) {
            return 0;
        }
        for (int i = 0; i < n; i++) {
            oneTrial();
        }
        return n;
    }

    // ---- a run

    Outcome run(List<Integer> input) {
        int[] r = new int[4];
        int[] memory = new int[4];
        ArrayList<Integer> stack = new ArrayList<>();
        TreeMap<Integer, Integer> edges = new TreeMap<>();
        int pc = 0;
        int steps = 0;
        while (true) {
            if (pc < 0 || pc >= program.size()) {
                return new Outcome(0, steps, null, edges);
            }
            if (steps == 64) {
                return new Outcome(5, steps, null, edges);
            }
            Instruction now = program.get(pc);
            int here = pc;
            int a = now.a();
            int b = now.b();
            int trap = 0;
            boolean over = false;
            pc = here + 1;
            steps++;
            if (now.op() == 0) {
                over = true;
            } else if (now.op() == 1) {
                r[a] = b;
            } else if (now.op() == 2) {
                r[a] = r[b] >= 0 && r[b] < input.size() ? input.get(r[b]) : -1;
            } else if (now.op() == 3) {
                r[a] = (int) ((long) r[a] + r[b]);
            } else if (now.op() == 4) {
                r[a] = (int) ((long) r[a] - r[b]);
            } else if (now.op() == 5) {
                r[a] = (int) ((long) r[a] * r[b]);
            } else if (now.op() == 6) {
                if (r[a] == 0) {
                    pc = b;
                }
            } else if (now.op() == 7) {
                if (r[a] < 0) {
                    pc = b;
                }
            } else if (now.op() == 8) {
                pc = b;
            } else if (now.op() == 9) {
                if (stack.size() == 3) {
                    trap = 4;
                } else {
                    stack.add(here + 1);
                    pc = b;
                }
            } else if (now.op() == 10) {
                if (stack.isEmpty()) {
                    over = true;
                } else {
                    pc = stack.remove(stack.size() - 1);
                }
            } else if (now.op() == 11) {
                if (r[b] == 0) {
                    trap = 2;
                } else {
                    r[a] = (int) ((long) r[a] / r[b]);
                }
            } else if (now.op() == 12) {
                trap = r[a] == b ? 1 : 0;
            } else if (now.op() == 15) {
                r[a] = input.size();
            } else if (r[b] < 0 || r[b] > 3) {
                trap = 3;
            } else if (now.op() == 13) {
                r[a] = memory[r[b]];
            } else {
                memory[r[b]] = r[a];
            }
            if (over) {
                return new Outcome(0, steps, null, edges);
            }
            if (trap != 0) {
                List<Integer> sign = new ArrayList<>(List.of(trap, here));
                sign.addAll(stack);
                return new Outcome(trap, steps, sign, edges);
            }
            if (now.op() >= 6 && now.op() <= 10 && pc < program.size()) {
                edges.merge(24 * here + pc, 1, Integer::sum);
            }
        }
    }

    static int bucket(int times) {
        int[] least = {1, 2, 3, 4, 8, 16};
        int bucket = 0;
        while (bucket < 5 && times >= least[bucket + 1]) {
            bucket++;
        }
        return bucket;
    }

    static TreeSet<Integer> pairs(Outcome run) {
        TreeSet<Integer> pairs = new TreeSet<>();
        run.edges().forEach((edge, times) -> pairs.add(edge * 6 + bucket(times)));
        return pairs;
    }

    TreeSet<Integer> seenPairs() {
        TreeSet<Integer> seen = new TreeSet<>();
        entries.forEach(entry -> seen.addAll(pairs(entry.run)));
        return seen;
    }

    TreeSet<Integer> seenEdges() {
        TreeSet<Integer> seen = new TreeSet<>();
        entries.forEach(entry -> seen.addAll(entry.run.edges().keySet()));
        return seen;
    }

    // ---- to execute

    int execute(List<Integer> input) {
        Outcome run = run(input);
        int lostBefore = lost;
        executions++;
        if (run.end() == 5) {
            hangs++;
        }
        if (!seenPairs().containsAll(pairs(run))) {
            if (entries.size() == 16) {
                lost++;
            } else {
                Kept entry = new Kept();
                entry.input = List.copyOf(input);
                entry.run = run;
                entries.add(entry);
            }
        }
        if (run.sign() != null) {
            Trap known = null;
            for (Trap trap : traps) {
                if (trap.sign.equals(run.sign())) {
                    known = trap;
                }
            }
            if (known != null) {
                known.hits++;
            } else if (traps.size() == 8) {
                lost++;
            } else {
                Trap trap = new Trap();
                trap.sign = run.sign();
                trap.input = List.copyOf(input);
                trap.shortest = shortest(trap.input, trap.sign);
                trap.hits = 1;
                traps.add(trap);
            }
        }
        if (lost == lostBefore + 2) {
            lostTwice++;
        }
        if (taken < 0 && !entries.isEmpty()) {
            takeUp(0);
        }
        return run.end();
    }

    List<Integer> shortest(List<Integer> start, List<Integer> sign) {
        List<Integer> input = start;
        int g = 2;
        search:
        while (!input.isEmpty()) {
            int n = input.size();
            int h = Math.min(g, n);
            if (h >= 2) {
                for (int i = 0; i < h; i++) {
                    List<Integer> part = input.subList(i * n / h, (i + 1) * n / h);
                    if (sign.equals(run(part).sign())) {
                        input = List.copyOf(part);
                        g = 2;
                        continue search;
                    }
                }
            }
            for (int i = 0; i < h; i++) {
                List<Integer> rest = new ArrayList<>(input);
                rest.subList(i * n / h, (i + 1) * n / h).clear();
                if (sign.equals(run(rest).sign())) {
                    input = rest;
                    g = Math.max(h - 1, 2);
                    continue search;
                }
            }
            if (h == n) {
                break;
            }
            g = Math.min(2 * h, n);
        }
        return input;
    }

    // ---- trials

    TreeSet<Integer> favoured() {
        TreeSet<Integer> favoured = new TreeSet<>();
        for (int edge : seenEdges()) {
            boolean covered = false;
            int top = -1;
            for (int e = 0; e < entries.size(); e++) {
                if (entries.get(e).run.edges().containsKey(edge)) {
                    covered |= favoured.contains(e);
                    if (top < 0 || cost(e) < cost(top)) {
                        top = e;
                    }
                }
            }
            if (!covered) {
                favoured.add(top);
            }
        }
        return favoured;
    }

    int cost(int e) {
        return entries.get(e).run.steps() * (1 + entries.get(e).input.size());
    }

    void takeUp(int e) {
        taken = e;
        trial = entries.get(e).finished == 0 ? 0 : 16 * entries.get(e).input.size();
        energy = Math.min(8, entries.get(e).run.edges().size());
        if (favoured().contains(e)) {
            energy *= 2;
        }
    }

    int draw(int n) {
        x = x ^ x << 13;
        x = x ^ x >>> 17;
        x = x ^ x << 5;
        return (x & 0x7fffffff) % n;
    }

    void oneTrial() {
        Kept entry = entries.get(taken);
        int n = entry.input.size();
        execute(changed(entry.input, n));
        trial++;
        boolean over = trial > 16 * n + energy || trial == 16 * n + energy && entries.size() < 2;
        if (over) {
            entry.finished++;
            int size = entries.size();
            TreeSet<Integer> favoured = favoured();
            int next = (taken + 1) % size;
            for (int i = size; i >= 1; i--) {
                int e = (taken + i) % size;
                if (favoured.contains(e) || entries.get(e).finished == 0) {
                    next = e;
                }
            }
            takeUp(next);
        }
    }

    List<Integer> changed(List<Integer> input, int n) {
        List<Integer> made = new ArrayList<>(input);
        int t = trial;
        if (t < 8 * n) {
            made.set(t / 8, made.get(t / 8) ^ 1 << t % 8);
            return made;
        }
        t -= 8 * n;
        if (t < 4 * n) {
            int added = List.of(1, -1, 16, -16).get(t % 4);
            made.set(t / 4, (made.get(t / 4) + 256 + added) % 256);
            return made;
        }
        t -= 4 * n;
        if (t < 4 * n) {
            made.set(t / 4, List.of(0, 127, 128, 255).get(t % 4));
            return made;
        }
        t -= 4 * n;
        if (t < energy) {
            drawChanges(made);
            return made;
        }
        int partner = draw(entries.size() - 1);
        if (partner >= taken) {
            partner++;
        }
        List<Integer> other = entries.get(partner).input;
        int c = draw(1 + Math.min(n, other.size()));
        made = new ArrayList<>(input.subList(0, c));
        made.addAll(other.subList(c, other.size()));
        return made;
    }

    void drawChanges(List<Integer> made) {
        for (int left = draw(4) + 1; left > 0; left--) {
            int k = draw(5);
            int n = made.size();
            if (k == 2 ? n == 6 : n == 0) {
                continue;
            }
            if (k == 0) {
                int bit = draw(8);
                int place = draw(n);
                made.set(place, made.get(place) ^ 1 << bit);
            } else if (k == 1) {
                int place = draw(n);
                int b = draw(256);
                made.set(place, b);
            } else if (k == 2) {
                int b = draw(256);
                int place = draw(n + 1);
                made.add(place, b);
            } else if (k == 3) {
                made.remove(draw(n));
            } else {
                int amount = draw(16) - 8;
                int place = draw(n);
                made.set(place, Math.floorMod(made.get(place) + amount, 256));
            }
        }
    }

    // ---- what can be asked

    int count(int which) {
        int[] counts = {
            executions, hangs, lost, entries.size(), traps.size(), seenEdges().size(), seenPairs().size()
        };
        return which < 0 || which >= counts.length ? -1 : counts[which];
    }

    int entry(int e, int which) {
        if (e < 0 || e >= entries.size() || which < 0 || which > 4) {
            return -1;
        }
        Kept entry = entries.get(e);
        int[] answers = {
            entry.input.size(), entry.run.steps(), entry.run.edges().size(), entry.finished,
            favoured().contains(e) ? 1 : 0
        };
        return answers[which];
    }

    int entryByte(int e, int k) {
        return e < 0 || e >= entries.size() ? -1 : byteOf(entries.get(e).input, k);
    }

    int seen(int from, int to) {
        int sum = 0;
        if (from >= 0 && from < 24 && to >= 0 && to < 24) {
            TreeSet<Integer> pairs = seenPairs();
            for (int b = 0; b <= 5; b++) {
                sum += pairs.contains((24 * from + to) * 6 + b) ? 1 << b : 0;
            }
        }
        return sum;
    }

    int finding(int c, int which) {
        if (c < 0 || c >= traps.size() || which < 0 || which > 8) {
            return -1;
        }
        Trap trap = traps.get(c);
        int places = trap.sign.size() - 2;
        if (which >= 3 && which <= 5) {
            int behind = which - 3;
            return behind < places ? trap.sign.get(trap.sign.size() - 1 - behind) : 0;
        }
        return switch (which) {
            case 0, 1 -> trap.sign.get(which);
            case 2 -> places;
            case 6 -> trap.hits;
            case 7 -> trap.input.size();
            default -> trap.shortest.size();
        };
    }

    int findingByte(int c, boolean shortest, int k) {
        if (c < 0 || c >= traps.size()) {
            return -1;
        }
        return byteOf(shortest ? traps.get(c).shortest : traps.get(c).input, k);
    }

    int current(int which) {
        if (entries.isEmpty() || which < 0 || which > 2) {
            return -1;
        }
        return which == 0 ? taken : which == 1 ? trial : energy;
    }

    private static int byteOf(List<Integer> input, int k) {
        return k < 0 || k >= input.size() ? -1 : input.get(k);
    }
}
