import java.util.ArrayDeque;
import java.util.ArrayList;
import java.util.Arrays;
import java.util.HashMap;
import java.util.HashSet;
import java.util.List;
import java.util.Map;
import java.util.Set;
import java.util.TreeMap;

/**
 * The document once more, in the slowest and plainest way, for comparison: nothing is kept that can be worked out
 * anew, and the best way is looked for by walking every way to its end.
 */
final class PlainModel {
    private static final int[] ROW_STEP = {0, -1, 0, 1, 0};
    private static final int[] COLUMN_STEP = {0, 0, 1, 0, -1};

    private static final class State {
        int[] oil = new int[96];
        List<int[]> skimmers = new ArrayList<>(); // cell, rate, room, speed, load, ever, went
        int lost;
        int away;

        State copy() {
            State other = new State();
            other.oil = oil.clone();
            for (int[] skimmer : skimmers) {
                other.skimmers.add(skimmer.clone());
            }
            other.lost = lost;
            other.away = away;
            return other;
        }
    }

    private final int[] rank = new int[96];
    private final Map<List<Integer>, int[]> weather = new HashMap<>();
    private final TreeMap<Integer, int[]> booms = new TreeMap<>(); // a, b, limit
    private final List<int[]> ships = new ArrayList<>(); // mark, cell, hour
    private final int[] parts = new int[4];
    private State state = new State();
    private int now;
    private int spilled;
    private Integer firstSpill;
    private int skimmerHours;

    private boolean sea(int cell) {
        return cell >= 0 && cell <= 95 && rank[cell] == 0;
    }

    private static boolean out(long value, long least, long most) {
        return value < least || value > most;
    }

    private static boolean beside(int a, int b) {
        return Math.abs(a / 12 - b / 12) + Math.abs(a % 12 - b % 12) == 1;
    }

    private static int to(int cell, int way) {
        int row = cell / 12 + ROW_STEP[way];
        int column = cell % 12 + COLUMN_STEP[way];
        return out(row, 0, 7) || out(column, 0, 11) ? -1 : row * 12 + column;
    }

    boolean shore(int cell, int newRank) {
        if (out(cell, 0, 95) || out(newRank, 0, 9) || now != 0 || state.oil[cell] != 0) {
            return false;
        }
        boolean taken = state.skimmers.stream().anyMatch(s -> s[0] == cell)
                || booms.values().stream().anyMatch(b -> b[0] == cell || b[1] == cell)
                || ships.stream().anyMatch(s -> s[1] == cell);
        if (taken) {
            return false;
        }
        rank[cell] = newRank;
        return true;
    }

    boolean weather(int world, int hour, int way, int force) {
        if (out(world, 0, 2) || out(hour, now, 500) || out(way, 0, 4) || out(force, 0, 9)) {
            return false;
        }
        weather.put(List.of(world, hour), new int[] {way, force});
        return true;
    }

    private int[] weatherAt(int world, int hour) {
        return weather.getOrDefault(List.of(world, hour), new int[] {0, 0});
    }

    private int[] boomBetween(int a, int b) {
        for (int[] boom : booms.values()) {
            if (boom[0] == a && boom[1] == b || boom[0] == b && boom[1] == a) {
                return boom;
            }
        }
        return null;
    }

    int boom(int a, int b, int limit) {
        if (!sea(a) || !sea(b) || !beside(a, b) || out(limit, 0, 9) || boomBetween(a, b) != null) {
            return -1;
        }
        for (int number = 0; number < 20; number++) {
            if (!booms.containsKey(number)) {
                booms.put(number, new int[] {a, b, limit});
                return number;
            }
        }
        return -1;
    }

    boolean lift(int boom) {
        return booms.remove(boom) != null;
    }

    int spill(int cell, int liters) {
        if (!sea(cell) || out(liters, 1, 100000) || spilled + liters > 1000000) {
            return -1;
        }
        if (firstSpill == null) {
            firstSpill = now;
        }
        spilled += liters;
        state.oil[cell] += liters;
        return state.oil[cell];
    }

    int skimmer(int cell, int rate, int room, int speed) {
        if (!sea(cell) || out(rate, 1, 5000) || out(room, 0, 100000) || out(speed, 1, 3)
                || state.skimmers.size() == 4) {
            return -1;
        }
        state.skimmers.add(new int[] {cell, rate, room, speed, 0, 0, 0});
        return state.skimmers.size() - 1;
    }

    private boolean noSkimmer(int number) {
        return out(number, 0, state.skimmers.size() - 1);
    }

    /** Breadth first over sea cells. */
    private Set<Integer> reach(int from, int speed) {
        Map<Integer, Integer> steps = new TreeMap<>();
        ArrayDeque<Integer> queue = new ArrayDeque<>();
        steps.put(from, 0);
        queue.add(from);
        while (!queue.isEmpty()) {
            int cell = queue.remove();
            for (int way = 1; way <= 4 && steps.get(cell) < speed; way++) {
                int next = to(cell, way);
                if (sea(next) && !steps.containsKey(next)) {
                    steps.put(next, steps.get(cell) + 1);
                    queue.add(next);
                }
            }
        }
        return steps.keySet();
    }

    boolean sail(int number, int cell) {
        if (noSkimmer(number)) {
            return false;
        }
        int[] skimmer = state.skimmers.get(number);
        if (skimmer[6] == 1 || !reach(skimmer[0], skimmer[3]).contains(cell)) {
            return false;
        }
        skimmer[0] = cell;
        skimmer[6] = 1;
        return true;
    }

    int empty(int number) {
        if (noSkimmer(number)) {
            return -1;
        }
        int[] skimmer = state.skimmers.get(number);
        int had = skimmer[4];
        skimmer[4] = 0;
        return had;
    }

    private void hour(State s, int world, int hour) {
        int[] told = weatherAt(world, hour);
        int[] before = s.oil.clone();
        for (int cell = 0; cell < 96 && told[0] != 0; cell++) {
            if (!sea(cell)) {
                continue;
            }
            int drifts = before[cell] / 2;
            int next = to(cell, told[0]);
            int[] boom = next == -1 ? null : boomBetween(cell, next);
            if (boom != null && told[1] <= boom[2]) {
                drifts = drifts / 10;
            }
            s.oil[cell] -= drifts;
            if (next == -1) {
                s.away += drifts;
            } else {
                s.oil[next] += drifts;
            }
        }
        int age = firstSpill == null ? 0 : hour - firstSpill;
        for (int cell = 0; cell < 96; cell++) {
            if (sea(cell)) {
                int loss = (int) ((long) s.oil[cell] * (age < 12 ? 30 : age < 48 ? 10 : 2) / 1000);
                s.oil[cell] -= loss;
                s.lost += loss;
            }
        }
        for (int[] skimmer : s.skimmers) {
            int takes = Math.min(Math.min(skimmer[1], s.oil[skimmer[0]]), skimmer[2] - skimmer[4]);
            s.oil[skimmer[0]] -= takes;
            skimmer[4] += takes;
            skimmer[5] += takes;
            skimmer[6] = 0;
        }
    }

    int go(int n) {
        if (out(n, 0, 48)) {
            return -1;
        }
        for (int i = 0; i < n && now < 500; i++) {
            hour(state, 0, now);
            skimmerHours += state.skimmers.size();
            now++;
        }
        return now;
    }

    int oil(int cell) {
        return out(cell, 0, 95) ? -1 : state.oil[cell];
    }

    private int harm(State s) {
        long sum = 0;
        for (int cell = 0; cell < 96; cell++) {
            sum += (long) s.oil[cell] * rank[cell];
        }
        return (int) (sum / 1000);
    }

    int foretold(int world, int n) {
        if (out(world, 0, 2) || out(n, 0, 48)) {
            return -1;
        }
        State copy = state.copy();
        for (int i = 0; i < n; i++) {
            hour(copy, world, now + i);
        }
        return harm(copy);
    }

    int worst(int n) {
        return Math.max(foretold(0, n), Math.max(foretold(1, n), foretold(2, n)));
    }

    int best(int number, int n, int what) {
        if (noSkimmer(number) || out(n, 1, 3) || out(what, 0, 1) || state.skimmers.get(number)[6] == 1) {
            return -1;
        }
        int[] found = {-1, -1};
        walk(state, number, n, 0, -1, found);
        return found[what];
    }

    private void walk(State s, int number, int n, int gone, int first, int[] found) {
        if (gone == n) {
            int taken = s.skimmers.get(number)[5] - state.skimmers.get(number)[5];
            if (taken > found[0]) {
                found[0] = taken;
                found[1] = first;
            }
            return;
        }
        int[] skimmer = s.skimmers.get(number);
        for (int cell : reach(skimmer[0], skimmer[3])) {
            State next = s.copy();
            next.skimmers.get(number)[0] = cell;
            hour(next, 0, now + gone);
            walk(next, number, n, gone + 1, gone == 0 ? cell : first, found);
        }
    }

    int ship(int mark, int cell, int hour) {
        if (out(mark, 0, 999999) || !sea(cell) || out(hour, 0, now) || ships.size() == 8) {
            return -1;
        }
        ships.add(new int[] {mark, cell, hour});
        return ships.size() - 1;
    }

    boolean could(int number, int cell) {
        if (out(number, 0, ships.size() - 1) || !sea(cell)) {
            return false;
        }
        Set<Integer> cells = new HashSet<>(List.of(ships.get(number)[1]));
        for (int hour = ships.get(number)[2]; hour < now; hour++) {
            int way = weatherAt(0, hour)[0];
            for (int from : List.copyOf(cells)) {
                if (way != 0 && sea(to(from, way))) {
                    cells.add(to(from, way));
                }
            }
        }
        return cells.contains(cell);
    }

    private static int difference(int mark, int digits) {
        String a = String.format("%06d", mark);
        String b = String.format("%06d", digits);
        int sum = 0;
        for (int i = 0; i < 6; i++) {
            sum += (a.charAt(i) - b.charAt(i)) * (a.charAt(i) - b.charAt(i));
        }
        return sum;
    }

    int sample(int cell, int digits) {
        if (!sea(cell) || out(digits, 0, 999999)) {
            return -1;
        }
        List<int[]> sums = new ArrayList<>();
        for (int number = 0; number < ships.size(); number++) {
            if (could(number, cell)) {
                sums.add(new int[] {difference(ships.get(number)[0], digits), number});
            }
        }
        sums.sort((a, b) -> a[0] != b[0] ? a[0] - b[0] : a[1] - b[1]);
        if (sums.isEmpty()) {
            return -1;
        }
        return sums.size() > 1 && sums.get(1)[0] < sums.get(0)[0] + 5 ? -2 : sums.get(0)[1];
    }

    boolean part(int party, int newParts) {
        if (out(party, 0, 3) || out(newParts, 0, 100)) {
            return false;
        }
        parts[party] = newParts;
        return true;
    }

    int bill(int party) {
        if (out(party, 0, 3)) {
            return -1;
        }
        int all = Arrays.stream(parts).sum();
        if (all == 0) {
            return 0;
        }
        long whole = count(8);
        long[] share = new long[4];
        List<long[]> cuts = new ArrayList<>();
        long left = whole;
        for (int i = 0; i < 4; i++) {
            share[i] = whole * parts[i] / all;
            left -= share[i];
            cuts.add(new long[] {whole * parts[i] % all, i});
        }
        cuts.sort((a, b) -> a[0] != b[0] ? Long.compare(b[0], a[0]) : Long.compare(a[1], b[1]));
        for (int i = 0; i < left; i++) {
            share[(int) cuts.get(i)[1]]++;
        }
        return (int) share[party];
    }

    int told(int number, int what) {
        if (noSkimmer(number) || out(what, 0, 3)) {
            return -1;
        }
        return state.skimmers.get(number)[new int[] {0, 4, 5, 6}[what]];
    }

    int count(int what) {
        int afloat = 0;
        int ashore = 0;
        for (int cell = 0; cell < 96; cell++) {
            afloat += rank[cell] == 0 ? state.oil[cell] : 0;
            ashore += rank[cell] != 0 ? state.oil[cell] : 0;
        }
        int skimmed = state.skimmers.stream().mapToInt(s -> s[5]).sum();
        int whole = 2 * skimmed + 50 * skimmerHours + 10 * harm(state);
        int[] all = {now, spilled, afloat, state.lost, ashore, state.away, skimmed, harm(state), whole,
            booms.size(), ships.size()};
        return out(what, 0, 10) ? -1 : all[what];
    }
}
