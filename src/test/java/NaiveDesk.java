import java.util.ArrayList;
import java.util.Comparator;
import java.util.List;
import java.util.Map;
import java.util.NoSuchElementException;
import java.util.TreeMap;

/** The document, word for word and without haste: what the class's answers are compared with. */
final class NaiveDesk {
    static final int NONE = -1;

    private static final class Movement {
        int number;
        int type;
        int early;
        int target;
        int late;
        int weight;
        Integer frozen;
    }

    private final TreeMap<Integer, Movement> movements = new TreeMap<>();
    private final int[][] gaps = new int[6][6];
    private final List<int[]> closures = new ArrayList<>();
    private int limit = 6;
    private TreeMap<Integer, Integer> result = new TreeMap<>();
    private TreeMap<Integer, Integer> accepted = new TreeMap<>();

    private TreeMap<Integer, Integer> best;
    private int bestDelay;

    NaiveDesk() {
        for (int[] row : gaps) {
            java.util.Arrays.fill(row, 60);
        }
    }

    int gap(int a, int b, int seconds) {
        if (a < 0 || a > 5 || b < 0 || b > 5 || seconds < 45 || seconds > 300) {
            throw new IllegalArgumentException();
        }
        int before = gaps[a][b];
        gaps[a][b] = seconds;
        return before;
    }

    int add(int type, int early, int target, int late, int weight) {
        for (int second : new int[] {early, target, late}) {
            if (second < 0 || second > 3000) {
                throw new IllegalArgumentException();
            }
        }
        if (type < 0 || type > 5 || weight < 0 || weight > 100 || target < early || target > late) {
            throw new IllegalArgumentException();
        }
        if (movements.size() == 7) {
            throw new IllegalStateException();
        }
        Movement movement = new Movement();
        while (movements.containsKey(movement.number)) {
            movement.number++;
        }
        movement.type = type;
        movement.early = early;
        movement.target = target;
        movement.late = late;
        movement.weight = weight;
        movements.put(movement.number, movement);
        return movement.number;
    }

    int remove(int m) {
        movement(m);
        movements.remove(m);
        result.remove(m);
        accepted.remove(m);
        return movements.size();
    }

    int retarget(int m, int target) {
        Movement movement = movement(m);
        inRange(movement, target);
        int before = movement.target;
        movement.target = target;
        return before;
    }

    int limit(int places) {
        if (places < 0 || places > 6) {
            throw new IllegalArgumentException();
        }
        int before = limit;
        limit = places;
        return before;
    }

    int close(int from, int to) {
        if (from < 0 || from > 3000 || to < 0 || to > 3000 || from > to) {
            throw new IllegalArgumentException();
        }
        if (closures.size() == 4) {
            throw new IllegalStateException();
        }
        closures.add(new int[] {from, to});
        return closures.size();
    }

    int reopen() {
        int before = closures.size();
        closures.clear();
        return before;
    }

    void freeze(int m, int second) {
        Movement movement = movement(m);
        inRange(movement, second);
        if (isClosed(second)) {
            throw new IllegalStateException();
        }
        for (Movement other : movements.values()) {
            if (other != movement && other.frozen != null) {
                int at = other.frozen;
                boolean near = at == second
                        || at < second && second < at + gaps[other.type][movement.type]
                        || at > second && at < second + gaps[movement.type][other.type];
                if (near) {
                    throw new IllegalStateException();
                }
            }
        }
        movement.frozen = second;
    }

    boolean thaw(int m) {
        Movement movement = movement(m);
        boolean was = movement.frozen != null;
        movement.frozen = null;
        return was;
    }

    int solve() {
        TreeMap<Integer, Integer> plan = bestPlan();
        if (plan == null) {
            return NONE;
        }
        result = plan;
        return delay(plan);
    }

    int whatIf(int m, int target) {
        Movement movement = movement(m);
        inRange(movement, target);
        int before = movement.target;
        movement.target = target;
        TreeMap<Integer, Integer> plan = bestPlan();
        int answer = plan == null ? NONE : delay(plan);
        movement.target = before;
        return answer;
    }

    int second(int m) {
        movement(m);
        if (!result.containsKey(m)) {
            throw new IllegalStateException();
        }
        return result.get(m);
    }

    int at(int i) {
        List<Integer> order = order(result);
        if (i < 0 || i >= order.size()) {
            throw new IndexOutOfBoundsException();
        }
        return order.get(i);
    }

    int place(int m) {
        movement(m);
        return firstComeOrder().indexOf(m);
    }

    int verify() {
        return leastUnsound(result);
    }

    int firstCome() {
        TreeMap<Integer, Integer> plan = earliestSeconds(firstComeOrder());
        return plan == null ? NONE : delay(plan);
    }

    int bound() {
        int sum = 0;
        for (int m : movements.keySet()) {
            TreeMap<Integer, Integer> alone = earliestSeconds(List.of(m));
            if (alone == null) {
                return NONE;
            }
            sum += delay(alone);
        }
        return sum;
    }

    int slack(int m) {
        movement(m);
        if (verify() != NONE) {
            throw new IllegalStateException();
        }
        int slack = 0;
        TreeMap<Integer, Integer> moved = new TreeMap<>(result);
        for (int more = 1; result.get(m) + more <= movements.get(m).late; more++) {
            moved.put(m, result.get(m) + more);
            if (leastUnsound(moved) == NONE) {
                slack = more;
            }
        }
        return slack;
    }

    int accept() {
        int changes = changed().size();
        accepted = new TreeMap<>(result);
        return changes;
    }

    int change(int k, int what) {
        List<Integer> changed = changed();
        if (k < 0 || k >= changed.size()) {
            throw new IndexOutOfBoundsException();
        }
        if (what < 0 || what > 2) {
            throw new IllegalArgumentException();
        }
        int m = changed.get(k);
        return what == 0 ? m : (what == 1 ? accepted : result).getOrDefault(m, NONE);
    }

    /** Whether a plan is sound, as the section Terms tells it, not by verify's list of faults. */
    boolean isSound(Map<Integer, Integer> plan) {
        if (!plan.keySet().equals(movements.keySet())) {
            return false;
        }
        List<Integer> order = order(plan);
        List<Integer> firstCome = firstComeOrder();
        for (int m : order) {
            Movement movement = movements.get(m);
            int second = plan.get(m);
            int off = Math.abs(order.indexOf(m) - firstCome.indexOf(m));
            if (!mayHave(movement, second) || movement.frozen == null && off > limit) {
                return false;
            }
            for (int other : order.subList(0, order.indexOf(m))) {
                if (second - plan.get(other) < gaps[movements.get(other).type][movement.type]) {
                    return false;
                }
            }
        }
        return true;
    }

    int delay(Map<Integer, Integer> plan) {
        int sum = 0;
        for (int m : plan.keySet()) {
            Movement movement = movements.get(m);
            sum += movement.weight * Math.max(0, plan.get(m) - movement.target);
        }
        return sum;
    }

    /** All orders, in the sequence in which the document compares them. */
    private TreeMap<Integer, Integer> bestPlan() {
        best = null;
        tryOrders(new ArrayList<>(), firstComeOrder());
        return best;
    }

    private void tryOrders(List<Integer> order, List<Integer> firstCome) {
        if (order.size() == firstCome.size()) {
            TreeMap<Integer, Integer> plan = earliestSeconds(order);
            if (plan != null && isSound(plan) && (best == null || delay(plan) < bestDelay)) {
                best = plan;
                bestDelay = delay(plan);
            }
            return;
        }
        for (int m : firstCome) {
            if (!order.contains(m)) {
                order.add(m);
                tryOrders(order, firstCome);
                order.remove(order.size() - 1);
            }
        }
    }

    private TreeMap<Integer, Integer> earliestSeconds(List<Integer> order) {
        TreeMap<Integer, Integer> plan = new TreeMap<>();
        for (int m : order) {
            Movement movement = movements.get(m);
            int second = movement.early;
            while (second <= movement.late && !isSoundBehind(movement, second, plan)) {
                second++;
            }
            if (second > movement.late) {
                return null;
            }
            plan.put(m, second);
        }
        return plan;
    }

    private boolean isSoundBehind(Movement movement, int second, Map<Integer, Integer> plan) {
        for (Map.Entry<Integer, Integer> before : plan.entrySet()) {
            int gap = gaps[movements.get(before.getKey()).type][movement.type];
            if (second < before.getValue() + gap) {
                return false;
            }
        }
        return mayHave(movement, second);
    }

    private boolean mayHave(Movement movement, int second) {
        return movement.early <= second && second <= movement.late && !isClosed(second)
                && (movement.frozen == null || movement.frozen == second);
    }

    private boolean isClosed(int second) {
        for (int[] closure : closures) {
            if (closure[0] <= second && second <= closure[1]) {
                return true;
            }
        }
        return false;
    }

    private int leastUnsound(Map<Integer, Integer> plan) {
        List<Integer> order = order(plan);
        List<Integer> firstCome = firstComeOrder();
        for (Movement movement : movements.values()) {
            int m = movement.number;
            if (!plan.containsKey(m) || !mayHave(movement, plan.get(m))) {
                return m;
            }
            for (int other : order.subList(0, order.indexOf(m))) {
                int gap = gaps[movements.get(other).type][movement.type];
                if (plan.get(m) < plan.get(other) + gap) {
                    return m;
                }
            }
            int off = Math.abs(order.indexOf(m) - firstCome.indexOf(m));
            if (movement.frozen == null && off > limit) {
                return m;
            }
        }
        return NONE;
    }

    private static List<Integer> order(Map<Integer, Integer> plan) {
        List<Integer> order = new ArrayList<>(plan.keySet());
        order.sort(Comparator.comparingInt((Integer m) -> plan.get(m)).thenComparingInt(m -> m));
        return order;
    }

    private List<Integer> firstComeOrder() {
        List<Integer> order = new ArrayList<>(movements.keySet());
        order.sort(Comparator.comparingInt((Integer m) -> movements.get(m).target)
                .thenComparingInt(m -> m));
        return order;
    }

    private List<Integer> changed() {
        List<Integer> changed = new ArrayList<>();
        for (int m : movements.keySet()) {
            if (result.getOrDefault(m, NONE) != (int) accepted.getOrDefault(m, NONE)) {
                changed.add(m);
            }
        }
        return changed;
    }

    private Movement movement(int m) {
        if (!movements.containsKey(m)) {
            throw new NoSuchElementException();
        }
        return movements.get(m);
    }

    private static void inRange(Movement movement, int second) {
        if (second < movement.early || second > movement.late) {
            throw new IllegalArgumentException();
        }
    }
}
