import java.util.ArrayList;
import java.util.Collections;
import java.util.List;
import java.util.Random;
import java.util.TreeMap;

/**
 * The best plan of three movements against every plan there is, second by second: neither the
 * earliest seconds of an order nor the orders are taken for granted here.
 */
public final class PlansTest {
    private static final Check CHECK = new Check("PlansTest");
    private static final int MOVEMENTS = 3;

    private final Random random;
    private final RunwayDesk desk = new RunwayDesk();
    private final NaiveDesk naive = new NaiveDesk();
    private final int[] early = new int[MOVEMENTS];
    private final int[] late = new int[MOVEMENTS];

    private int least = RunwayDesk.NONE;
    private List<Integer> bestOrder;
    private int[] bestSeconds;

    private PlansTest(long seed) {
        random = new Random(seed);
    }

    public static void main(String[] args) {
        for (int seed = 0; seed < 800; seed++) {
            new PlansTest(seed).run("seed " + seed + ": ");
        }
        CHECK.end();
    }

    private void run(String where) {
        prepare();
        tryPlans(new int[MOVEMENTS], 0);
        CHECK.same(where + "solve", desk.solve(), least);
        if (least != RunwayDesk.NONE) {
            for (int m = 0; m < MOVEMENTS; m++) {
                CHECK.same(where + "second of " + m, desk.second(m), bestSeconds[m]);
                CHECK.same(where + "at " + m, desk.at(m), numberAt(bestOrder.get(m)));
            }
        }
    }

    private void prepare() {
        for (int a = 0; a < MOVEMENTS; a++) {
            for (int b = 0; b < MOVEMENTS; b++) {
                int gap = 45 + random.nextInt(random.nextInt(4) == 0 ? 100 : 20);
                desk.gap(a, b, gap);
                naive.gap(a, b, gap);
            }
        }
        for (int m = 0; m < MOVEMENTS; m++) {
            early[m] = random.nextInt(100);
            late[m] = early[m] + random.nextInt(90);
            int target = early[m] + random.nextInt(Math.min(8, late[m] - early[m] + 1));
            int weight = random.nextInt(3);
            desk.add(m, early[m], target, late[m], weight);
            naive.add(m, early[m], target, late[m], weight);
        }
        for (int c = random.nextInt(4); c > 0; c--) {
            int from = random.nextInt(190);
            int to = from + random.nextInt(15);
            desk.close(from, to);
            naive.close(from, to);
        }
        int limit = random.nextInt(4);
        desk.limit(limit);
        naive.limit(limit);
        for (int m = 0; m < MOVEMENTS; m++) {
            if (random.nextInt(4) == 0) {
                freeze(m, early[m] + random.nextInt(late[m] - early[m] + 1));
            }
        }
    }

    private void freeze(int m, int second) {
        try {
            naive.freeze(m, second);
        } catch (IllegalStateException closedOrTooNear) {
            return;
        }
        desk.freeze(m, second);
    }

    private void tryPlans(int[] seconds, int m) {
        if (m == MOVEMENTS) {
            tryPlan(seconds);
            return;
        }
        for (seconds[m] = early[m]; seconds[m] <= late[m]; seconds[m]++) {
            if (mayFit(seconds, m)) {
                tryPlans(seconds, m + 1);
            }
        }
    }

    /** No gap is under 45, so most plans need no closer look. */
    private static boolean mayFit(int[] seconds, int m) {
        for (int other = 0; other < m; other++) {
            if (Math.abs(seconds[other] - seconds[m]) < 45) {
                return false;
            }
        }
        return true;
    }

    private void tryPlan(int[] seconds) {
        TreeMap<Integer, Integer> plan = new TreeMap<>();
        for (int m = 0; m < MOVEMENTS; m++) {
            plan.put(m, seconds[m]);
        }
        if (naive.isSound(plan) && isBetter(naive.delay(plan), firstComePlaces(seconds), seconds)) {
            least = naive.delay(plan);
            bestOrder = firstComePlaces(seconds);
            bestSeconds = seconds.clone();
        }
    }

    /** The first-come places of the movements in the order of their seconds. */
    private List<Integer> firstComePlaces(int[] seconds) {
        List<Integer> order = new ArrayList<>();
        for (int m = 0; m < MOVEMENTS; m++) {
            order.add(m);
        }
        Collections.sort(order, (a, b) -> Integer.compare(seconds[a], seconds[b]));
        List<Integer> places = new ArrayList<>();
        for (int m : order) {
            places.add(naive.place(m));
        }
        return places;
    }

    private int numberAt(int firstComePlace) {
        for (int m = 0; m < MOVEMENTS; m++) {
            if (naive.place(m) == firstComePlace) {
                return m;
            }
        }
        return RunwayDesk.NONE;
    }

    private boolean isBetter(int delay, List<Integer> order, int[] seconds) {
        if (least == RunwayDesk.NONE || delay != least) {
            return least == RunwayDesk.NONE || delay < least;
        }
        for (int i = 0; i < MOVEMENTS; i++) {
            if (!order.get(i).equals(bestOrder.get(i))) {
                return order.get(i) < bestOrder.get(i);
            }
        }
        for (int place : order) {
            int m = numberAt(place);
            if (seconds[m] != bestSeconds[m]) {
                return seconds[m] < bestSeconds[m];
            }
        }
        return false;
    }
}
