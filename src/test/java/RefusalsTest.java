import java.util.NoSuchElementException;
import java.util.function.Consumer;
import java.util.function.Supplier;

/**
 * "Methods throw what they list, the first that is so, in the order in which it is told; a call
 * that throws changes nothing." Each call that a method refuses, on three desks: an empty one, one
 * with all that may be there, and one whose result is not sound.
 */
public final class RefusalsTest {
    private static final Check CHECK = new Check("RefusalsTest");
    private static final Class<IllegalArgumentException> ARGUMENT = IllegalArgumentException.class;
    private static final Class<IllegalStateException> STATE = IllegalStateException.class;
    private static final Class<IndexOutOfBoundsException> INDEX = IndexOutOfBoundsException.class;
    private static final Class<NoSuchElementException> ELEMENT = NoSuchElementException.class;
    private static final int NONE = RunwayDesk.NONE;
    private static final int LOW = Integer.MIN_VALUE;
    private static final int HIGH = Integer.MAX_VALUE;

    /** The first and the last second of each range and closure below, and their neighbours. */
    private static final int[] EDGES = {0, 1, 9, 10, 11, 19, 20, 49, 50, 60, 61, 100, 120, 140, 160,
        180, 199, 200, 220, 299, 300, 310, 311, 899, 900, 901, 999, 1000, 1001, 1100, 1101, 1500,
        1501, 2000, 2001, 2500, 2501, 2600, 2601, 2989, 2990, 3000};

    private final String name;
    private final Supplier<RunwayDesk> desks;
    private final String probe;

    private RefusalsTest(String name, Supplier<RunwayDesk> desks) {
        this.name = name;
        this.desks = desks;
        this.probe = Probe.of(desks, EDGES);
    }

    public static void main(String[] args) {
        RefusalsTest empty = new RefusalsTest("empty", RunwayDesk::new);
        RefusalsTest full = new RefusalsTest("full", RefusalsTest::full);
        RefusalsTest unsound = new RefusalsTest("unsound", RefusalsTest::unsound);
        theDesksAreAsMeant();
        theProbeSeesChanges(full);
        for (RefusalsTest desk : new RefusalsTest[] {empty, full, unsound}) {
            desk.settingsOutOfBounds();
            desk.noSuchMovement(-1);
            desk.noSuchMovement(7);
            desk.noSuchMovement(LOW);
            desk.noSuchMovement(HIGH);
            desk.noSuchIndex();
        }
        empty.noSuchMovement(0);
        empty.noSuchMovement(6);
        unsound.noSuchMovement(3);
        unsound.noSuchMovement(6);
        full.outOfRange();
        full.allThatMayBeThere();
        full.frozenTooNear();
        unsound.nothingInTheResult();
        for (RefusalsTest desk : new RefusalsTest[] {full, unsound}) {
            desk.anotherWhat();
        }
        full.questionsChangeNothing();
        withoutPlan().noPlanChangesNothing();
        CHECK.end();
    }

    /** Seven movements, four closures, gaps that all differ, a sound result, an older plan. */
    private static RunwayDesk full() {
        RunwayDesk desk = new RunwayDesk();
        for (int a = 0; a < 6; a++) {
            for (int b = 0; b < 6; b++) {
                desk.gap(a, b, 45 + 6 * a + b);
            }
        }
        desk.add(0, 0, 100, 900, 3);
        desk.add(1, 10, 120, 1000, 5);
        desk.add(2, 20, 140, 1500, 1);
        desk.add(3, 0, 160, 2000, 2);
        desk.add(4, 0, 180, 2500, 7);
        desk.add(5, 200, 200, 2600, 4);
        desk.add(0, 0, 220, 3000, 6);
        desk.close(50, 60);
        desk.solve();
        desk.accept();
        desk.close(300, 310);
        desk.close(1000, 1100);
        desk.close(2990, 3000);
        desk.freeze(3, 1200);
        desk.freeze(4, 1700);
        desk.limit(5);
        desk.solve();
        return desk;
    }

    /** Movements 0, 1, 2, 4 and 5, of which the result does not have the first two. */
    private static RunwayDesk unsound() {
        RunwayDesk desk = new RunwayDesk();
        for (int m = 0; m < 6; m++) {
            desk.add(m, 10, 100, 900, 1 + m);
        }
        desk.remove(3);
        desk.solve();
        desk.accept();
        desk.remove(1);
        desk.remove(0);
        desk.freeze(5, 899);
        desk.solve();
        desk.add(0, 0, 120, 1000, 5);
        desk.add(1, 20, 140, 1500, 1);
        desk.close(50, 60);
        desk.close(300, 310);
        desk.limit(3);
        return desk;
    }

    private static void theDesksAreAsMeant() {
        CHECK.same("full: the result is sound", full().verify(), NONE);
        CHECK.same("full: movements have changed", full().change(1, 0) > 0 ? 1 : 0, 1);
        CHECK.same("unsound: the result is not sound", unsound().verify(), 0);
        CHECK.same("unsound: a movement has changed", unsound().change(0, 2) == NONE ? 0 : 1, 1);
    }

    /** The probe would be worth nothing if it did not tell one state from another. */
    private static void theProbeSeesChanges(RefusalsTest full) {
        full.changes("gap", desk -> desk.gap(5, 4, 300));
        full.changes("remove", desk -> desk.remove(6));
        full.changes("add", desk -> {
            desk.remove(6);
            desk.add(0, 0, 220, 2999, 6);
        });
        full.changes("type", desk -> {
            desk.remove(6);
            desk.add(5, 0, 220, 3000, 6);
        });
        full.changes("weight", desk -> {
            desk.remove(2);
            desk.add(2, 20, 140, 1500, 2);
        });
        full.changes("retarget", desk -> desk.retarget(2, 141));
        full.changes("limit", desk -> desk.limit(6));
        full.changes("close", desk -> {
            desk.reopen();
            desk.close(50, 60);
            desk.close(300, 310);
            desk.close(1000, 1099);
            desk.close(2990, 3000);
        });
        full.changes("reopen", desk -> desk.reopen());
        full.changes("freeze", desk -> desk.freeze(3, 1201));
        full.changes("thaw", desk -> desk.thaw(4));
        full.changes("accept", desk -> desk.accept());
        full.changes("solve", desk -> {
            desk.thaw(3);
            desk.solve();
            desk.freeze(3, 1200);
        });
    }

    private void changes(String what, Consumer<RunwayDesk> call) {
        CHECK.isTrue(name + ": the probe does not see " + what, !probe.equals(probeAfter(call)));
    }

    private void leaves(String what, Consumer<RunwayDesk> call) {
        CHECK.isTrue(name + ": " + what + " has changed something", probe.equals(probeAfter(call)));
    }

    private String probeAfter(Consumer<RunwayDesk> call) {
        return Probe.of(() -> {
            RunwayDesk desk = desks.get();
            call.accept(desk);
            return desk;
        }, EDGES);
    }

    private void refuses(String what, Class<? extends RuntimeException> due, Consumer<RunwayDesk> call) {
        RunwayDesk desk = desks.get();
        CHECK.fails(name + ": " + what, due, () -> call.accept(desk));
        leaves(what, other -> {
            try {
                call.accept(other);
            } catch (RuntimeException refused) {
                // The kind has been looked at above: here what it leaves behind counts.
            }
        });
    }

    private void settingsOutOfBounds() {
        for (int type : new int[] {-1, 6, LOW, HIGH}) {
            refuses("gap from type " + type, ARGUMENT, desk -> desk.gap(type, 0, 100));
            refuses("gap to type " + type, ARGUMENT, desk -> desk.gap(0, type, 100));
            refuses("add of type " + type, ARGUMENT, desk -> desk.add(type, 0, 0, 0, 0));
        }
        for (int seconds : new int[] {-1, 0, 44, 301, LOW, HIGH}) {
            refuses("gap of " + seconds, ARGUMENT, desk -> desk.gap(0, 0, seconds));
        }
        for (int weight : new int[] {-1, 101, LOW, HIGH}) {
            refuses("add with weight " + weight, ARGUMENT, desk -> desk.add(0, 0, 0, 0, weight));
        }
        for (int places : new int[] {-1, 7, LOW, HIGH}) {
            refuses("limit " + places, ARGUMENT, desk -> desk.limit(places));
        }
        int[][] ranges = {{-1, 0, 0}, {-1, -1, 0}, {-1, -1, -1}, {0, 3000, 3001}, {0, 3001, 3001},
            {3001, 3001, 3001}, {10, 9, 20}, {10, 21, 20}, {20, 15, 10}, {LOW, 0, 0}, {HIGH, 0, 0},
            {0, LOW, 0}, {0, HIGH, 0}, {0, 0, LOW}, {0, 0, HIGH}, {LOW, LOW, LOW}, {HIGH, HIGH, HIGH}};
        for (int[] r : ranges) {
            refuses("add with the range " + r[0] + " " + r[1] + " " + r[2], ARGUMENT,
                    desk -> desk.add(0, r[0], r[1], r[2], 0));
        }
        int[][] closures = {{-1, 0}, {-1, -1}, {0, 3001}, {3001, 3001}, {1, 0}, {3000, 2999}, {LOW, 0},
            {HIGH, 0}, {0, LOW}, {0, HIGH}, {LOW, HIGH}, {HIGH, LOW}, {LOW, LOW}, {HIGH, HIGH}};
        for (int[] c : closures) {
            refuses("close " + c[0] + " " + c[1], ARGUMENT, desk -> desk.close(c[0], c[1]));
        }
    }

    /** Where a second is told too, it is one that is fine, one that is out of range, or closed. */
    private void noSuchMovement(int m) {
        refuses("remove " + m, ELEMENT, desk -> desk.remove(m));
        refuses("thaw " + m, ELEMENT, desk -> desk.thaw(m));
        refuses("second " + m, ELEMENT, desk -> desk.second(m));
        refuses("place " + m, ELEMENT, desk -> desk.place(m));
        refuses("slack " + m, ELEMENT, desk -> desk.slack(m));
        for (int second : new int[] {100, 55, -1, 3001, LOW, HIGH}) {
            refuses("retarget " + m + " " + second, ELEMENT, desk -> desk.retarget(m, second));
            refuses("whatIf " + m + " " + second, ELEMENT, desk -> desk.whatIf(m, second));
            refuses("freeze " + m + " " + second, ELEMENT, desk -> desk.freeze(m, second));
        }
    }

    private void noSuchIndex() {
        for (int index : new int[] {-1, 7, LOW, HIGH}) {
            refuses("at " + index, INDEX, desk -> desk.at(index));
            for (int what : new int[] {0, 1, 2, -1, 3, LOW, HIGH}) {
                refuses("change " + index + " " + what, INDEX, desk -> desk.change(index, what));
            }
        }
    }

    /** Movement 3 has the range 0 .. 2000, movement 5 has 200 .. 2600. */
    private void outOfRange() {
        int[][] wrong = {{3, -1}, {3, 2001}, {3, LOW}, {3, HIGH}, {5, 199}, {5, 2601}, {5, 0}, {5, 3000}};
        for (int[] w : wrong) {
            refuses("retarget " + w[0] + " " + w[1], ARGUMENT, desk -> desk.retarget(w[0], w[1]));
            refuses("whatIf " + w[0] + " " + w[1], ARGUMENT, desk -> desk.whatIf(w[0], w[1]));
            refuses("freeze " + w[0] + " " + w[1], ARGUMENT, desk -> desk.freeze(w[0], w[1]));
        }
        refuses("freeze out of range and in a closure", ARGUMENT, desk -> desk.freeze(5, 55));
        refuses("freeze out of range and too near", ARGUMENT, desk -> desk.freeze(0, 1200));
    }

    private void allThatMayBeThere() {
        refuses("an eighth movement", STATE, desk -> desk.add(0, 0, 0, 0, 0));
        refuses("an eighth movement", STATE, desk -> desk.add(5, 3000, 3000, 3000, 100));
        refuses("a fifth closure", STATE, desk -> desk.close(0, 0));
        refuses("a fifth closure", STATE, desk -> desk.close(0, 3000));
        refuses("a fifth closure", STATE, desk -> desk.close(3000, 3000));
    }

    /** Movement 3 is frozen at 1200, movement 4 at 1700, and the gap of a to b is 45 + 6 a + b. */
    private void frozenTooNear() {
        for (int second : new int[] {50, 60, 300, 310}) {
            refuses("freeze in the closure at " + second, STATE, desk -> desk.freeze(0, second));
        }
        int behind = 45 + 6 * 3 + 5;
        int before = 45 + 6 * 5 + 3;
        for (int second : new int[] {1200, 1201, 1200 + behind - 1, 1199, 1200 - before + 1}) {
            refuses("freeze too near at " + second, STATE, desk -> desk.freeze(5, second));
        }
        refuses("freeze one that is frozen too near", STATE, desk -> desk.freeze(4, 1200));
        refuses("freeze one that is frozen in a closure", STATE, desk -> desk.freeze(4, 1000));
        new RefusalsTest("frozen beside a closure", () -> {
            RunwayDesk desk = full();
            desk.freeze(3, 1101);
            return desk;
        }).refuses("freeze in a closure and too near", STATE, desk -> desk.freeze(5, 1100));
    }

    private void nothingInTheResult() {
        refuses("second of one that the result does not have", STATE, desk -> desk.second(0));
        refuses("second of one that the result does not have", STATE, desk -> desk.second(1));
        for (int m : new int[] {0, 1, 2, 4, 5}) {
            refuses("slack in a result that is not sound", STATE, desk -> desk.slack(m));
        }
        refuses("at behind the last", INDEX, desk -> desk.at(3));
        refuses("slack and second of no movement", ELEMENT, desk -> desk.slack(3));
    }

    private void anotherWhat() {
        for (int what : new int[] {-1, 3, LOW, HIGH}) {
            refuses("change of what " + what, ARGUMENT, desk -> desk.change(0, what));
        }
    }

    private void questionsChangeNothing() {
        for (int target : new int[] {200, 1500, 2600}) {
            leaves("whatIf to " + target, desk -> desk.whatIf(5, target));
        }
        leaves("whatIf of a frozen one", desk -> desk.whatIf(3, 2000));
        leaves("the questions", desk -> {
            desk.verify();
            desk.firstCome();
            desk.bound();
            for (int m = 0; m < 7; m++) {
                desk.second(m);
                desk.at(m);
                desk.place(m);
                desk.slack(m);
                desk.change(0, m % 3);
            }
        });
        leaves("solve again", desk -> desk.solve());
    }

    private static RefusalsTest withoutPlan() {
        return new RefusalsTest("without a plan", () -> {
            RunwayDesk desk = full();
            desk.gap(3, 4, 45);
            desk.freeze(4, 1245);
            desk.gap(3, 4, 46);
            return desk;
        });
    }

    private void noPlanChangesNothing() {
        CHECK.same(name + ": solve", desks.get().solve(), NONE);
        CHECK.same(name + ": whatIf", desks.get().whatIf(0, 101), NONE);
        leaves("solve", desk -> desk.solve());
        leaves("whatIf", desk -> desk.whatIf(0, 101));
    }
}
