import java.util.Arrays;
import java.util.function.Supplier;

/**
 * Asks a desk for everything that its calls can tell, so that two desks with the same probe are in
 * the same state. The asking uses a desk up, and an object has 512 calls at most: so each part of
 * it makes the desk anew.
 */
final class Probe {
    private static final int MOVEMENTS = 7;
    private static final int TYPES = 6;

    private final Supplier<RunwayDesk> desks;
    private final int[] edges;
    private final StringBuilder told = new StringBuilder();

    private Probe(Supplier<RunwayDesk> desks, int[] edges) {
        this.desks = desks;
        this.edges = edges;
    }

    /** The edges are the seconds at which a range or a closure may begin or end. */
    static String of(Supplier<RunwayDesk> desks, int[] edges) {
        Probe probe = new Probe(desks, edges);
        probe.plans(desks.get());
        probe.questions(desks.get());
        probe.settings(desks.get());
        probe.ranges(desks.get());
        for (int from = 0; from < edges.length; from += 100) {
            probe.closures(desks.get(), Arrays.copyOfRange(edges, from, Math.min(from + 100, edges.length)));
        }
        probe.numbers(desks.get());
        return probe.told.toString();
    }

    private interface Question {
        long ask();
    }

    private void tell(String name, Question question) {
        told.append(name).append('=');
        try {
            told.append(question.ask());
        } catch (RuntimeException thrown) {
            told.append(thrown.getClass().getSimpleName());
        }
        told.append(' ');
    }

    private void plans(RunwayDesk desk) {
        for (int i = 0; i < MOVEMENTS; i++) {
            int number = i;
            tell("at", () -> desk.at(number));
            tell("second", () -> desk.second(number));
            tell("changed", () -> desk.change(number, 0));
            tell("from", () -> desk.change(number, 1));
            tell("to", () -> desk.change(number, 2));
        }
        tell("accept", desk::accept);
    }

    private void questions(RunwayDesk desk) {
        tell("verify", desk::verify);
        tell("firstCome", desk::firstCome);
        tell("bound", desk::bound);
        for (int i = 0; i < MOVEMENTS; i++) {
            int number = i;
            tell("place", () -> desk.place(number));
            tell("slack", () -> desk.slack(number));
        }
        tell("solve", desk::solve);
        for (int i = 0; i < MOVEMENTS; i++) {
            int number = i;
            tell("solved", () -> desk.second(number));
        }
    }

    private void settings(RunwayDesk desk) {
        tell("limit", () -> desk.limit(6));
        for (int a = 0; a < TYPES; a++) {
            for (int b = 0; b < TYPES; b++) {
                int before = a;
                int behind = b;
                tell("gap", () -> desk.gap(before, behind, 60));
            }
        }
        tell("closures", desk::reopen);
        for (int i = 0; i < MOVEMENTS; i++) {
            int number = i;
            tell("frozen", () -> desk.thaw(number) ? 1 : 0);
        }
        // Now nothing but the types, targets and weights can make one desk's delay another's.
        tell("settled", desk::solve);
    }

    private void ranges(RunwayDesk desk) {
        for (int i = 0; i < MOVEMENTS; i++) {
            int number = i;
            for (int edge : edges) {
                tell("target", () -> desk.retarget(number, edge));
            }
        }
    }

    private void closures(RunwayDesk desk, int[] seconds) {
        for (int m = 0; m < MOVEMENTS; m++) {
            int number = m;
            tell("removed", () -> desk.remove(number));
        }
        for (int second : seconds) {
            int m = desk.add(0, second, second, second, 1);
            tell("open", desk::solve);
            desk.remove(m);
        }
    }

    private void numbers(RunwayDesk desk) {
        for (int i = 0; i <= MOVEMENTS; i++) {
            tell("number", () -> desk.add(0, 0, 0, 3000, 1));
        }
    }
}
