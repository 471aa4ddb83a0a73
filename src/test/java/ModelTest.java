import java.util.Random;

/** Random runs of calls, with fixed seeds: each answer is that of the naive desk. */
public final class ModelTest {
    private static final Check CHECK = new Check("ModelTest");
    /** What an object answers to later calls is free. */
    private static final int CALLS = 512;

    /** A run's inputs hang on how many movements it may have and how late its seconds may be. */
    private final Random random;
    private final int most;
    private final int lastSecond;
    private final int wrongInHundred;
    private final RunwayDesk desk = new RunwayDesk();
    private final NaiveDesk naive = new NaiveDesk();
    private int movements;
    private int calls;

    private ModelTest(long seed, int most, int lastSecond, int wrongInHundred) {
        this.random = new Random(seed);
        this.most = most;
        this.lastSecond = lastSecond;
        this.wrongInHundred = wrongInHundred;
    }

    public static void main(String[] args) {
        for (int seed = 0; seed < 500; seed++) {
            new ModelTest(seed, 2 + seed % 4, 150 + 50 * (seed % 12), 5).run(seed);
        }
        for (int seed = 500; seed < 525; seed++) {
            new ModelTest(seed, 7, seed % 2 == 0 ? 700 : 3000, 2).run(seed);
        }
        CHECK.end();
    }

    private interface Call {
        long on(boolean real);
    }

    private void compare(String what, Call call) {
        if (calls == CALLS) {
            return;
        }
        calls++;
        String due = answer(call, false);
        String got = answer(call, true);
        CHECK.isTrue(what + " answered " + got + ", due is " + due, got.equals(due));
    }

    private static String answer(Call call, boolean real) {
        try {
            return Long.toString(call.on(real));
        } catch (RuntimeException thrown) {
            return "throws." + thrown.getClass().getSimpleName();
        }
    }

    private void run(int seed) {
        for (int turn = 0; calls < CALLS; turn++) {
            String where = "seed " + seed + ", call " + calls + ": ";
            if (random.nextInt(100) < 45) {
                tell(where);
            } else {
                ask(where);
            }
            if (turn % 5 == 0) {
                solve(where);
            }
        }
    }

    private int among(int least, int greatest) {
        if (random.nextInt(100) < wrongInHundred) {
            int[] wrong = {least - 1, greatest + 1, Integer.MIN_VALUE, Integer.MAX_VALUE};
            return wrong[random.nextInt(wrong.length)];
        }
        return least + random.nextInt(greatest - least + 1);
    }

    private int movement() {
        return among(0, Math.min(most, 6));
    }

    private int second() {
        return among(0, lastSecond);
    }

    private void tell(String where) {
        int m = movement();
        int s = second();
        switch (random.nextInt(12)) {
            case 0: case 1: case 2: add(where); break;
            case 3: remove(where, m); break;
            case 4: gap(where); break;
            case 5: compare(where + "retarget " + m + " " + s,
                    real -> real ? desk.retarget(m, s) : naive.retarget(m, s)); break;
            case 6: limit(where); break;
            case 7: close(where); break;
            case 8: reopen(where); break;
            case 9: case 10: freeze(where, m, s); break;
            default: compare(where + "thaw " + m,
                    real -> (real ? desk.thaw(m) : naive.thaw(m)) ? 1 : 0); break;
        }
    }

    private void ask(String where) {
        int m = movement();
        int s = second();
        int what = among(0, 2);
        switch (random.nextInt(10)) {
            case 0: compare(where + "whatIf " + m + " " + s,
                    real -> real ? desk.whatIf(m, s) : naive.whatIf(m, s)); break;
            case 1: compare(where + "second " + m, real -> real ? desk.second(m) : naive.second(m)); break;
            case 2: compare(where + "at " + m, real -> real ? desk.at(m) : naive.at(m)); break;
            case 3: compare(where + "place " + m, real -> real ? desk.place(m) : naive.place(m)); break;
            case 4: compare(where + "verify", real -> real ? desk.verify() : naive.verify()); break;
            case 5: compare(where + "firstCome", real -> real ? desk.firstCome() : naive.firstCome()); break;
            case 6: compare(where + "bound", real -> real ? desk.bound() : naive.bound()); break;
            case 7: compare(where + "slack " + m, real -> real ? desk.slack(m) : naive.slack(m)); break;
            case 8: if (random.nextInt(3) == 0) {
                    compare(where + "accept", real -> real ? desk.accept() : naive.accept());
                } break;
            default: compare(where + "change " + m + " " + what,
                    real -> real ? desk.change(m, what) : naive.change(m, what)); break;
        }
    }

    private void solve(String where) {
        compare(where + "solve", real -> real ? desk.solve() : naive.solve());
        for (int m = 0; m < 7; m++) {
            int number = m;
            compare(where + "second " + m, real -> real ? desk.second(number) : naive.second(number));
            if (random.nextInt(3) == 0) {
                compare(where + "slack " + m, real -> real ? desk.slack(number) : naive.slack(number));
            }
        }
        compare(where + "verify", real -> real ? desk.verify() : naive.verify());
    }

    private void add(String where) {
        int a = second();
        int b = second();
        int early = Math.min(a, b);
        int late = Math.max(a, b);
        int target = late < Integer.MAX_VALUE && early >= 0 ? among(early, late) : a;
        int type = among(0, random.nextInt(3) == 0 ? 5 : 2);
        int weight = among(0, random.nextBoolean() ? 100 : 3);
        if (movements >= most && random.nextInt(10) != 0) {
            remove(where, random.nextInt(7));
            return;
        }
        String told = "add " + type + " " + early + " " + target + " " + late + " " + weight;
        compare(where + told, real -> real
                ? desk.add(type, early, target, late, weight)
                : movements(naive.add(type, early, target, late, weight), 1));
    }

    private void remove(String where, int m) {
        compare(where + "remove " + m,
                real -> real ? desk.remove(m) : movements(naive.remove(m), -1));
    }

    private int movements(int answer, int more) {
        movements += more;
        return answer;
    }

    private void gap(String where) {
        int a = among(0, 5);
        int b = among(0, 5);
        int seconds = among(45, random.nextBoolean() ? 100 : 300);
        compare(where + "gap " + a + " " + b + " " + seconds,
                real -> real ? desk.gap(a, b, seconds) : naive.gap(a, b, seconds));
    }

    private void limit(String where) {
        int places = among(0, 6);
        compare(where + "limit " + places, real -> real ? desk.limit(places) : naive.limit(places));
    }

    private void close(String where) {
        int from = second();
        int to = random.nextInt(20) == 0 ? second() : from + random.nextInt(1 + lastSecond / 8);
        compare(where + "close " + from + " " + to,
                real -> real ? desk.close(from, to) : naive.close(from, to));
    }

    private void reopen(String where) {
        compare(where + "reopen", real -> real ? desk.reopen() : naive.reopen());
    }

    private void freeze(String where, int m, int s) {
        compare(where + "freeze " + m + " " + s, real -> {
            if (real) {
                desk.freeze(m, s);
            } else {
                naive.freeze(m, s);
            }
            return 0;
        });
    }
}
