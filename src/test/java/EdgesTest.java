import java.util.NoSuchElementException;

/** What the promises 1 to 21 say of their edges: the last that is fine, the first that is not. */
public final class EdgesTest {
    private static final Check CHECK = new Check("EdgesTest");
    private static final Class<IllegalArgumentException> ARGUMENT = IllegalArgumentException.class;
    private static final Class<IllegalStateException> STATE = IllegalStateException.class;
    private static final Class<IndexOutOfBoundsException> INDEX = IndexOutOfBoundsException.class;
    private static final Class<NoSuchElementException> ELEMENT = NoSuchElementException.class;
    private static final int NONE = RunwayDesk.NONE;
    private static final int LOW = Integer.MIN_VALUE;
    private static final int HIGH = Integer.MAX_VALUE;

    public static void main(String[] args) {
        promise1NothingIsThere();
        promise2FromNowOn();
        promise3TheFirstOfTwo();
        promise4HowManyThereAre();
        promise5Range();
        promise5WhatStays();
        promise6FromNowOn();
        promise7TheFirstOfTwo();
        promise7WhatStays();
        promise8NoneAndAll();
        promise9Range();
        promise9Closures();
        promise9TooNear();
        promise9BetweenTwo();
        promise9OthersThatDoNotCount();
        promise9InsteadOfAnother();
        promise9TheFirstOfTwo();
        promise10WhetherItWas();
        promise11JustOneSecond();
        promise11TheResultStays();
        promise12Range();
        promise12OfTheTargetItHas();
        promise12Places();
        promise13Seconds();
        promise14Indices();
        promise15Places();
        promise16TheLeast();
        promise16ForTheFirstAndTheLast();
        promise16TooNear();
        promise16AmongThoseThatItHas();
        promise17OneAndSeven();
        promise17FrozenOnes();
        promise18Closures();
        promise18Frozen();
        promise18OneCouldHaveNone();
        promise19Range();
        promise19Closures();
        promise19BeforeTheNext();
        promise19PastOthers();
        promise19FrozenOnes();
        promise19NotSound();
        promise20NoneAndAll();
        promise21NoneAndAll();
        promise21What();
        CHECK.end();
    }

    private static void same(String what, long got, long due) {
        CHECK.same(what, got, due);
    }

    private static void fails(String what, Class<? extends RuntimeException> due, Runnable call) {
        CHECK.fails(what, due, call);
    }

    private static int is(boolean so) {
        return so ? 1 : 0;
    }

    /** Adds a movement of type 0 and weight 1 that can be at one second only. */
    private static int fix(RunwayDesk desk, int second) {
        return desk.add(0, second, second, second, 1);
    }

    /** A desk with so many movements of type 0, range 0 .. 3000, target 0 and weight 1. */
    private static RunwayDesk alike(int movements) {
        RunwayDesk desk = new RunwayDesk();
        for (int m = 0; m < movements; m++) {
            desk.add(0, 0, 0, 3000, 1);
        }
        return desk;
    }

    private static void promise1NothingIsThere() {
        RunwayDesk desk = new RunwayDesk();
        for (int m : new int[] {-1, 0, 1, 6, 7, LOW, HIGH}) {
            fails("1: no movement " + m, ELEMENT, () -> desk.remove(m));
            fails("1: no movement at " + m, INDEX, () -> desk.at(m));
            fails("1: no change " + m, INDEX, () -> desk.change(m, 0));
        }
        same("1: no closures", desk.reopen(), 0);
        same("1: solve", desk.solve(), 0);
        same("1: verify", desk.verify(), NONE);
        same("1: firstCome", desk.firstCome(), 0);
        same("1: bound", desk.bound(), 0);
        same("1: accept", desk.accept(), 0);
        fails("1: still none in the result", INDEX, () -> desk.at(0));
    }

    private static void promise2FromNowOn() {
        RunwayDesk desk = alike(2);
        desk.solve();
        same("2: the one before", desk.gap(0, 0, 61), 60);
        same("2: the result stays", desk.second(1), 60);
        same("2: but is not sound any more", desk.verify(), 1);
        same("2: from now on", desk.solve(), 61);
        same("2: the same one again", desk.gap(0, 0, 61), 61);
        desk.freeze(0, 0);
        desk.freeze(1, 61);
        same("2: frozen ones may be too near from now on", desk.gap(0, 0, 62), 61);
        same("2: they stay frozen", is(desk.thaw(1)), 1);
        for (int a : new int[] {-1, 6, LOW, HIGH}) {
            fails("2: no type, and no gap", ARGUMENT, () -> desk.gap(a, a, a));
        }
        same("2: refused calls left it", desk.gap(0, 0, 60), 62);
    }

    private static void promise3TheFirstOfTwo() {
        RunwayDesk desk = alike(7);
        fails("3: there are 7", STATE, () -> desk.add(5, 0, 3000, 3000, 100));
        int[][] wrong = {{-1, 0, 0, 0, 0}, {6, 0, 0, 0, 0}, {0, -1, 0, 0, 0}, {0, 0, 0, 3001, 0},
            {0, 1, 0, 1, 0}, {0, 0, 1, 0, 0}, {0, 0, 0, 0, -1}, {0, 0, 0, 0, 101},
            {LOW, LOW, LOW, LOW, LOW}, {HIGH, HIGH, HIGH, HIGH, HIGH}};
        for (int[] w : wrong) {
            fails("3: there are 7, and it is wrong", ARGUMENT,
                    () -> desk.add(w[0], w[1], w[2], w[3], w[4]));
        }
        desk.remove(6);
        same("3: there are 6", desk.add(5, 0, 3000, 3000, 100), 6);
    }

    private static void promise4HowManyThereAre() {
        RunwayDesk desk = alike(7);
        int[] order = {3, 0, 6, 1, 5, 2, 4};
        for (int i = 0; i < 7; i++) {
            same("4: how many there are", desk.remove(order[i]), 6 - i);
            int gone = order[i];
            fails("4: it is not there any more", ELEMENT, () -> desk.remove(gone));
        }
        same("4: none are left to solve", desk.solve(), 0);
        same("4: the first number again", desk.add(0, 0, 0, 0, 0), 0);
        same("4: how many there are again", desk.remove(0), 0);
    }

    private static void promise5Range() {
        RunwayDesk desk = new RunwayDesk();
        desk.add(0, 100, 150, 200, 1);
        fix(desk, 0);
        fix(desk, 3000);
        same("5: the earliest", desk.retarget(0, 100), 150);
        same("5: the latest", desk.retarget(0, 200), 100);
        same("5: the one that it has", desk.retarget(0, 200), 200);
        same("5: the only one, 0", desk.retarget(1, 0), 0);
        same("5: the only one, 3000", desk.retarget(2, 3000), 3000);
        int[][] wrong = {{0, 99}, {0, 201}, {0, LOW}, {0, HIGH}, {1, -1}, {1, 1}, {2, 2999}, {2, 3001}};
        for (int[] w : wrong) {
            fails("5: " + w[0] + " to " + w[1], ARGUMENT, () -> desk.retarget(w[0], w[1]));
        }
        for (int target : new int[] {150, 99, -1, LOW, HIGH}) {
            fails("5: no movement, to " + target, ELEMENT, () -> desk.retarget(3, target));
        }
        same("5: refused calls left it", desk.retarget(0, 150), 200);
    }

    private static void promise5WhatStays() {
        RunwayDesk desk = alike(2);
        desk.freeze(0, 500);
        desk.solve();
        desk.retarget(0, 3000);
        same("5: the result stays", desk.second(0), 500);
        same("5: it stays frozen", is(desk.thaw(0)), 1);
        desk.limit(0);
        same("5: the place is that of the target", desk.place(0), 1);
        same("5: and so it is sound", desk.verify(), NONE);
        desk.retarget(0, 0);
        same("5: with the target from before it is not", desk.verify(), 0);
    }

    private static void promise6FromNowOn() {
        RunwayDesk desk = new RunwayDesk();
        desk.add(0, 500, 500, 3000, 1);
        desk.add(0, 0, 501, 3000, 1);
        same("6: one place away", desk.solve(), 0);
        same("6: the limit before", desk.limit(0), 6);
        same("6: the result stays", desk.at(0), 1);
        same("6: but is not sound any more", desk.verify(), 0);
        same("6: no place away", desk.solve(), 59);
        same("6: the limit before", desk.limit(1), 0);
        same("6: one place away again", desk.solve(), 0);
        same("6: the same one again", desk.limit(1), 1);
    }

    private static void promise7TheFirstOfTwo() {
        RunwayDesk desk = new RunwayDesk();
        for (int c = 1; c <= 4; c++) {
            same("7: how many there are", desk.close(0, 3000), c);
        }
        fails("7: there are 4", STATE, () -> desk.close(0, 3000));
        int[][] wrong = {{-1, 0}, {0, 3001}, {1, 0}, {3000, 2999}, {LOW, HIGH}, {HIGH, LOW}, {LOW, LOW},
            {HIGH, HIGH}, {-1, -1}, {3001, 3001}};
        for (int[] w : wrong) {
            fails("7: there are 4, and it is wrong", ARGUMENT, () -> desk.close(w[0], w[1]));
        }
        same("7: how many there were", desk.reopen(), 4);
        for (int[] w : wrong) {
            fails("7: " + w[0] + " to " + w[1], ARGUMENT, () -> desk.close(w[0], w[1]));
        }
        same("7: refused ones do not count", desk.close(3000, 3000), 1);
        same("7: the least one", desk.close(0, 0), 2);
    }

    private static void promise7WhatStays() {
        RunwayDesk desk = alike(1);
        desk.freeze(0, 100);
        desk.solve();
        same("7: over a frozen one", desk.close(100, 100), 1);
        same("7: the result stays", desk.second(0), 100);
        same("7: but is not sound any more", desk.verify(), 0);
        same("7: it stays frozen", is(desk.thaw(0)), 1);
        same("7: solve", desk.solve(), 0);
    }

    private static void promise8NoneAndAll() {
        RunwayDesk desk = alike(1);
        same("8: none", desk.reopen(), 0);
        for (int c = 1; c <= 4; c++) {
            desk.close(10 * c - 10, 10 * c - 1);
        }
        same("8: all closed", desk.solve(), 40);
        same("8: all", desk.reopen(), 4);
        same("8: the result stays", desk.second(0), 40);
        same("8: none any more", desk.reopen(), 0);
        same("8: all open", desk.solve(), 0);
        for (int c = 1; c <= 4; c++) {
            same("8: room for four again", desk.close(5, 5), c);
        }
        fails("8: and no more", STATE, () -> desk.close(5, 5));
        same("8: the former ones do not come back", desk.solve(), 0);
    }

    private static void promise9Range() {
        RunwayDesk desk = new RunwayDesk();
        desk.add(0, 100, 150, 200, 1);
        fix(desk, 0);
        fix(desk, 3000);
        for (int second : new int[] {99, 201, 0, 3000, LOW, HIGH}) {
            fails("9: out of range at " + second, ARGUMENT, () -> desk.freeze(0, second));
        }
        fails("9: below the only second", ARGUMENT, () -> desk.freeze(1, -1));
        fails("9: above the only second", ARGUMENT, () -> desk.freeze(2, 3001));
        same("9: none of these is frozen", is(desk.thaw(0)) + is(desk.thaw(1)) + is(desk.thaw(2)), 0);
        desk.freeze(0, 100);
        desk.freeze(0, 200);
        desk.freeze(1, 0);
        desk.freeze(2, 3000);
        same("9: all are frozen", desk.solve(), 50);
    }

    private static void promise9Closures() {
        RunwayDesk desk = alike(1);
        desk.close(100, 200);
        desk.close(0, 0);
        desk.close(3000, 3000);
        desk.close(300, 300);
        for (int second : new int[] {0, 100, 101, 199, 200, 300, 3000}) {
            fails("9: closed at " + second, STATE, () -> desk.freeze(0, second));
        }
        for (int second : new int[] {1, 99, 201, 299, 301, 2999}) {
            desk.freeze(0, second);
            same("9: open at " + second, desk.solve(), second);
        }
        fails("9: closed, and frozen at an open one", STATE, () -> desk.freeze(0, 100));
        same("9: it stays where it was", desk.solve(), 2999);
    }

    private static void promise9TooNear() {
        for (int gap : new int[] {45, 300}) {
            int other = 345 - gap;
            RunwayDesk desk = new RunwayDesk();
            desk.gap(1, 2, gap);
            desk.gap(2, 1, other);
            desk.add(1, 0, 0, 3000, 1);
            desk.add(2, 0, 0, 3000, 1);
            desk.freeze(0, 1000);
            for (int second : new int[] {1000, 1001, 999, 1000 + gap - 1, 1000 - other + 1}) {
                fails("9: too near at " + second, STATE, () -> desk.freeze(1, second));
            }
            same("9: it is not frozen", is(desk.thaw(1)), 0);
            desk.freeze(1, 1000 + gap);
            same("9: just behind", desk.solve(), 2000 + gap);
            desk.freeze(1, 1000 - other);
            same("9: just before", desk.solve(), 2000 - other);
        }
    }

    private static void promise9BetweenTwo() {
        RunwayDesk desk = alike(3);
        desk.freeze(0, 100);
        desk.freeze(2, 219);
        for (int second : new int[] {159, 160}) {
            fails("9: no room between two at " + second, STATE, () -> desk.freeze(1, second));
        }
        desk.freeze(2, 220);
        fails("9: too near to the first", STATE, () -> desk.freeze(1, 159));
        fails("9: too near to the last", STATE, () -> desk.freeze(1, 161));
        desk.freeze(1, 160);
        same("9: just between two", desk.solve(), 480);
    }

    private static void promise9OthersThatDoNotCount() {
        RunwayDesk desk = alike(4);
        desk.solve();
        desk.freeze(0, 60);
        same("9: one that is not frozen does not count", desk.solve() == NONE ? 0 : 1, 1);
        desk.thaw(0);
        desk.freeze(1, 60);
        desk.thaw(1);
        desk.freeze(2, 60);
        desk.remove(2);
        desk.freeze(3, 60);
        same("9: nor one that was, nor one that is gone", is(desk.thaw(3)), 1);
    }

    private static void promise9InsteadOfAnother() {
        RunwayDesk desk = alike(2);
        desk.freeze(0, 100);
        desk.freeze(0, 101);
        desk.freeze(0, 101);
        same("9: its own second does not count", desk.bound(), 101);
        desk.freeze(1, 161);
        fails("9: another one's does", STATE, () -> desk.freeze(0, 102));
        same("9: it stays where it was", desk.bound(), 262);
        desk.gap(0, 0, 61);
        fails("9: the gap is another one now", STATE, () -> desk.freeze(0, 101));
        desk.freeze(0, 100);
        same("9: one earlier", desk.bound(), 261);
    }

    private static void promise9TheFirstOfTwo() {
        RunwayDesk desk = alike(1);
        desk.add(0, 100, 100, 200, 1);
        desk.close(50, 99);
        desk.freeze(0, 201);
        fails("9: no movement, out of all ranges", ELEMENT, () -> desk.freeze(2, -1));
        fails("9: no movement, closed", ELEMENT, () -> desk.freeze(2, 50));
        fails("9: no movement, too near", ELEMENT, () -> desk.freeze(2, 201));
        fails("9: out of range, closed", ARGUMENT, () -> desk.freeze(1, 99));
        fails("9: out of range, too near", ARGUMENT, () -> desk.freeze(1, 201));
        fails("9: in range, too near", STATE, () -> desk.freeze(1, 200));
    }

    private static void promise10WhetherItWas() {
        RunwayDesk desk = alike(7);
        for (int m = 0; m < 7; m++) {
            same("10: it was not", is(desk.thaw(m)), 0);
            desk.freeze(m, 60 * m);
        }
        for (int m : new int[] {-1, 7, LOW, HIGH}) {
            fails("10: no movement " + m, ELEMENT, () -> desk.thaw(m));
        }
        for (int m = 0; m < 7; m++) {
            same("10: it was", is(desk.thaw(m)), 1);
            same("10: it is not any more", is(desk.thaw(m)), 0);
        }
        desk.freeze(0, 0);
        desk.remove(0);
        fails("10: it is gone", ELEMENT, () -> desk.thaw(0));
    }

    private static void promise11JustOneSecond() {
        RunwayDesk desk = new RunwayDesk();
        desk.add(0, 0, 0, 3000, 1);
        desk.close(0, 1499);
        desk.close(1501, 3000);
        same("11: one second is open", desk.solve(), 1500);
        desk.add(0, 0, 0, 3000, 1);
        same("11: for one movement only", desk.solve(), NONE);
        desk.remove(0);
        same("11: for the other one too", desk.solve(), 1500);
        desk.close(1500, 1500);
        same("11: none is open", desk.solve(), NONE);
        RunwayDesk pushed = new RunwayDesk();
        fix(pushed, 2940);
        pushed.add(0, 2900, 2900, 3000, 1);
        same("11: the very last second", pushed.solve(), 100);
        pushed.gap(0, 0, 61);
        same("11: one behind the very last second", pushed.solve(), NONE);
    }

    private static void promise11TheResultStays() {
        RunwayDesk desk = new RunwayDesk();
        fix(desk, 0);
        fix(desk, 1);
        same("11: no sound plan", desk.solve(), NONE);
        fails("11: the result stays without movements", INDEX, () -> desk.at(0));
        fails("11: and second is refused", STATE, () -> desk.second(0));
        same("11: and nothing has changed", desk.accept(), 0);
        desk.remove(1);
        same("11: a plan of delay 0 is a plan", desk.solve(), 0);
        fix(desk, 1);
        same("11: no sound plan again", desk.solve(), NONE);
        same("11: the result stays", desk.at(0), 0);
        fails("11: without the other one", INDEX, () -> desk.at(1));
    }

    private static void promise12Range() {
        RunwayDesk desk = new RunwayDesk();
        desk.add(0, 100, 150, 200, 3);
        desk.freeze(0, 200);
        int[][] due = {{100, 300}, {101, 297}, {199, 3}, {200, 0}};
        for (int[] d : due) {
            same("12: target " + d[0], desk.whatIf(0, d[0]), d[1]);
        }
        for (int target : new int[] {99, 201, LOW, HIGH}) {
            fails("12: target " + target, ARGUMENT, () -> desk.whatIf(0, target));
        }
        for (int m : new int[] {-1, 1, 7, LOW, HIGH}) {
            fails("12: no movement " + m, ELEMENT, () -> desk.whatIf(m, 150));
            fails("12: no movement " + m + ", and no target", ELEMENT, () -> desk.whatIf(m, m));
        }
        fails("12: the result has no movement", INDEX, () -> desk.at(0));
        same("12: the target stays", desk.retarget(0, 150), 150);
    }

    private static void promise12OfTheTargetItHas() {
        RunwayDesk desk = alike(7);
        same("12: as solve", desk.whatIf(3, 0), desk.solve());
        same("12: the others come first", desk.whatIf(3, 3000), 60 * 15);
        desk.close(0, 3000);
        same("12: no plan", desk.whatIf(3, 0), NONE);
        desk.reopen();
        desk.remove(3);
        same("12: the result stays", desk.at(5), 6);
    }

    private static void promise12Places() {
        RunwayDesk desk = alike(2);
        desk.limit(0);
        desk.freeze(0, 60);
        same("12: the frozen one has to be first", desk.solve(), 60 + 120);
        same("12: it would still be, by its number", desk.whatIf(1, 0), 60 + 120);
        same("12: it would be behind", desk.whatIf(0, 1), 59);
        same("12: it is not", desk.place(0), 0);
    }

    private static void promise13Seconds() {
        RunwayDesk desk = new RunwayDesk();
        fix(desk, 0);
        fix(desk, 3000);
        fails("13: not in the result", STATE, () -> desk.second(0));
        desk.solve();
        same("13: the first second", desk.second(0), 0);
        same("13: the last second", desk.second(1), 3000);
        for (int m : new int[] {-1, 2, 7, LOW, HIGH}) {
            fails("13: no movement " + m, ELEMENT, () -> desk.second(m));
        }
        fix(desk, 1000);
        fails("13: added since", STATE, () -> desk.second(2));
        desk.remove(0);
        fails("13: removed since", ELEMENT, () -> desk.second(0));
        fix(desk, 0);
        fails("13: removed and added since", STATE, () -> desk.second(0));
        same("13: the other one stays", desk.second(1), 3000);
    }

    private static void promise14Indices() {
        RunwayDesk desk = new RunwayDesk();
        for (int m = 0; m < 7; m++) {
            fix(desk, 60 * (6 - m));
        }
        for (int i : new int[] {-1, 0, 6, 7, LOW, HIGH}) {
            fails("14: before solve " + i, INDEX, () -> desk.at(i));
        }
        desk.solve();
        for (int i = 0; i < 7; i++) {
            same("14: at " + i, desk.at(i), 6 - i);
        }
        for (int i : new int[] {-1, 7, LOW, HIGH}) {
            fails("14: at " + i, INDEX, () -> desk.at(i));
        }
        for (int left = 6; left > 0; left--) {
            int behind = left;
            desk.remove(6 - left);
            same("14: the last of those that are left", desk.at(behind - 1), 7 - left);
            fails("14: behind the last", INDEX, () -> desk.at(behind));
        }
        desk.remove(6);
        fails("14: none is left", INDEX, () -> desk.at(0));
    }

    private static void promise15Places() {
        RunwayDesk desk = new RunwayDesk();
        fails("15: none", ELEMENT, () -> desk.place(0));
        for (int m = 0; m < 7; m++) {
            desk.add(0, 0, 0, 3000, 0);
            same("15: the last one", desk.place(m), m);
        }
        desk.retarget(0, 1);
        same("15: from the first place to the last", desk.place(0), 6);
        same("15: the others one less", desk.place(6), 5);
        desk.retarget(6, 3000);
        same("15: the last target", desk.place(6), 6);
        for (int m : new int[] {-1, 7, LOW, HIGH}) {
            fails("15: no movement " + m, ELEMENT, () -> desk.place(m));
        }
        for (int m = 0; m < 6; m++) {
            desk.remove(m);
        }
        same("15: the only one", desk.place(6), 0);
    }

    private static void promise16TheLeast() {
        RunwayDesk desk = alike(7);
        desk.solve();
        for (int c : new int[] {6, 4, 2, 0}) {
            desk.close(60 * c, 60 * c);
            same("16: the least that is closed", desk.verify(), c);
        }
        desk.reopen();
        for (int m = 6; m >= 0; m--) {
            desk.freeze(m, 60 * m + 1500);
            same("16: the least that is frozen elsewhere", desk.verify(), m);
        }
        for (int m = 0; m < 7; m++) {
            desk.thaw(m);
            same("16: those that are left", desk.verify(), m == 6 ? NONE : m + 1);
        }
        desk.remove(3);
        desk.add(0, 0, 0, 3000, 1);
        same("16: one that it does not have", desk.verify(), 3);
        desk.close(120, 120);
        same("16: a closed one before it", desk.verify(), 2);
    }

    private static void promise16ForTheFirstAndTheLast() {
        RunwayDesk desk = alike(7);
        desk.solve();
        desk.close(1, 59);
        same("16: between two seconds is closed", desk.verify(), NONE);
        desk.close(361, 3000);
        same("16: behind the last is closed", desk.verify(), NONE);
        desk.close(0, 0);
        same("16: the first is closed", desk.verify(), 0);
        desk.reopen();
        desk.close(360, 3000);
        same("16: the last is closed", desk.verify(), 6);
    }

    private static void promise16TooNear() {
        RunwayDesk desk = new RunwayDesk();
        desk.add(1, 60, 60, 60, 1);
        desk.add(0, 0, 0, 0, 1);
        desk.add(2, 120, 120, 120, 1);
        desk.solve();
        same("16: each the gap behind", desk.verify(), NONE);
        desk.gap(0, 2, 120);
        same("16: the one after the next, just so", desk.verify(), NONE);
        desk.gap(0, 2, 121);
        same("16: the one after the next, one second", desk.verify(), 2);
        desk.gap(0, 1, 61);
        same("16: behind one with a higher number", desk.verify(), 0);
        desk.gap(0, 1, 60);
        desk.gap(0, 2, 60);
        desk.gap(2, 0, 300);
        desk.gap(1, 0, 300);
        desk.gap(2, 1, 300);
        same("16: before another one it is not too near", desk.verify(), NONE);
    }

    private static void promise16AmongThoseThatItHas() {
        RunwayDesk desk = new RunwayDesk();
        fix(desk, 600);
        fix(desk, 700);
        fix(desk, 800);
        desk.limit(0);
        desk.solve();
        desk.remove(0);
        same("16: places without the one that is gone", desk.verify(), NONE);
        fix(desk, 900);
        same("16: one that it does not have", desk.verify(), 0);
        desk.remove(0);
        desk.remove(1);
        fix(desk, 900);
        fix(desk, 0);
        desk.freeze(0, 900);
        same("16: frozen, but it does not have it", desk.verify(), 0);
        RunwayDesk two = new RunwayDesk();
        fix(two, 800);
        two.solve();
        fix(two, 0);
        fix(two, 100);
        two.limit(2);
        same("16: two places off, and two are fine", two.verify(), 1);
        two.limit(1);
        same("16: two places off, and one is fine", two.verify(), 0);
        two.freeze(0, 800);
        same("16: two places off, but frozen", two.verify(), 1);
    }

    private static void promise17OneAndSeven() {
        RunwayDesk desk = new RunwayDesk();
        same("17: of none", desk.firstCome(), 0);
        desk.add(0, 7, 7, 7, 100);
        same("17: of one", desk.firstCome(), 0);
        desk.close(7, 7);
        same("17: of one that is closed", desk.firstCome(), NONE);
        RunwayDesk seven = alike(7);
        same("17: of seven", seven.firstCome(), 60 * 21);
        seven.limit(0);
        same("17: the limit does not count", seven.firstCome(), 60 * 21);
        RunwayDesk tight = new RunwayDesk();
        for (int m = 0; m < 7; m++) {
            tight.add(0, 0, 0, 60 * m, 1);
        }
        same("17: each at its last second", tight.firstCome(), 60 * 21);
        tight.remove(6);
        tight.add(0, 0, 0, 359, 1);
        same("17: the last one a second too late", tight.firstCome(), NONE);
        fails("17: it makes no result", INDEX, () -> tight.at(0));
    }

    private static void promise17FrozenOnes() {
        RunwayDesk desk = alike(2);
        desk.freeze(1, 60);
        same("17: a frozen one just behind", desk.firstCome(), 60);
        desk.freeze(1, 59);
        same("17: a frozen one too near behind", desk.firstCome(), NONE);
        desk.freeze(1, 0);
        same("17: a frozen one that is before its turn", desk.firstCome(), NONE);
        desk.retarget(0, 1);
        same("17: now it is its turn", desk.firstCome(), 59);
        desk.freeze(1, 2940);
        same("17: the other one at the last second", desk.firstCome(), 2940 + 2999);
        desk.freeze(1, 2941);
        same("17: the other one behind the last second", desk.firstCome(), NONE);
    }

    private static void promise18Closures() {
        RunwayDesk desk = new RunwayDesk();
        same("18: of none", desk.bound(), 0);
        desk.add(0, 100, 100, 200, 7);
        same("18: at the earliest", desk.bound(), 0);
        desk.close(50, 99);
        same("18: closed up to it", desk.bound(), 0);
        desk.close(100, 198);
        same("18: closed up to the last but one", desk.bound(), 99 * 7);
        desk.close(199, 199);
        same("18: the last one is open", desk.bound(), 100 * 7);
        desk.close(200, 200);
        same("18: it could have none", desk.bound(), NONE);
        same("18: nor is there a plan", desk.solve(), NONE);
    }

    private static void promise18Frozen() {
        RunwayDesk desk = new RunwayDesk();
        desk.add(0, 0, 100, 200, 7);
        int[][] due = {{0, 0}, {100, 0}, {101, 7}, {200, 700}};
        for (int[] d : due) {
            desk.freeze(0, d[0]);
            same("18: frozen at " + d[0], desk.bound(), d[1]);
        }
        desk.close(0, 199);
        same("18: closed elsewhere", desk.bound(), 700);
        desk.close(200, 200);
        same("18: closed where it is frozen, so it could have none", desk.bound(), NONE);
        desk.reopen();
        desk.close(200, 200);
        same("18: closed there alone", desk.bound(), NONE);
        desk.thaw(0);
        same("18: not frozen any more", desk.bound(), 0);
    }

    private static void promise18OneCouldHaveNone() {
        RunwayDesk desk = alike(6);
        desk.add(0, 10, 10, 10, 0);
        same("18: each alone, however near", desk.bound(), 0);
        desk.close(10, 10);
        same("18: one of seven could have none", desk.bound(), NONE);
        desk.remove(6);
        same("18: the others could", desk.bound(), 0);
        RunwayDesk first = new RunwayDesk();
        first.close(0, 0);
        fix(first, 0);
        first.add(0, 0, 0, 3000, 1);
        same("18: the first could have none", first.bound(), NONE);
    }

    private static void promise19Range() {
        RunwayDesk desk = new RunwayDesk();
        desk.add(0, 0, 0, 3000, 1);
        desk.solve();
        same("19: from the first second to the last", desk.slack(0), 3000);
        desk.remove(0);
        desk.add(0, 10, 20, 30, 1);
        desk.solve();
        same("19: to the latest", desk.slack(0), 20);
        desk.remove(0);
        fix(desk, 3000);
        desk.solve();
        same("19: at the latest already", desk.slack(0), 0);
        for (int m : new int[] {-1, 1, 7, LOW, HIGH}) {
            fails("19: no movement " + m, ELEMENT, () -> desk.slack(m));
        }
    }

    private static void promise19Closures() {
        RunwayDesk desk = new RunwayDesk();
        desk.add(0, 0, 0, 1000, 1);
        desk.solve();
        desk.close(1000, 1000);
        same("19: the latest is closed", desk.slack(0), 999);
        desk.close(500, 999);
        same("19: before two closures that touch", desk.slack(0), 499);
        desk.close(1, 499);
        same("19: closed right behind it", desk.slack(0), 0);
        desk.reopen();
        desk.close(1, 999);
        same("19: over a closure to the latest", desk.slack(0), 1000);
        desk.close(1000, 3000);
        same("19: no second behind the closures", desk.slack(0), 0);
    }

    private static void promise19BeforeTheNext() {
        RunwayDesk desk = new RunwayDesk();
        desk.add(1, 0, 0, 300, 1);
        desk.add(2, 300, 300, 300, 1);
        desk.gap(1, 2, 45);
        desk.solve();
        same("19: to the gap before the next", desk.slack(0), 255);
        desk.gap(1, 2, 299);
        same("19: one second", desk.slack(0), 1);
        desk.gap(1, 2, 300);
        same("19: no second", desk.slack(0), 0);
        desk.gap(1, 2, 100);
        desk.close(200, 200);
        same("19: closed just there", desk.slack(0), 199);
        RunwayDesk far = new RunwayDesk();
        far.add(1, 0, 0, 400, 1);
        far.add(0, 500, 500, 500, 1);
        far.add(2, 560, 560, 560, 1);
        far.gap(1, 2, 300);
        far.solve();
        same("19: to the gap before one after the next", far.slack(0), 260);
        RunwayDesk lower = new RunwayDesk();
        fix(lower, 300);
        lower.add(0, 0, 0, 299, 1);
        lower.solve();
        same("19: to the gap before one of a lower number", lower.slack(1), 240);
    }

    private static void promise19PastOthers() {
        for (int places = 0; places <= 6; places++) {
            RunwayDesk desk = new RunwayDesk();
            desk.add(0, 0, 0, 60 * places + 60, 1);
            for (int m = 1; m < 7; m++) {
                fix(desk, m <= places ? 60 * m : 2000 + 60 * m);
            }
            desk.solve();
            for (int limit = 0; limit <= 6; limit++) {
                desk.limit(limit);
                int due = limit < places ? 0 : 60 * places + 60;
                same("19: past " + places + ", limit " + limit, desk.slack(0), due);
            }
        }
        RunwayDesk desk = new RunwayDesk();
        desk.add(0, 0, 0, 120, 1);
        desk.add(1, 60, 60, 60, 1);
        desk.solve();
        same("19: just the gap behind the other one", desk.slack(0), 120);
        desk.gap(1, 0, 61);
        same("19: one second less than the gap", desk.slack(0), 0);
    }

    private static void promise19FrozenOnes() {
        RunwayDesk desk = new RunwayDesk();
        desk.add(0, 0, 0, 3000, 1);
        fix(desk, 60);
        desk.solve();
        desk.freeze(0, 0);
        same("19: a frozen one", desk.slack(0), 0);
        desk.thaw(0);
        same("19: not any more", desk.slack(0), 3000);
        desk.freeze(1, 60);
        desk.limit(0);
        same("19: past a frozen one, but not by the limit", desk.slack(0), 0);
        desk.limit(1);
        same("19: past a frozen one", desk.slack(0), 3000);
    }

    private static void promise19NotSound() {
        RunwayDesk desk = alike(1);
        fails("19: not solved", STATE, () -> desk.slack(0));
        fails("19: not solved, and no movement", ELEMENT, () -> desk.slack(1));
        desk.solve();
        desk.add(0, 0, 0, 3000, 1);
        fails("19: one that it does not have", STATE, () -> desk.slack(0));
        fails("19: that one itself", STATE, () -> desk.slack(1));
        fails("19: no movement", ELEMENT, () -> desk.slack(2));
        desk.solve();
        desk.gap(0, 0, 61);
        fails("19: sound for the one, but not for the other", STATE, () -> desk.slack(0));
        desk.gap(0, 0, 60);
        same("19: sound again", desk.slack(1), 2940);
    }

    private static void promise20NoneAndAll() {
        RunwayDesk desk = new RunwayDesk();
        same("20: none", desk.accept(), 0);
        for (int m = 0; m < 7; m++) {
            desk.add(0, 0, 0, 3000, 1);
        }
        same("20: not solved", desk.accept(), 0);
        desk.solve();
        same("20: all have one now", desk.accept(), 7);
        same("20: none any more", desk.accept(), 0);
        desk.close(0, 0);
        desk.solve();
        same("20: all by a second", desk.accept(), 7);
        desk.freeze(6, 362);
        desk.solve();
        same("20: one by a second", desk.accept(), 1);
        for (int m = 0; m < 7; m++) {
            desk.remove(m);
        }
        same("20: removed from both", desk.accept(), 0);
        RunwayDesk back = alike(1);
        back.solve();
        back.accept();
        back.freeze(0, 1);
        back.solve();
        back.freeze(0, 0);
        back.solve();
        same("20: there and back", back.accept(), 0);
        back.remove(0);
        back.add(0, 0, 0, 3000, 1);
        back.solve();
        same("20: another movement of the same number and second", back.accept(), 1);
    }

    private static void promise21NoneAndAll() {
        RunwayDesk desk = alike(7);
        fails("21: not solved", INDEX, () -> desk.change(0, 0));
        desk.solve();
        for (int k = 0; k < 7; k++) {
            same("21: number " + k, desk.change(k, 0), k);
            same("21: accepted " + k, desk.change(k, 1), NONE);
            same("21: result " + k, desk.change(k, 2), 60 * k);
        }
        for (int k : new int[] {-1, 7, LOW, HIGH}) {
            fails("21: number " + k, INDEX, () -> desk.change(k, 0));
        }
        desk.accept();
        fails("21: accepted", INDEX, () -> desk.change(0, 0));
        desk.freeze(6, 361);
        desk.solve();
        same("21: the last one alone", desk.change(0, 0), 6);
        same("21: its second before", desk.change(0, 1), 360);
        same("21: its second now", desk.change(0, 2), 361);
        fails("21: no other one", INDEX, () -> desk.change(1, 0));
    }

    private static void promise21What() {
        RunwayDesk desk = alike(1);
        for (int what : new int[] {-1, 0, 2, 3, LOW, HIGH}) {
            fails("21: none, what " + what, INDEX, () -> desk.change(0, what));
        }
        desk.solve();
        for (int what : new int[] {-1, 3, LOW, HIGH}) {
            fails("21: one, what " + what, ARGUMENT, () -> desk.change(0, what));
            fails("21: behind it, what " + what, INDEX, () -> desk.change(1, what));
            fails("21: before it, what " + what, INDEX, () -> desk.change(-1, what));
        }
        same("21: the number 0", desk.change(0, 0), 0);
        same("21: no second", desk.change(0, 1), NONE);
        same("21: the second 0", desk.change(0, 2), 0);
    }
}
