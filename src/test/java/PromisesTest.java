import java.util.NoSuchElementException;

/** Each promise by itself: ordinary inputs, the edges that the document names, wrong inputs. */
public final class PromisesTest {
    private static final Check CHECK = new Check("PromisesTest");
    private static final Class<IllegalArgumentException> ARGUMENT = IllegalArgumentException.class;
    private static final Class<IllegalStateException> STATE = IllegalStateException.class;
    private static final Class<IndexOutOfBoundsException> INDEX = IndexOutOfBoundsException.class;
    private static final Class<NoSuchElementException> ELEMENT = NoSuchElementException.class;
    private static final int NONE = RunwayDesk.NONE;
    private static final int LOW = Integer.MIN_VALUE;
    private static final int HIGH = Integer.MAX_VALUE;

    public static void main(String[] args) {
        promise1();
        promise2();
        promise3();
        promise4();
        promise5();
        promise6();
        promise7();
        promise8();
        promise9();
        promise10();
        promise11();
        promise11Ties();
        promise11Frozen();
        promise12();
        promise13();
        promise14();
        promise15();
        promise16();
        promise16Places();
        promise17();
        promise18();
        promise19();
        promise20();
        promise21();
        CHECK.end();
    }

    private static void same(String what, long got, long due) {
        CHECK.same(what, got, due);
    }

    private static void fails(String what, Class<? extends RuntimeException> due, Runnable call) {
        CHECK.fails(what, due, call);
    }

    /** A desk with movements 0 .. n - 1 of type 0, range 0 .. 1000, target 100 and weight 1. */
    private static RunwayDesk alike(int n) {
        RunwayDesk desk = new RunwayDesk();
        for (int m = 0; m < n; m++) {
            desk.add(0, 0, 100, 1000, 1);
        }
        return desk;
    }

    private static void promise1() {
        RunwayDesk desk = new RunwayDesk();
        same("1: closures of a new object", desk.reopen(), 0);
        same("1: solve of a new object", desk.solve(), 0);
        same("1: verify of a new object", desk.verify(), NONE);
        same("1: firstCome of a new object", desk.firstCome(), 0);
        same("1: bound of a new object", desk.bound(), 0);
        same("1: accept of a new object", desk.accept(), 0);
        same("1: limit of a new object", desk.limit(6), 6);
        for (int m = -1; m <= 7; m++) {
            int number = m;
            fails("1: place of " + m, ELEMENT, () -> desk.place(number));
            fails("1: at of " + m, INDEX, () -> desk.at(number));
        }
        fails("1: change", INDEX, () -> desk.change(0, 0));
        for (int a = 0; a < 6; a++) {
            for (int b = 0; b < 6; b++) {
                same("1: gap " + a + " to " + b, desk.gap(a, b, 60), 60);
            }
        }
        RunwayDesk other = new RunwayDesk();
        other.add(0, 0, 0, 0, 0);
        other.close(0, 0);
        other.gap(0, 0, 100);
        same("1: objects share no closures", desk.reopen(), 0);
        same("1: objects share no gaps", desk.gap(0, 0, 60), 60);
        fails("1: objects share no movements", ELEMENT, () -> desk.place(0));
    }

    private static void promise2() {
        RunwayDesk desk = alike(2);
        same("2: gap", desk.gap(0, 0, 45), 60);
        same("2: gap again", desk.gap(0, 0, 300), 45);
        same("2: gap of other types", desk.gap(0, 5, 200), 60);
        same("2: the way back is another gap", desk.gap(5, 0, 100), 60);
        same("2: gap 0 to 5 stayed", desk.gap(0, 5, 60), 200);
        int[][] wrong = {{-1, 0, 60}, {6, 0, 60}, {0, -1, 60}, {0, 6, 60}, {0, 0, 44}, {0, 0, 301},
            {LOW, 0, 60}, {0, HIGH, 60}, {0, 0, LOW}, {0, 0, HIGH}};
        for (int[] w : wrong) {
            fails("2: gap " + w[0] + " " + w[1] + " " + w[2], ARGUMENT, () -> desk.gap(w[0], w[1], w[2]));
        }
        same("2: a wrong call changed nothing", desk.gap(0, 0, 70), 300);
        desk.solve();
        same("2: the gap counts in solve", desk.second(1) - desk.second(0), 70);
        desk.gap(0, 0, 71);
        same("2: the gap counts in verify", desk.verify(), 1);
    }

    private static void promise3() {
        RunwayDesk desk = new RunwayDesk();
        int[][] wrong = {{-1, 0, 0, 0, 0}, {6, 0, 0, 0, 0}, {0, -1, 0, 0, 0}, {0, 0, 0, 3001, 0},
            {0, 10, 9, 20, 0}, {0, 10, 21, 20, 0}, {0, 20, 15, 10, 0}, {0, 0, 0, 0, -1}, {0, 0, 0, 0, 101},
            {0, 0, 3001, 3001, 0}, {0, -2, -1, 5, 0}, {0, LOW, 0, HIGH, 0}, {HIGH, 0, 0, 0, 0},
            {0, 0, 0, 0, LOW}};
        for (int[] w : wrong) {
            fails("3: add " + w[0] + " " + w[1] + " " + w[2] + " " + w[3] + " " + w[4], ARGUMENT,
                    () -> desk.add(w[0], w[1], w[2], w[3], w[4]));
        }
        same("3: a wrong call added nothing", desk.add(5, 3000, 3000, 3000, 100), 0);
        same("3: the least edges", desk.add(0, 0, 0, 0, 0), 1);
        for (int m = 2; m < 7; m++) {
            same("3: number", desk.add(1, 0, 3000, 3000, 1), m);
        }
        fails("3: an eighth", STATE, () -> desk.add(0, 0, 0, 0, 0));
        fails("3: an eighth that is wrong", ARGUMENT, () -> desk.add(6, 0, 0, 0, 0));
        desk.remove(4);
        desk.remove(2);
        same("3: the least free number", desk.add(0, 0, 0, 0, 0), 2);
        same("3: the next free number", desk.add(0, 0, 0, 0, 0), 4);
        reusedNumber();
    }

    private static void reusedNumber() {
        RunwayDesk desk = alike(1);
        desk.freeze(0, 500);
        desk.solve();
        desk.accept();
        desk.remove(0);
        same("3: a number again", desk.add(0, 0, 7, 1000, 1), 0);
        same("3: nothing is left of the one before: frozen", desk.thaw(0) ? 1 : 0, 0);
        fails("3: nothing is left of the one before: second", STATE, () -> desk.second(0));
        same("3: the target is the new one's", desk.retarget(0, 8), 7);
        desk.solve();
        same("3: nothing is left of the one before: accepted", desk.change(0, 1), NONE);
    }

    private static void promise4() {
        RunwayDesk desk = alike(3);
        desk.solve();
        desk.accept();
        same("4: remove", desk.remove(1), 2);
        fails("4: remove again", ELEMENT, () -> desk.remove(1));
        fails("4: remove -1", ELEMENT, () -> desk.remove(-1));
        fails("4: remove 7", ELEMENT, () -> desk.remove(7));
        fails("4: remove the lowest int", ELEMENT, () -> desk.remove(LOW));
        fails("4: remove the highest int", ELEMENT, () -> desk.remove(HIGH));
        same("4: the result does not have it", desk.at(1), 2);
        fails("4: the result is shorter", INDEX, () -> desk.at(2));
        same("4: neither has the accepted plan", desk.accept(), 0);
        same("4: a gap left open is sound", desk.verify(), NONE);
        same("4: remove", desk.remove(0), 1);
        same("4: remove the last", desk.remove(2), 0);
        same("4: nothing is sound", desk.verify(), NONE);
        same("4: solve nothing", desk.solve(), 0);
    }

    private static void promise5() {
        RunwayDesk desk = new RunwayDesk();
        desk.add(0, 10, 50, 90, 2);
        desk.add(0, 0, 60, 3000, 2);
        fails("5: below the earliest", ARGUMENT, () -> desk.retarget(0, 9));
        fails("5: above the latest", ARGUMENT, () -> desk.retarget(0, 91));
        fails("5: no movement and a wrong target", ELEMENT, () -> desk.retarget(2, -1));
        fails("5: no movement", ELEMENT, () -> desk.retarget(-1, 50));
        same("5: the earliest", desk.retarget(0, 10), 50);
        same("5: the latest", desk.retarget(0, 90), 10);
        same("5: place", desk.place(0), 1);
        same("5: back", desk.retarget(0, 10), 90);
        same("5: place again", desk.place(0), 0);
        desk.freeze(0, 30);
        same("5: delay hangs on the target", desk.solve(), 40 + 60);
        desk.retarget(0, 30);
        same("5: no delay at the target", desk.solve(), 60);
    }

    private static void promise6() {
        RunwayDesk desk = alike(2);
        same("6: at first", desk.limit(0), 6);
        same("6: before", desk.limit(6), 0);
        same("6: before again", desk.limit(3), 6);
        for (int places : new int[] {-1, 7, LOW, HIGH}) {
            fails("6: limit " + places, ARGUMENT, () -> desk.limit(places));
        }
        same("6: a wrong call changed nothing", desk.limit(1), 3);
        RunwayDesk tight = new RunwayDesk();
        tight.add(0, 0, 0, 3000, 1);
        tight.add(0, 0, 1, 3000, 1);
        tight.add(0, 0, 2, 2, 100);
        same("6: by 2 places", tight.solve(), 60 + 119);
        same("6: order", tight.at(0), 2);
        tight.limit(1);
        same("6: not by 1 place", tight.solve(), NONE);
        same("6: the result stayed but is not sound", tight.verify(), 2);
        tight.freeze(2, 2);
        same("6: frozen ones are free, the others are 1 off", tight.solve(), 62 + 121);
        tight.limit(0);
        same("6: the others may not be 1 off", tight.solve(), NONE);
    }

    private static void promise7() {
        RunwayDesk desk = alike(1);
        int[][] wrong = {{-1, 5}, {0, 3001}, {6, 5}, {LOW, HIGH}, {3001, 3001}, {-2, -1}};
        for (int[] w : wrong) {
            fails("7: close " + w[0] + " " + w[1], ARGUMENT, () -> desk.close(w[0], w[1]));
        }
        same("7: one second", desk.close(0, 0), 1);
        same("7: both ends are closed", desk.solve(), 0);
        same("7: the first open one", desk.second(0), 1);
        same("7: one that laps over", desk.close(1, 100), 2);
        same("7: one in the other", desk.close(50, 60), 3);
        same("7: solve behind", desk.solve(), 1);
        same("7: the first second behind", desk.second(0), 101);
        same("7: the last edge", desk.close(3000, 3000), 4);
        fails("7: a fifth", STATE, () -> desk.close(0, 0));
        fails("7: a fifth that is wrong", ARGUMENT, () -> desk.close(1, 0));
        RunwayDesk chain = alike(1);
        chain.close(300, 400);
        chain.close(200, 299);
        chain.close(100, 250);
        chain.close(0, 99);
        same("7: closures one behind the other, told from the last", chain.solve(), 301);
        RunwayDesk whole = alike(1);
        whole.close(0, 3000);
        same("7: all closed", whole.solve(), NONE);
    }

    private static void promise8() {
        RunwayDesk desk = alike(1);
        desk.close(0, 10);
        desk.close(20, 30);
        desk.solve();
        same("8: second", desk.second(0), 11);
        same("8: reopen", desk.reopen(), 2);
        same("8: reopen again", desk.reopen(), 0);
        desk.solve();
        same("8: open again", desk.second(0), 0);
        same("8: close anew", desk.close(5, 6), 1);
        desk.solve();
        same("8: nothing of the former ones is closed", desk.second(0), 0);
    }

    private static void promise9() {
        RunwayDesk desk = new RunwayDesk();
        desk.add(0, 100, 100, 900, 1);
        desk.add(1, 100, 100, 900, 1);
        desk.gap(0, 1, 70);
        desk.gap(1, 0, 50);
        desk.close(300, 310);
        fails("9: no movement", ELEMENT, () -> desk.freeze(2, 0));
        fails("9: no movement -1", ELEMENT, () -> desk.freeze(-1, 300));
        fails("9: below the earliest", ARGUMENT, () -> desk.freeze(0, 99));
        fails("9: above the latest", ARGUMENT, () -> desk.freeze(0, 901));
        fails("9: at a closure's start", STATE, () -> desk.freeze(0, 300));
        fails("9: at a closure's end", STATE, () -> desk.freeze(0, 310));
        desk.freeze(0, 100);
        desk.freeze(0, 900);
        desk.freeze(0, 299);
        desk.freeze(0, 311);
        desk.freeze(0, 500);
        fails("9: at the same second", STATE, () -> desk.freeze(1, 500));
        fails("9: too near behind", STATE, () -> desk.freeze(1, 569));
        fails("9: too near before", STATE, () -> desk.freeze(1, 451));
        same("9: a wrong call froze nothing", desk.thaw(1) ? 1 : 0, 0);
        desk.freeze(1, 570);
        desk.freeze(1, 450);
        desk.freeze(0, 520);
        fails("9: too near, frozen before", STATE, () -> desk.freeze(0, 499));
        desk.solve();
        same("9: it stays where it was", desk.second(0), 520);
        same("9: the other one", desk.second(1), 450);
        desk.gap(1, 0, 300);
        same("9: a gap may be other later", desk.solve(), NONE);
        RunwayDesk gone = alike(2);
        gone.freeze(0, 100);
        gone.remove(0);
        gone.freeze(1, 100);
        same("9: one that is gone is not too near", gone.solve(), 0);
    }

    private static void promise10() {
        RunwayDesk desk = alike(2);
        same("10: not frozen", desk.thaw(0) ? 1 : 0, 0);
        desk.freeze(0, 0);
        same("10: frozen at 0", desk.thaw(0) ? 1 : 0, 1);
        same("10: not any more", desk.thaw(0) ? 1 : 0, 0);
        desk.freeze(0, 500);
        same("10: solve frozen", desk.solve(), 400);
        desk.thaw(1);
        same("10: the other one is not thawed", desk.solve(), 400);
        desk.thaw(0);
        same("10: solve thawed", desk.solve(), 0);
        fails("10: no movement", ELEMENT, () -> desk.thaw(2));
        fails("10: no movement -1", ELEMENT, () -> desk.thaw(-1));
        fails("10: no movement 7", ELEMENT, () -> desk.thaw(7));
    }

    private static void promise11() {
        RunwayDesk desk = new RunwayDesk();
        desk.gap(0, 1, 45);
        desk.gap(1, 2, 45);
        desk.gap(0, 2, 300);
        desk.add(0, 0, 0, 3000, 9);
        desk.add(1, 0, 1, 3000, 9);
        desk.add(2, 0, 2, 3000, 1);
        same("11: the gap to one that is not next counts too", desk.solve(), 44 * 9 + 298);
        same("11: its second", desk.second(2), 300);
        desk.close(300, 400);
        same("11: behind a closure", desk.solve(), 44 * 9 + 399);
        desk.close(401, 3000);
        int answer = desk.solve();
        same("11: still before the closures", desk.second(2) < 300 ? 1 : 0, 1);
        same("11: its delay", answer, delayOf(desk));
        desk.add(0, 2000, 2000, 2100, 1);
        same("11: no plan", desk.solve(), NONE);
        fails("11: the result stays", STATE, () -> desk.second(3));
        same("11: the result stays as it was", delayOf(desk), answer);
        RunwayDesk late = new RunwayDesk();
        late.add(0, 0, 0, 3000, 100);
        late.freeze(0, 3000);
        same("11: the greatest delay of one", late.solve(), 300000);
        RunwayDesk seven = new RunwayDesk();
        for (int m = 0; m < 7; m++) {
            seven.add(0, 0, 0, 360, 1);
        }
        same("11: seven that just fit", seven.solve(), 60 * 21);
        seven.gap(0, 0, 61);
        same("11: seven that do not", seven.solve(), NONE);
    }

    private static int delayOf(RunwayDesk desk) {
        return 9 * Math.max(0, desk.second(0)) + 9 * Math.max(0, desk.second(1) - 1)
                + Math.max(0, desk.second(2) - 2);
    }

    private static void promise11Ties() {
        RunwayDesk desk = new RunwayDesk();
        desk.add(0, 0, 30, 3000, 0);
        desk.add(0, 0, 20, 3000, 0);
        desk.add(0, 0, 20, 3000, 0);
        same("11: no weights, no delay", desk.solve(), 0);
        same("11: first by target", desk.at(0), 1);
        same("11: then by number", desk.at(1), 2);
        same("11: last by target", desk.at(2), 0);
        same("11: the earliest seconds", desk.second(0), 120);
        RunwayDesk early = new RunwayDesk();
        early.add(0, 50, 500, 900, 1);
        same("11: earlier than the target is no delay", early.solve(), 0);
        same("11: and it is the earliest", early.second(0), 50);
        RunwayDesk equal = new RunwayDesk();
        equal.add(0, 0, 0, 3000, 5);
        equal.add(1, 0, 0, 3000, 5);
        same("11: both orders have the same delay", equal.solve(), 300);
        same("11: the first-come one is taken", equal.at(0), 0);
        equal.gap(0, 1, 61);
        same("11: the other one is less", equal.solve(), 300);
        same("11: and is taken", equal.at(0), 1);
    }

    private static void promise11Frozen() {
        RunwayDesk desk = new RunwayDesk();
        desk.add(0, 0, 0, 1000, 1);
        desk.add(1, 0, 10, 1000, 1);
        desk.gap(0, 1, 200);
        desk.gap(1, 0, 100);
        desk.freeze(0, 150);
        same("11: before a frozen one", desk.solve(), 150);
        same("11: its second", desk.second(1), 0);
        desk.limit(0);
        same("11: only behind it", desk.solve(), 150 + 340);
        same("11: the gap behind a frozen one", desk.second(1), 350);
        desk.close(100, 200);
        same("11: frozen in a closure", desk.solve(), NONE);
        same("11: the result stays", desk.second(1), 350);
    }

    private static void promise12() {
        RunwayDesk desk = new RunwayDesk();
        desk.add(0, 0, 0, 500, 1);
        desk.add(0, 0, 10, 500, 2);
        same("12: solve", desk.solve(), 60);
        same("12: whatIf", desk.whatIf(1, 0), 60);
        same("12: whatIf of the edge", desk.whatIf(0, 500), 0);
        same("12: the target stayed", desk.retarget(0, 0), 0);
        same("12: the result stayed", desk.second(1), 0);
        desk.limit(0);
        same("12: the first-come order is that of the other target", desk.whatIf(0, 11), 49);
        same("12: solve in the order that is", desk.solve(), 100);
        same("12: place stayed", desk.place(0), 0);
        fails("12: above the latest", ARGUMENT, () -> desk.whatIf(0, 501));
        fails("12: below the earliest", ARGUMENT, () -> desk.whatIf(0, -1));
        fails("12: no movement", ELEMENT, () -> desk.whatIf(2, -1));
        fails("12: no movement -1", ELEMENT, () -> desk.whatIf(-1, 0));
        desk.close(0, 3000);
        same("12: no plan", desk.whatIf(0, 1), NONE);
        same("12: the target stayed", desk.retarget(0, 0), 0);
    }

    private static void promise13() {
        RunwayDesk desk = alike(1);
        fails("13: not solved", STATE, () -> desk.second(0));
        desk.solve();
        same("13: second 0 is a second", desk.second(0), 0);
        fails("13: no movement", ELEMENT, () -> desk.second(1));
        fails("13: no movement -1", ELEMENT, () -> desk.second(-1));
        fails("13: no movement 7", ELEMENT, () -> desk.second(7));
        desk.add(0, 0, 0, 1000, 1);
        fails("13: added after", STATE, () -> desk.second(1));
        desk.freeze(0, 400);
        same("13: the result is that of the last solve", desk.second(0), 0);
    }

    private static void promise14() {
        RunwayDesk desk = new RunwayDesk();
        desk.add(0, 200, 200, 200, 1);
        desk.add(0, 0, 0, 0, 1);
        desk.add(0, 100, 100, 100, 1);
        fails("14: nothing in the result", INDEX, () -> desk.at(0));
        desk.solve();
        same("14: first", desk.at(0), 1);
        same("14: second", desk.at(1), 2);
        same("14: third", desk.at(2), 0);
        for (int i : new int[] {-1, 3, LOW, HIGH}) {
            fails("14: at " + i, INDEX, () -> desk.at(i));
        }
        desk.add(0, 150, 150, 150, 1);
        fails("14: one that the result does not have", INDEX, () -> desk.at(3));
        desk.remove(1);
        same("14: those behind move up", desk.at(0), 2);
        same("14: those behind move up", desk.at(1), 0);
    }

    private static void promise15() {
        RunwayDesk desk = new RunwayDesk();
        desk.add(0, 0, 300, 3000, 1);
        desk.add(0, 0, 100, 3000, 1);
        desk.add(0, 0, 300, 3000, 1);
        desk.add(0, 0, 200, 3000, 1);
        int[] places = {2, 0, 3, 1};
        for (int m = 0; m < 4; m++) {
            same("15: place of " + m, desk.place(m), places[m]);
        }
        fails("15: no movement", ELEMENT, () -> desk.place(4));
        fails("15: no movement -1", ELEMENT, () -> desk.place(-1));
        fails("15: no movement 7", ELEMENT, () -> desk.place(7));
        desk.remove(1);
        same("15: one less before", desk.place(3), 0);
        desk.freeze(3, 3000);
        same("15: the target counts, not the frozen second", desk.place(3), 0);
    }

    private static void promise16() {
        RunwayDesk desk = new RunwayDesk();
        desk.add(0, 0, 0, 1000, 1);
        same("16: one that it does not have", desk.verify(), 0);
        desk.add(1, 0, 10, 1000, 1);
        desk.solve();
        same("16: sound", desk.verify(), NONE);
        desk.close(60, 60);
        same("16: closed", desk.verify(), 1);
        desk.reopen();
        desk.freeze(1, 60);
        same("16: frozen where it is", desk.verify(), NONE);
        desk.freeze(1, 61);
        same("16: frozen at another second", desk.verify(), 1);
        desk.thaw(1);
        desk.gap(1, 0, 300);
        same("16: the gap of the other order does not count", desk.verify(), NONE);
        desk.gap(0, 1, 61);
        same("16: too near: the later one", desk.verify(), 1);
        desk.close(0, 0);
        same("16: the least of two", desk.verify(), 0);
        RunwayDesk lower = new RunwayDesk();
        lower.add(0, 60, 60, 60, 1);
        lower.add(1, 0, 0, 0, 1);
        lower.solve();
        lower.gap(1, 0, 61);
        same("16: the later one with the lower number", lower.verify(), 0);
        RunwayDesk far = new RunwayDesk();
        far.add(0, 0, 0, 0, 1);
        far.add(1, 60, 60, 60, 1);
        far.add(2, 120, 120, 120, 1);
        far.solve();
        far.gap(0, 2, 121);
        same("16: too near behind one that is not next", far.verify(), 2);
    }

    private static void promise16Places() {
        RunwayDesk desk = new RunwayDesk();
        desk.add(0, 0, 0, 1000, 1);
        desk.add(0, 0, 10, 1000, 1);
        desk.add(0, 0, 20, 1000, 1);
        desk.solve();
        desk.retarget(0, 30);
        same("16: the limit is wide", desk.verify(), NONE);
        desk.limit(1);
        same("16: two places off", desk.verify(), 0);
        desk.freeze(0, desk.second(0));
        same("16: frozen, and the others are 1 off", desk.verify(), NONE);
        desk.limit(0);
        same("16: the others may not", desk.verify(), 1);
        RunwayDesk gone = new RunwayDesk();
        gone.add(0, 0, 0, 1000, 1);
        gone.add(0, 0, 10, 1000, 1);
        gone.limit(0);
        gone.solve();
        gone.remove(0);
        same("16: places among those that there are", gone.verify(), NONE);
        gone.add(0, 500, 500, 500, 1);
        same("16: one that it does not have", gone.verify(), 0);
        gone.remove(0);
        gone.add(0, 500, 500, 500, 1);
        gone.add(0, 0, 0, 0, 1);
        same("16: the least", gone.verify(), 0);
        RunwayDesk before = new RunwayDesk();
        before.add(0, 500, 500, 500, 1);
        before.limit(0);
        before.solve();
        before.add(0, 0, 0, 0, 1);
        same("16: first-come places count those that it does not have", before.verify(), 0);
    }

    private static void promise17() {
        RunwayDesk desk = new RunwayDesk();
        desk.add(0, 0, 10, 1000, 3);
        desk.add(1, 0, 0, 1000, 2);
        desk.gap(1, 0, 100);
        same("17: first-come", desk.firstCome(), 90 * 3);
        same("17: the best is another order", desk.solve(), 60 * 2);
        desk.close(90, 110);
        same("17: with a closure", desk.firstCome(), 101 * 3);
        desk.freeze(1, 20);
        same("17: with a frozen one", desk.firstCome(), 40 + 110 * 3);
        desk.freeze(1, 950);
        same("17: not the frozen one's turn", desk.firstCome(), NONE);
        same("17: but there is a plan", desk.solve(), 1900);
        desk.thaw(1);
        desk.freeze(0, 50);
        same("17: a frozen one that is too near", desk.firstCome(), NONE);
        desk.freeze(0, 120);
        same("17: a frozen one", desk.firstCome(), 330);
        desk.close(120, 120);
        same("17: a frozen one in a closure", desk.firstCome(), NONE);
        same("17: the result stays", desk.second(1), 950);
        RunwayDesk skip = new RunwayDesk();
        skip.gap(0, 2, 250);
        skip.add(0, 0, 0, 1000, 1);
        skip.add(1, 0, 0, 1000, 1);
        skip.add(2, 0, 0, 1000, 1);
        same("17: a gap to one that is not next", skip.firstCome(), 60 + 250);
    }

    private static void promise18() {
        RunwayDesk desk = new RunwayDesk();
        desk.add(0, 0, 0, 1000, 3);
        desk.add(0, 0, 0, 1000, 2);
        same("18: alone, each at its target", desk.bound(), 0);
        desk.close(0, 9);
        same("18: behind a closure", desk.bound(), 50);
        desk.close(10, 19);
        same("18: behind two closures", desk.bound(), 100);
        desk.freeze(0, 100);
        same("18: a frozen one", desk.bound(), 340);
        desk.add(0, 5, 6, 19, 0);
        same("18: one could have none", desk.bound(), NONE);
        desk.remove(2);
        desk.add(0, 5, 6, 20, 1);
        same("18: one could have its last second", desk.bound(), 354);
        desk.close(100, 100);
        same("18: frozen in a closure", desk.bound(), NONE);
        desk.reopen();
        desk.limit(0);
        desk.gap(0, 0, 300);
        same("18: neither gaps nor the limit count", desk.bound(), 300);
    }

    private static void promise19() {
        RunwayDesk desk = new RunwayDesk();
        desk.add(0, 0, 0, 400, 5);
        desk.add(1, 0, 10, 400, 1);
        fails("19: not sound", STATE, () -> desk.slack(0));
        fails("19: no movement", ELEMENT, () -> desk.slack(2));
        fails("19: no movement -1", ELEMENT, () -> desk.slack(-1));
        desk.solve();
        same("19: past the other one", desk.slack(0), 400);
        same("19: to the latest", desk.slack(1), 340);
        desk.limit(0);
        same("19: the order has to stay", desk.slack(0), 0);
        same("19: to the latest still", desk.slack(1), 340);
        desk.close(390, 400);
        same("19: to before a closure", desk.slack(1), 329);
        desk.close(380, 395);
        same("19: to before two closures", desk.slack(1), 319);
        desk.limit(6);
        same("19: past the other one to before the closures", desk.slack(0), 379);
        desk.gap(1, 0, 300);
        same("19: behind the other one by its gap", desk.slack(0), 379);
        desk.close(360, 379);
        same("19: no room behind the other one", desk.slack(0), 0);
        desk.gap(0, 1, 50);
        same("19: room before the other one", desk.slack(0), 10);
        desk.freeze(0, 0);
        same("19: frozen", desk.slack(0), 0);
        desk.gap(0, 1, 61);
        fails("19: not sound any more", STATE, () -> desk.slack(1));
        RunwayDesk pushed = new RunwayDesk();
        pushed.add(0, 0, 0, 1000, 1);
        pushed.add(0, 60, 60, 60, 1);
        pushed.add(0, 120, 120, 120, 1);
        pushed.limit(1);
        pushed.solve();
        same("19: past one only, and there is no room", pushed.slack(0), 0);
        pushed.limit(2);
        same("19: past both", pushed.slack(0), 1000);
        pushed.freeze(0, 0);
        pushed.thaw(0);
        pushed.limit(0);
        same("19: the result stayed", pushed.second(0), 0);
    }

    private static void promise20() {
        RunwayDesk desk = alike(3);
        same("20: nothing", desk.accept(), 0);
        desk.solve();
        same("20: all have one now", desk.accept(), 3);
        same("20: again", desk.accept(), 0);
        desk.freeze(2, 500);
        desk.solve();
        same("20: one has another", desk.accept(), 1);
        desk.remove(0);
        same("20: removed from both", desk.accept(), 0);
        desk.add(0, 0, 0, 1000, 1);
        same("20: added, but not solved", desk.accept(), 0);
        desk.solve();
        same("20: added and solved: the new one alone", desk.accept(), 1);
        desk.retarget(1, 900);
        desk.close(0, 3000);
        desk.solve();
        same("20: no plan, no change", desk.accept(), 0);
    }

    private static void promise21() {
        RunwayDesk desk = alike(2);
        fails("21: nothing", INDEX, () -> desk.change(0, 0));
        fails("21: nothing, and a wrong what", INDEX, () -> desk.change(0, 3));
        desk.solve();
        same("21: the number", desk.change(1, 0), 1);
        same("21: none in the accepted plan", desk.change(1, 1), NONE);
        same("21: the second in the result", desk.change(1, 2), 60);
        for (int k : new int[] {-1, 2, LOW, HIGH}) {
            fails("21: change " + k, INDEX, () -> desk.change(k, 0));
        }
        for (int what : new int[] {-1, 3, LOW, HIGH}) {
            fails("21: what " + what, ARGUMENT, () -> desk.change(0, what));
        }
        desk.accept();
        fails("21: accepted", INDEX, () -> desk.change(0, 0));
        desk.freeze(1, 300);
        desk.solve();
        same("21: the one that changed", desk.change(0, 0), 1);
        same("21: its second before", desk.change(0, 1), 60);
        same("21: its second now", desk.change(0, 2), 300);
        fails("21: one alone", INDEX, () -> desk.change(1, 0));
        desk.thaw(1);
        desk.solve();
        fails("21: as before", INDEX, () -> desk.change(0, 0));
    }
}
