import java.util.NoSuchElementException;

/** Each sentence of the document's section "Terms" that names a bound, with both sides of it. */
public final class TermsTest {
    private static final Check CHECK = new Check("TermsTest");
    private static final Class<IllegalArgumentException> ARGUMENT = IllegalArgumentException.class;
    private static final Class<IllegalStateException> STATE = IllegalStateException.class;
    private static final Class<IndexOutOfBoundsException> INDEX = IndexOutOfBoundsException.class;
    private static final Class<NoSuchElementException> ELEMENT = NoSuchElementException.class;
    private static final int NONE = RunwayDesk.NONE;
    private static final int LOW = Integer.MIN_VALUE;
    private static final int HIGH = Integer.MAX_VALUE;

    public static void main(String[] args) {
        atMostSevenMovements();
        theLeastFreeNumber();
        types();
        seconds();
        theTargetIsBetweenThem();
        weights();
        frozenAtASecond();
        gapsAtFirst();
        gapBounds();
        aGapForEachTwoTypes();
        theGapToAnyLaterOne();
        upToFourClosures();
        bothEndsAreClosed();
        closuresOverEachOther();
        theFirstComeOrder();
        limitBounds();
        placesTowardsTheFront();
        placesTowardsTheBack();
        placesOfFrozenOnes();
        aSoundPlanHasAllMovements();
        aSoundPlanKeepsToRanges();
        aSoundPlanKeepsFrozenSeconds();
        theLaterOneIsTheGapBehind();
        theDelay();
        theGreatestDelay();
        theEarliestSeconds();
        thereAreNoEarliestSeconds();
        theFirstOfTheBestOrders();
        theEarliestOfTheBestPlans();
        theResultAtFirst();
        aRemovedMovementIsInNoPlan();
        noSuchMovement();
        fiveHundredAndTwelveCalls();
        CHECK.end();
    }

    private static void same(String what, long got, long due) {
        CHECK.same(what, got, due);
    }

    private static void fails(String what, Class<? extends RuntimeException> due, Runnable call) {
        CHECK.fails(what, due, call);
    }

    /** Adds a movement of type 0 and weight 1 that can be at one second only. */
    private static int fix(RunwayDesk desk, int second) {
        return desk.add(0, second, second, second, 1);
    }

    private static void atMostSevenMovements() {
        RunwayDesk desk = new RunwayDesk();
        for (int m = 0; m < 7; m++) {
            same("at most 7 movements: the number", desk.add(0, 0, 0, 3000, 1), m);
        }
        fails("at most 7 movements: an eighth", STATE, () -> desk.add(0, 0, 0, 3000, 1));
        same("at most 7 movements: all in one plan", desk.solve(), 60 * 21);
        same("at most 7 movements: the last one", desk.at(6), 6);
        same("at most 7 at a time: one less", desk.remove(0), 6);
        same("at most 7 at a time: one again", desk.add(0, 0, 0, 3000, 1), 0);
        fails("at most 7 at a time: an eighth again", STATE, () -> desk.add(0, 0, 0, 3000, 1));
    }

    private static void theLeastFreeNumber() {
        RunwayDesk desk = new RunwayDesk();
        fails("numbers: a refused movement", ARGUMENT, () -> desk.add(6, 0, 0, 0, 0));
        same("numbers: from 0, and a refused one has none", fix(desk, 0), 0);
        for (int m = 1; m < 7; m++) {
            same("numbers: one after the other", fix(desk, 0), m);
        }
        for (int m = 0; m < 7; m++) {
            desk.remove(m);
            same("numbers: the only one that is free", fix(desk, 0), m);
        }
        desk.remove(6);
        desk.remove(1);
        desk.remove(3);
        same("numbers: the least of three", fix(desk, 0), 1);
        same("numbers: the least of two", fix(desk, 0), 3);
        same("numbers: the last", fix(desk, 0), 6);
        for (int m = 0; m < 7; m++) {
            desk.remove(m);
        }
        same("numbers: from 0 again", fix(desk, 0), 0);
    }

    private static void types() {
        RunwayDesk desk = new RunwayDesk();
        for (int type : new int[] {-1, 6, LOW, HIGH}) {
            fails("types 0 .. 5: add " + type, ARGUMENT, () -> desk.add(type, 0, 0, 0, 0));
            fails("types 0 .. 5: gap from " + type, ARGUMENT, () -> desk.gap(type, 5, 60));
            fails("types 0 .. 5: gap to " + type, ARGUMENT, () -> desk.gap(5, type, 60));
        }
        for (int type = 0; type <= 5; type++) {
            same("types 0 .. 5: add", desk.add(type, 0, 0, 0, 0), type);
            same("types 0 .. 5: gap", desk.gap(type, 5 - type, 60), 60);
        }
    }

    private static void seconds() {
        RunwayDesk desk = new RunwayDesk();
        for (int s : new int[] {-1, 3001, LOW, HIGH}) {
            fails("seconds 0 .. 3000: earliest " + s, ARGUMENT, () -> desk.add(0, s, 3000, 3000, 0));
            fails("seconds 0 .. 3000: latest " + s, ARGUMENT, () -> desk.add(0, 0, 0, s, 0));
            fails("seconds 0 .. 3000: target " + s, ARGUMENT, () -> desk.add(0, 0, s, 3000, 0));
            fails("seconds 0 .. 3000: all " + s, ARGUMENT, () -> desk.add(0, s, s, s, 0));
        }
        same("seconds 0 .. 3000: all 0", desk.add(0, 0, 0, 0, 1), 0);
        same("seconds 0 .. 3000: all 3000", desk.add(0, 3000, 3000, 3000, 1), 1);
        same("seconds 0 .. 3000: from the first to the last", desk.add(0, 0, 1500, 3000, 1), 2);
        same("seconds 0 .. 3000: a plan of them", desk.solve(), 0);
        same("seconds 0 .. 3000: the first second", desk.second(0), 0);
        same("seconds 0 .. 3000: the last second", desk.second(1), 3000);
    }

    private static void theTargetIsBetweenThem() {
        RunwayDesk desk = new RunwayDesk();
        fails("the target between: one before", ARGUMENT, () -> desk.add(0, 10, 9, 20, 0));
        fails("the target between: one behind", ARGUMENT, () -> desk.add(0, 10, 21, 20, 0));
        fails("the target between: of none", ARGUMENT, () -> desk.add(0, 11, 10, 10, 0));
        fails("the target between: of none", ARGUMENT, () -> desk.add(0, 11, 11, 10, 0));
        same("the target between: the earliest", desk.add(0, 10, 10, 20, 0), 0);
        same("the target between: the latest", desk.add(0, 10, 20, 20, 0), 1);
        same("the target between: all the same", desk.add(0, 10, 10, 10, 0), 2);
    }

    private static void weights() {
        RunwayDesk desk = new RunwayDesk();
        for (int weight : new int[] {-1, 101, LOW, HIGH}) {
            fails("weights 0 .. 100: " + weight, ARGUMENT, () -> desk.add(0, 0, 0, 0, weight));
        }
        desk.add(0, 0, 0, 3000, 0);
        desk.freeze(0, 7);
        same("weights 0 .. 100: 0", desk.solve(), 0);
        desk.add(0, 0, 0, 3000, 100);
        desk.freeze(1, 77);
        same("weights 0 .. 100: 100", desk.solve(), 7700);
    }

    private static void frozenAtASecond() {
        RunwayDesk desk = new RunwayDesk();
        desk.add(0, 0, 0, 3000, 1);
        same("frozen: not at first", desk.thaw(0) ? 1 : 0, 0);
        desk.freeze(0, 0);
        same("frozen: at the first second", desk.solve(), 0);
        same("frozen: at the first second it is frozen", desk.thaw(0) ? 1 : 0, 1);
        desk.freeze(0, 3000);
        same("frozen: at the last second", desk.solve(), 3000);
    }

    private static void gapsAtFirst() {
        RunwayDesk desk = new RunwayDesk();
        for (int a = 0; a <= 5; a++) {
            for (int b = 0; b <= 5; b++) {
                same("gaps at first 60: " + a + " to " + b, desk.gap(a, b, 61), 60);
            }
        }
        RunwayDesk near = new RunwayDesk();
        fix(near, 0);
        fix(near, 59);
        same("gaps at first 60: 59 are too near", near.solve(), NONE);
        near.remove(1);
        fix(near, 60);
        same("gaps at first 60: 60 are not", near.solve(), 0);
    }

    private static void gapBounds() {
        RunwayDesk desk = new RunwayDesk();
        for (int seconds : new int[] {44, 301, 0, -1, LOW, HIGH}) {
            fails("gaps 45 .. 300: " + seconds, ARGUMENT, () -> desk.gap(0, 0, seconds));
        }
        fix(desk, 0);
        fix(desk, 45);
        fix(desk, 345);
        same("gaps 45 .. 300: 60 at first", desk.solve(), NONE);
        same("gaps 45 .. 300: the least", desk.gap(0, 0, 45), 60);
        same("gaps 45 .. 300: the least counts", desk.solve(), 0);
        same("gaps 45 .. 300: one more", desk.gap(0, 0, 46), 45);
        same("gaps 45 .. 300: one more counts", desk.solve(), NONE);
        desk.remove(0);
        same("gaps 45 .. 300: the greatest", desk.gap(0, 0, 300), 46);
        same("gaps 45 .. 300: the greatest counts", desk.solve(), 0);
        desk.remove(2);
        fix(desk, 344);
        same("gaps 45 .. 300: one second less", desk.solve(), NONE);
    }

    private static void aGapForEachTwoTypes() {
        RunwayDesk desk = new RunwayDesk();
        for (int pair = 0; pair < 36; pair++) {
            desk.gap(pair / 6, pair % 6, 45 + 5 * pair);
        }
        for (int pair = 0; pair < 36; pair++) {
            int a = pair / 6;
            int b = pair % 6;
            int first = desk.add(a, 0, 0, 0, 1);
            int second = desk.add(b, 0, 0, 3000, 1);
            same("a gap for each two types: " + a + " to " + b, desk.solve(), 45 + 5 * pair);
            desk.remove(first);
            desk.remove(second);
        }
        for (int pair = 0; pair < 36; pair++) {
            same("a gap for each two types: the one before", desk.gap(pair / 6, pair % 6, 60), 45 + 5 * pair);
        }
    }

    private static void theGapToAnyLaterOne() {
        RunwayDesk desk = new RunwayDesk();
        for (int type = 1; type <= 5; type++) {
            for (int other = 0; other <= 5; other++) {
                desk.gap(other, type, 45);
            }
        }
        desk.gap(1, 0, 300);
        for (int m = 0; m < 6; m++) {
            int type = m == 0 ? 1 : 2;
            desk.add(type, 45 * m, 45 * m, 45 * m, 1);
        }
        desk.add(0, 0, 270, 3000, 1);
        same("the gap to any later one: of the first to the last", desk.solve(), 30);
        desk.gap(1, 0, 285);
        same("the gap to any later one: the greater of two", desk.solve(), 15);
        desk.gap(1, 0, 284);
        same("the gap to any later one: that of the next", desk.solve(), 15);
    }

    private static void upToFourClosures() {
        RunwayDesk desk = new RunwayDesk();
        fix(desk, 10);
        same("up to 4 closures: none", desk.solve(), 0);
        for (int c = 1; c <= 3; c++) {
            same("up to 4 closures: how many", desk.close(20, 20), c);
        }
        same("up to 4 closures: three", desk.solve(), 0);
        same("up to 4 closures: the fourth", desk.close(10, 10), 4);
        same("up to 4 closures: the fourth counts", desk.solve(), NONE);
        fails("up to 4 closures: a fifth", STATE, () -> desk.close(30, 30));
        fails("up to 4 closures: a fifth that is there", STATE, () -> desk.close(10, 10));
    }

    private static void bothEndsAreClosed() {
        int[][] closures = {{0, 0}, {0, 1}, {1, 1}, {100, 100}, {100, 101}, {100, 200}, {2999, 3000},
            {3000, 3000}, {0, 3000}};
        for (int[] c : closures) {
            RunwayDesk desk = new RunwayDesk();
            desk.close(c[0], c[1]);
            for (int second : new int[] {c[0] - 1, c[0], (c[0] + c[1]) / 2, c[1], c[1] + 1}) {
                if (second >= 0 && second <= 3000) {
                    int m = fix(desk, second);
                    int due = second < c[0] || second > c[1] ? 0 : NONE;
                    same("both closed: " + second + " of " + c[0] + " .. " + c[1], desk.solve(), due);
                    desk.remove(m);
                }
            }
        }
    }

    private static void closuresOverEachOther() {
        int[][] orders = {{0, 1, 2, 3}, {3, 2, 1, 0}, {1, 3, 0, 2}, {2, 0, 3, 1}};
        int[][] touching = {{0, 99}, {100, 199}, {200, 200}, {201, 300}};
        int[][] lapping = {{0, 150}, {100, 250}, {50, 60}, {250, 300}};
        int[][] same = {{0, 300}, {0, 300}, {0, 300}, {0, 300}};
        for (int[] order : orders) {
            same("closures that touch", firstBehind(touching, order), 301);
            same("closures that lap", firstBehind(lapping, order), 301);
            same("the same closure again", firstBehind(same, order), 301);
        }
        same("a second between closures", firstBehind(new int[][] {{0, 99}, {101, 200}}, new int[] {1, 0}), 100);
    }

    private static int firstBehind(int[][] closures, int[] order) {
        RunwayDesk desk = new RunwayDesk();
        desk.add(0, 0, 0, 3000, 1);
        for (int c : order) {
            desk.close(closures[c][0], closures[c][1]);
        }
        return desk.solve();
    }

    private static void theFirstComeOrder() {
        RunwayDesk desk = new RunwayDesk();
        int[] targets = {500, 0, 500, 3000, 0, 499, 501};
        int[] places = {3, 0, 4, 6, 1, 2, 5};
        for (int target : targets) {
            desk.add(0, 0, target, 3000, 0);
        }
        for (int m = 0; m < 7; m++) {
            same("the first-come order: place of " + m, desk.place(m), places[m]);
        }
        desk.retarget(6, 500);
        same("the first-come order: the same target, the greatest number", desk.place(6), 5);
        desk.retarget(6, 499);
        same("the first-come order: one second less", desk.place(6), 3);
        desk.retarget(1, 3000);
        same("the first-come order: the same target, the lower number", desk.place(1), 5);
        same("the first-come order: the same target, the higher number", desk.place(3), 6);
        desk.remove(1);
        desk.add(0, 0, 3000, 3000, 0);
        same("the first-come order: a number again, not the time of adding", desk.place(1), 5);
    }

    private static void limitBounds() {
        RunwayDesk desk = new RunwayDesk();
        for (int places : new int[] {-1, 7, LOW, HIGH}) {
            fails("limit 0 .. 6: " + places, ARGUMENT, () -> desk.limit(places));
        }
        same("limit 0 .. 6: at first 6", desk.limit(0), 6);
        for (int places = 1; places <= 6; places++) {
            same("limit 0 .. 6: the one before", desk.limit(places), places - 1);
        }
    }

    /** The last of seven has to stand so many places before its own, as its range ends there. */
    private static RunwayDesk lastTo(int places) {
        RunwayDesk desk = new RunwayDesk();
        for (int m = 0; m < 6; m++) {
            desk.add(0, 0, 0, 3000, 0);
        }
        int latest = 60 * (6 - places);
        desk.add(0, 0, latest, latest, 0);
        return desk;
    }

    private static void placesTowardsTheFront() {
        for (int places = 0; places <= 6; places++) {
            RunwayDesk desk = lastTo(places);
            desk.solve();
            same("the limit to the front: place", desk.at(6 - places), 6);
            for (int limit = 0; limit <= 6; limit++) {
                String what = "the limit to the front: " + places + " places, limit " + limit;
                desk.limit(limit);
                same(what, desk.solve(), limit < places ? NONE : 0);
                int wrong = limit == 0 ? 6 - places : 6;
                same(what + ", verify", desk.verify(), limit < places ? wrong : NONE);
            }
        }
    }

    /** The first of seven has to stand so many places behind its own, as the others' ranges end. */
    private static RunwayDesk firstTo(int places) {
        RunwayDesk desk = new RunwayDesk();
        desk.add(0, 0, 0, 3000, 0);
        for (int m = 1; m < 7; m++) {
            desk.add(0, 0, 0, m <= places ? 60 * (places - 1) : 3000, 0);
        }
        return desk;
    }

    private static void placesTowardsTheBack() {
        for (int places = 0; places <= 6; places++) {
            RunwayDesk desk = firstTo(places);
            desk.solve();
            same("the limit to the back: place", desk.at(places), 0);
            for (int limit = 0; limit <= 6; limit++) {
                String what = "the limit to the back: " + places + " places, limit " + limit;
                desk.limit(limit);
                same(what, desk.solve(), limit < places ? NONE : 0);
                same(what + ", verify", desk.verify(), limit < places ? 0 : NONE);
            }
        }
    }

    /** A frozen one may stand anywhere, but those that it moves by a place may not. */
    private static void placesOfFrozenOnes() {
        for (int places = 0; places <= 6; places++) {
            RunwayDesk last = lastTo(places);
            last.freeze(6, 60 * (6 - places));
            RunwayDesk first = firstTo(places);
            first.freeze(0, 60 * places);
            for (int limit = 0; limit <= 6; limit++) {
                last.limit(limit);
                first.limit(limit);
                int due = limit == 0 && places > 0 ? NONE : 0;
                String what = "a frozen one " + places + " places away, limit " + limit;
                same(what + ", to the front", last.solve(), due);
                same(what + ", to the back", first.solve(), due);
            }
        }
    }

    private static void aSoundPlanHasAllMovements() {
        RunwayDesk desk = new RunwayDesk();
        same("all movements: of none", desk.verify(), NONE);
        desk.add(0, 0, 0, 3000, 1);
        same("all movements: one that it does not have", desk.verify(), 0);
        desk.solve();
        same("all movements: one", desk.verify(), NONE);
        for (int m = 1; m < 7; m++) {
            desk.add(0, 0, 0, 3000, 1);
            same("all movements: one more", desk.verify(), m);
            desk.solve();
            same("all movements: solved", desk.verify(), NONE);
        }
        for (int m = 6; m >= 0; m--) {
            desk.remove(m);
            same("no others: one less", desk.verify(), NONE);
        }
    }

    private static void aSoundPlanKeepsToRanges() {
        RunwayDesk desk = new RunwayDesk();
        fix(desk, 0);
        desk.add(0, 0, 60, 60, 1);
        same("ranges: at the latest second", desk.solve(), 0);
        desk.remove(1);
        desk.add(0, 0, 59, 59, 1);
        same("ranges: one behind the latest second", desk.solve(), NONE);
        desk.remove(1);
        desk.add(0, 61, 61, 3000, 1);
        desk.solve();
        same("ranges: not before the earliest second", desk.second(1), 61);
    }

    private static void aSoundPlanKeepsFrozenSeconds() {
        RunwayDesk desk = new RunwayDesk();
        desk.add(0, 10, 10, 20, 1);
        desk.solve();
        for (int second = 10; second <= 20; second++) {
            desk.freeze(0, second);
            same("frozen seconds: at another one", desk.verify(), second == 10 ? NONE : 0);
            same("frozen seconds: solve", desk.solve(), second - 10);
            same("frozen seconds: the second", desk.second(0), second);
            same("frozen seconds: at its own", desk.verify(), NONE);
        }
        desk.close(20, 20);
        same("frozen seconds: closed afterwards", desk.verify(), 0);
        same("frozen seconds: closed afterwards, no plan", desk.solve(), NONE);
    }

    private static void theLaterOneIsTheGapBehind() {
        for (int gap : new int[] {45, 46, 60, 299, 300}) {
            RunwayDesk desk = new RunwayDesk();
            desk.gap(1, 2, gap);
            desk.add(1, 500, 500, 500, 1);
            desk.add(2, 500, 500 + gap, 500 + gap, 1);
            same("the gap behind: just so", desk.solve(), 0);
            same("the gap behind: sound", desk.verify(), NONE);
            desk.gap(1, 2, gap == 300 ? 300 : gap + 1);
            same("the gap behind: one more", desk.verify(), gap == 300 ? NONE : 1);
            same("the gap behind: one more, no plan", desk.solve(), gap == 300 ? 0 : NONE);
        }
    }

    private static void theDelay() {
        RunwayDesk desk = new RunwayDesk();
        desk.add(0, 0, 100, 3000, 7);
        int[][] due = {{0, 0}, {99, 0}, {100, 0}, {101, 7}, {102, 14}, {3000, 20300}};
        for (int[] d : due) {
            desk.freeze(0, d[0]);
            same("the delay at " + d[0], desk.solve(), d[1]);
            same("the delay at " + d[0] + ", first come", desk.firstCome(), d[1]);
            same("the delay at " + d[0] + ", bound", desk.bound(), d[1]);
        }
        desk.add(0, 0, 50, 3000, 3);
        desk.freeze(1, 40);
        same("the delay: one that is early takes nothing off", desk.solve(), 20300);
        desk.freeze(1, 60);
        same("the delay is the sum", desk.solve(), 20330);
        desk.remove(0);
        desk.remove(1);
        same("the delay of nothing", desk.solve(), 0);
    }

    private static void theGreatestDelay() {
        RunwayDesk desk = new RunwayDesk();
        desk.gap(0, 0, 45);
        int sum = 0;
        for (int m = 0; m < 7; m++) {
            desk.add(0, 0, 0, 3000, 100);
            desk.freeze(m, 3000 - 45 * m);
            sum += 100 * (3000 - 45 * m);
        }
        same("the greatest delay", desk.solve(), sum);
        same("the greatest delay alone", desk.bound(), sum);
        same("the greatest delay, but not in the first-come order", desk.firstCome(), NONE);
    }

    private static void theEarliestSeconds() {
        RunwayDesk desk = new RunwayDesk();
        desk.gap(0, 1, 100);
        desk.gap(1, 2, 45);
        desk.gap(0, 2, 146);
        desk.add(0, 5, 10, 3000, 1);
        desk.add(1, 0, 20, 3000, 1);
        desk.add(2, 0, 30, 3000, 1);
        same("the earliest seconds: 5, 105, 151", desk.firstCome(), 85 + 121);
        desk.close(5, 5);
        same("the earliest seconds: 6, 106, 152", desk.firstCome(), 86 + 122);
        desk.close(106, 106);
        same("the earliest seconds: 6, 107, 152", desk.firstCome(), 87 + 122);
        desk.close(107, 107);
        same("the earliest seconds: 6, 108, 153", desk.firstCome(), 88 + 123);
        desk.close(0, 4);
        same("the earliest seconds: a closure before changes nothing", desk.firstCome(), 88 + 123);
    }

    private static void thereAreNoEarliestSeconds() {
        RunwayDesk desk = new RunwayDesk();
        same("the earliest seconds of nothing", desk.firstCome(), 0);
        desk.add(0, 0, 0, 100, 1);
        desk.add(0, 0, 1, 60, 1);
        same("the earliest seconds: the last of a range", desk.firstCome(), 59);
        desk.gap(0, 0, 61);
        same("no earliest seconds: behind the range", desk.firstCome(), NONE);
        same("no earliest seconds in one order, but a plan", desk.solve(), 61);
        desk.gap(0, 0, 60);
        desk.close(60, 60);
        same("no earliest seconds: the last of a range is closed", desk.firstCome(), NONE);
        desk.reopen();
        desk.freeze(1, 60);
        same("the earliest seconds: of a frozen one", desk.firstCome(), 59);
        desk.freeze(1, 59);
        same("no earliest seconds: frozen too near", desk.firstCome(), NONE);
    }

    private static void theFirstOfTheBestOrders() {
        RunwayDesk desk = new RunwayDesk();
        for (int m = 0; m < 7; m++) {
            desk.add(0, 0, 6 - m, 3000, 0);
        }
        desk.solve();
        for (int i = 0; i < 7; i++) {
            same("the first of the orders: by first-come places, not numbers", desk.at(i), 6 - i);
        }
        RunwayDesk late = new RunwayDesk();
        late.add(0, 200, 200, 3000, 0);
        late.add(0, 0, 201, 3000, 0);
        late.add(0, 0, 202, 3000, 1);
        same("the first of the orders: the least delay before the order", late.solve(), 0);
        same("the first of the orders: one must not wait", late.at(0), 1);
        same("the first of the orders: nor the next", late.at(1), 2);
        late.remove(2);
        late.add(0, 0, 202, 3000, 0);
        late.solve();
        same("the first of the orders: the order before the seconds", late.at(0), 0);
        same("the first of the orders: so all are late", late.second(2), 320);
    }

    private static void theEarliestOfTheBestPlans() {
        RunwayDesk desk = new RunwayDesk();
        desk.add(0, 3, 1000, 3000, 5);
        desk.add(0, 0, 2000, 3000, 0);
        same("the earliest plan: no delay", desk.solve(), 0);
        same("the earliest plan: not at the target", desk.second(0), 3);
        same("the earliest plan: nor the next", desk.second(1), 63);
    }

    private static void theResultAtFirst() {
        RunwayDesk desk = new RunwayDesk();
        fails("the result at first: at", INDEX, () -> desk.at(0));
        fails("the plans at first: change", INDEX, () -> desk.change(0, 0));
        same("the plans at first: accept", desk.accept(), 0);
        desk.add(0, 0, 0, 0, 1);
        fails("the result at first: second", STATE, () -> desk.second(0));
        fails("the plans at first, with a movement: change", INDEX, () -> desk.change(0, 0));
        same("the plans at first, with a movement: accept", desk.accept(), 0);
        desk.solve();
        same("the accepted plan at first", desk.change(0, 1), NONE);
    }

    private static void aRemovedMovementIsInNoPlan() {
        RunwayDesk desk = new RunwayDesk();
        for (int m = 0; m < 3; m++) {
            desk.add(0, 0, 0, 3000, 1);
        }
        desk.solve();
        desk.accept();
        desk.freeze(1, 500);
        desk.solve();
        same("removed: changed before", desk.change(0, 0), 1);
        desk.remove(1);
        same("removed: the result's first", desk.at(0), 0);
        same("removed: the result's second", desk.at(1), 2);
        fails("removed: the result has two", INDEX, () -> desk.at(2));
        same("removed: the other one that changed", desk.change(0, 0), 2);
        fails("removed: it has not changed any more", INDEX, () -> desk.change(1, 0));
        same("removed: given again", desk.add(0, 0, 0, 3000, 1), 1);
        fails("removed: given again, not in the result", STATE, () -> desk.second(1));
        fails("removed: given again, in neither plan", INDEX, () -> desk.change(1, 0));
        desk.solve();
        same("removed: given again, not in the accepted plan", desk.change(0, 1), NONE);
    }

    private static void noSuchMovement() {
        RunwayDesk desk = new RunwayDesk();
        for (int m = 0; m < 7; m++) {
            desk.add(0, 0, 0, 3000, 1);
        }
        desk.solve();
        desk.remove(3);
        for (int m : new int[] {-1, 3, 7, LOW, HIGH}) {
            fails("no such movement: remove " + m, ELEMENT, () -> desk.remove(m));
            fails("no such movement: retarget " + m, ELEMENT, () -> desk.retarget(m, 0));
            fails("no such movement: freeze " + m, ELEMENT, () -> desk.freeze(m, 0));
            fails("no such movement: thaw " + m, ELEMENT, () -> desk.thaw(m));
            fails("no such movement: whatIf " + m, ELEMENT, () -> desk.whatIf(m, 0));
            fails("no such movement: second " + m, ELEMENT, () -> desk.second(m));
            fails("no such movement: place " + m, ELEMENT, () -> desk.place(m));
            fails("no such movement: slack " + m, ELEMENT, () -> desk.slack(m));
        }
        for (int m : new int[] {0, 2, 4, 6}) {
            same("such a movement: second " + m, desk.second(m), 60 * m);
            same("such a movement: place " + m, desk.place(m), m < 3 ? m : m - 1);
        }
    }

    /** The document bounds the calls on an object, and the last of them is answered as the first. */
    private static void fiveHundredAndTwelveCalls() {
        RunwayDesk desk = new RunwayDesk();
        for (int round = 0; round < 64; round++) {
            same("512 calls: add", desk.add(0, 0, 0, 3000, 2), 0);
            same("512 calls: close", desk.close(0, round), 1);
            same("512 calls: solve", desk.solve(), 2 * (round + 1));
            same("512 calls: accept", desk.accept(), 1);
            same("512 calls: second", desk.second(0), round + 1);
            same("512 calls: gap", desk.gap(0, 0, 100 + round), round == 0 ? 60 : 99 + round);
            same("512 calls: reopen", desk.reopen(), 1);
            same("512 calls: remove", desk.remove(0), 0);
        }
    }
}
