/** The boundary cases of promises 6 to 12 and of the Terms' second part, sentence by sentence. */
public final class BoundsOfRidesTest extends Asking {
    private static void refusedOne(int second, int from, int to) {
        refused(Asking::busy, "one(" + second + ", " + from + ", " + to + ")", x -> x.one(second, from, to), NONE);
    }

    private static void refusedSet(int what, int i, int v) {
        refused(Asking::busy, "set(" + what + ", " + i + ", " + v + ")", x -> x.set(what, i, v) ? 1 : 0, 0);
    }

    private static void refusedSeconds(int n) {
        refused(Asking::busy, "seconds(" + n + ")", x -> x.seconds(n), NONE);
    }

    private static void crowd(FourCars x, int n, int from, int to) {
        for (int i = 0; i < n; i++) {
            x.one(x.look(3), from, to);
        }
    }

    private static void dueCar(FourCars x, String when, int c, int... row) {
        for (int what = 0; what < row.length; what++) {
            due(when + ": car(" + c + ", " + what + ")", x.car(c, what), row[what]);
        }
    }

    private static void duePerson(FourCars x, String when, int p, int state, int car, int wait, int ride) {
        due(when + ": person(" + p + ", 3)", x.person(p, 3), state);
        due(when + ": person(" + p + ", 4)", x.person(p, 4), car);
        due(when + ": person(" + p + ", 5)", x.person(p, 5), wait);
        due(when + ": person(" + p + ", 6)", x.person(p, 6), ride);
    }

    // promise 6

    private static void secondsToComeAt() {
        sentence("a SECOND 0 .. 9999 (not ahead of NOW) at which one comes and presses");
        FourCars x = tower("floors 6;car 1 1 1 0 5;");
        due("SECOND -1", x.one(-1, 0, 1), NONE);
        due("SECOND 0", x.one(0, 0, 1), 0);
        due("SECOND 9999", x.one(9999, 0, 1), 1);
        due("SECOND 10000", x.one(10000, 0, 1), NONE);
        due("SECOND MIN", x.one(MIN, 0, 1), NONE);
        due("SECOND MAX", x.one(MAX, 0, 1), NONE);
        for (int second : new int[] {MIN, -1, 0, 7, 10000, MAX}) {
            refusedOne(second, 0, 1);
        }
        FourCars y = busy();
        due("SECOND NOW", y.one(8, 0, 1), 4);
        due("not there yet", y.person(4, 3), 0);
        y.seconds(1);
        due("it came", y.person(4, 3), 1);
        FourCars z = tower("floors 6;car 1 1 1 0 5;");
        pass(z, 9999);
        due("9998 at 9999", z.one(9998, 0, 1), NONE);
        due("9999 at 9999", z.one(9999, 0, 1), 0);
        z.seconds(1);
        due("it came", z.person(0, 3), 1);
        due("9999 at 10000", z.one(9999, 0, 1), NONE);
        due("10000 at 10000", z.one(10000, 0, 1), NONE);
    }

    private static void floorsToComeFrom() {
        sentence("a FLOOR, another FLOOR to go to; UP, if that is higher, else DOWN.");
        for (int floor : new int[] {MIN, -1, 6, MAX}) {
            refusedOne(8, floor, 1);
            refusedOne(8, 1, floor);
            refusedOne(8, floor, floor);
        }
        refusedOne(8, 0, 0);
        refusedOne(8, 3, 3);
        refusedOne(8, 5, 5);
        FourCars x = tower("floors 6;");
        due("lowest to highest", x.one(0, 0, 5), 0);
        due("highest to lowest", x.one(0, 5, 0), 1);
        due("one up", x.one(0, 3, 4), 2);
        due("one down", x.one(0, 3, 2), 3);
        FourCars y = tower("floors 2;car 1 1 1 0 1;");
        tell(y, 0, "never;");
        tell(y, 1, "cost up;");
        y.one(0, 0, 1);
        y.one(0, 1, 0);
        y.seconds(1);
        due("UP", y.cost(0, 0, 1), 1);
        due("DOWN", y.cost(1, 0, 1), 0);
        due("from where no floors are", new FourCars().one(0, 0, 1), NONE);
    }

    private static FourCars sixty() {
        FourCars x = tower("floors 6;car 12 1 1 0 0;");
        for (int p = 0; p < 60; p++) {
            due("one", x.one(0, 0, 5), p);
        }
        return x;
    }

    private static void sixtyPeople() {
        sentence("PEOPLE 0 .. 59 as they come");
        sentence("the number; NONE if one can't be, or there are sixty.");
        FourCars x = sixty();
        due("PEOPLE", x.look(2), 60);
        due("the 60th", x.person(59, 2), 5);
        due("no 61st", x.person(60, 2), NO_SUCH);
        refused(BoundsOfRidesTest::sixty, "the 61st", y -> y.one(0, 1, 2), NONE);
        due("all of them get there", x.seconds(600), 60);
        due("the 61st when all are THERE", x.one(600, 1, 2), NONE);
        due("PEOPLE still", x.look(2), 60);
        due("a new TOWER", tell(x, 3, "floors 3;"), 1);
        due("the first of it", x.one(0, 2, 0), 0);
    }

    // promise 7

    private static void theRuleInForce() {
        sentence("What 0 THE RULE IN FORCE");
        FourCars x = tower("floors 6;car 1 1 1 0 5;");
        for (int rule : new int[] {2, 0, 1}) {
            due("set(0, 0, " + rule + ")", x.set(0, 0, rule), true);
            due("THE RULE IN FORCE", x.look(4), rule);
        }
        for (int rule : new int[] {MIN, -1, 3, MAX}) {
            refusedSet(0, 0, rule);
        }
        sentence("(i not asked for 0)");
        for (int i : new int[] {MIN, -1, 0, 99, MAX}) {
            due("set(0, " + i + ", 1)", x.set(0, i, 1), true);
            due("THE RULE IN FORCE", x.look(4), 1);
            due("set(0, " + i + ", 2)", x.set(0, i, 2), true);
            due("THE RULE IN FORCE", x.look(4), 2);
        }
        FourCars y = new FourCars();
        due("without a TOWER", y.set(0, 0, 2), true);
        due("it is in force", y.look(4), 2);
    }

    private static void whoCanBeOut() {
        sentence("1 OUT of CAR i (0, 1)");
        for (int c : new int[] {MIN, -1, 2, 3, MAX}) {
            refusedSet(1, c, 0);
            refusedSet(1, c, 1);
        }
        for (int v : new int[] {MIN, -1, 2, MAX}) {
            refusedSet(1, 0, v);
            refusedSet(1, 1, v);
        }
        FourCars x = busy();
        for (int c = 0; c < 2; c++) {
            due("OUT", x.set(1, c, 1), true);
            due("it is", x.car(c, 6), 1);
            due("the other one", x.car(1 - c, 6), 0);
            due("right", x.set(1, c, 0), true);
            due("it is not", x.car(c, 6), 0);
        }
        refused(Asking::busy, "right though in order", y -> y.set(1, 0, 0) ? 1 : 0, 1);
        refused(BoundsOfRidesTest::bothOut, "OUT though OUT", y -> y.set(1, 0, 1) ? 1 : 0, 1);
    }

    private static FourCars bothOut() {
        FourCars x = busy();
        x.set(1, 0, 1);
        x.set(1, 1, 1);
        x.seconds(5);
        return x;
    }

    private static void homesOfCars() {
        sentence("2 HOME of CAR i (NONE: none)");
        for (int c : new int[] {MIN, -1, 2, MAX}) {
            refusedSet(2, c, 0);
            refusedSet(2, c, NONE);
        }
        for (int floor : new int[] {MIN, -2, 6, MAX}) {
            refusedSet(2, 0, floor);
        }
        FourCars x = busy();
        for (int floor : new int[] {0, 5, NONE}) {
            due("set(2, 0, " + floor + ")", x.set(2, 0, floor), true);
            due("HOME", x.car(0, 7), floor);
            due("the other one's", x.car(1, 7), 3);
        }
    }

    private static void weightsOfFloors() {
        sentence("3 WEIGHT of FLOOR i");
        for (int floor : new int[] {MIN, -1, 6, MAX}) {
            refusedSet(3, floor, 1);
        }
        for (int weight : new int[] {MIN, -1, 100, MAX}) {
            refusedSet(3, 0, weight);
            refusedSet(3, 5, weight);
        }
        FourCars x = busy();
        for (int floor : new int[] {0, 5}) {
            for (int weight : new int[] {99, 0}) {
                due("set(3, " + floor + ", " + weight + ")", x.set(3, floor, weight), true);
                due("WEIGHT", x.look(100 + floor), weight);
                due("another one", x.look(104), 7);
            }
        }
        sentence("true; false if one can't be, or another what.");
        for (int what : new int[] {MIN, -1, 4, 5, MAX}) {
            refusedSet(what, 0, 0);
            refusedSet(what, 1, 1);
        }
        FourCars y = new FourCars();
        due("OUT of no CAR", y.set(1, 0, 1), false);
        due("HOME of no CAR", y.set(2, 0, NONE), false);
        due("WEIGHT of no FLOOR", y.set(3, 0, 1), false);
        due("HOME of no CAR, with FLOORS", tower("floors 6;").set(2, 0, NONE), false);
    }

    // promise 8

    private static void howManySeconds() {
        sentence("SECONDS go by (1 .. 600): how many came to be THERE");
        for (int n : new int[] {MIN, -1, 0, 601, 1000, MAX}) {
            refusedSeconds(n);
        }
        FourCars x = tower("floors 3;car 12 1 1 0 0;");
        due("one SECOND of nobody", x.seconds(1), 0);
        due("NOW", x.look(3), 1);
        due("600 SECONDS of nobody", x.seconds(600), 0);
        due("NOW", x.look(3), 601);
        crowd(x, 12, 0, 2);
        // in at 601, going at 602, out at 604
        due("till they are nearly there", x.seconds(3), 0);
        due("all at once", x.seconds(1), 12);
        due("none any more", x.seconds(1), 0);
        due("THERE", x.sums(3), 12);
    }

    private static FourCars late(int now) {
        FourCars x = tower("floors 6;car 2 2 1 1 0;");
        tell(x, 0, "never when waits<9900;");
        tell(x, 1, "cost far;");
        x.one(9999, 3, 1);
        pass(x, now);
        return x;
    }

    private static void beyondTheLast() {
        sentence("NONE, and nothing is done, if one can't be, or beyond 19999.");
        refused(() -> late(19400), "600 SECONDS at 19400", x -> x.seconds(600), NONE);
        refused(() -> late(19998), "2 SECONDS at 19998", x -> x.seconds(2), NONE);
        refused(() -> late(19999), "a SECOND at 19999", x -> x.seconds(1), NONE);
        FourCars x = late(19399);
        due("600 SECONDS at 19399", x.seconds(600), 1);
        due("NOW", x.look(3), 19999);
        // at 19899 it has waited 9900 seconds and is given: three floors, two seconds each, then out of 3 at 19905
        due("it was given at last", x.person(0, 5), 9906);
        due("and got there", x.person(0, 6), 6);
        FourCars y = late(19400);
        due("599 SECONDS at 19400", y.seconds(599), 1);
        due("NOW", y.look(3), 19999);
        FourCars z = late(19998);
        due("one SECOND at 19998", z.seconds(1), 0);
        due("NOW", z.look(3), 19999);
    }

    // promise 9

    private static void ofACar() {
        sentence("100 + f 1 if it serves FLOOR f, else 0. NONE - 1 if there is none such, or another what.");
        FourCars x = tower("floors 80;car 1 1 1 0 0;car 12 9 9 9 79;skip 0 79;skip 1 0;");
        dueCar(x, "at first", 0, 0, 0, 0, 0, 0, 0, 0, -1, 1, 1, 1, 0, NO_SUCH);
        dueCar(x, "at first", 1, 79, 0, 0, 0, 0, 0, 0, -1, 12, 9, 9, 9, NO_SUCH);
        due("car(0, 100)", x.car(0, 100), 1);
        due("car(0, 179)", x.car(0, 179), 0);
        due("car(1, 100)", x.car(1, 100), 0);
        due("car(1, 179)", x.car(1, 179), 1);
        for (int what : new int[] {MIN, MIN + 99, MIN + 100, -1, 12, 13, 99, 180, 181, MAX}) {
            due("car(0, " + what + ")", x.car(0, what), NO_SUCH);
            due("car(1, " + what + ")", x.car(1, what), NO_SUCH);
        }
        for (int c : new int[] {MIN, -1, 2, 3, 4, MAX}) {
            for (int what : new int[] {-1, 0, 7, 8, 11, 100}) {
                due("car(" + c + ", " + what + ")", x.car(c, what), NO_SUCH);
            }
        }
        due("of no TOWER", new FourCars().car(0, 0), NO_SUCH);
        FourCars y = tower("floors 2;car 1 1 1 0 0;");
        due("car(0, 101) of two", y.car(0, 101), 1);
        due("car(0, 102) of two", y.car(0, 102), NO_SUCH);
    }

    // promise 10

    private static void ofAPerson() {
        sentence("4 the CAR (given or ridden; NONE), 5 WAIT (NONE: not in yet), 6 RIDE (NONE: not THERE).");
        FourCars x = tower("floors 6;car 1 1 2 1 0;");
        x.one(3, 0, 4);
        x.one(3, 1, 4);
        x.seconds(3);
        duePerson(x, "at 3", 0, 0, NONE, NONE, NONE);
        x.seconds(1);
        duePerson(x, "in at once", 0, 2, 0, 0, NONE);
        duePerson(x, "given", 1, 1, 0, NONE, NONE);
        // going at 6, on FLOOR 1 at 7 without ROOM, out at 10, again on FLOOR 1 at 16, in, out at 22
        x.seconds(6);
        duePerson(x, "at 10", 0, 2, 0, 0, NONE);
        x.seconds(1);
        duePerson(x, "at 11", 0, 3, 0, 0, 7);
        x.seconds(5);
        duePerson(x, "at 16", 1, 1, 0, NONE, NONE);
        x.seconds(1);
        duePerson(x, "at 17", 1, 2, 0, 13, NONE);
        x.seconds(5);
        duePerson(x, "at 22", 1, 2, 0, 13, NONE);
        x.seconds(1);
        duePerson(x, "at 23", 1, 3, 0, 13, 6);
        sentence("`int person(int p, int what)`: Of one what 0 SECOND, 1 from, 2 to, 3 0 not there yet, 1 WAITS, 2 RIDES, 3 THERE");
        due("SECOND", x.person(1, 0), 3);
        due("from", x.person(1, 1), 1);
        due("to", x.person(1, 2), 4);
        for (int what : new int[] {MIN, -1, 7, 8, MAX}) {
            due("person(0, " + what + ")", x.person(0, what), NO_SUCH);
        }
        for (int p : new int[] {MIN, -1, 2, 3, 59, 60, MAX}) {
            for (int what = -1; what <= 7; what++) {
                due("person(" + p + ", " + what + ")", x.person(p, what), NO_SUCH);
            }
        }
        due("of nobody", new FourCars().person(0, 0), NO_SUCH);
    }

    // promise 11

    private static void whoHasACost() {
        sentence("COST of one who WAITS for a CAR by a RULE; NONE - 99999999 if one can't be, or never.");
        FourCars x = busy();
        due("THERE", x.person(0, 3), 3);
        due("RIDES", x.person(1, 3), 2);
        due("WAITS", x.person(2, 3), 1);
        due("not there yet", x.person(3, 3), 0);
        int[] due = {NO_COST, NO_COST, 0, NO_COST};
        for (int p = 0; p < 4; p++) {
            for (int c = 0; c < 2; c++) {
                due("cost(" + p + ", " + c + ", 2)", x.cost(p, c, 2), due[p]);
            }
        }
        for (int n : new int[] {MIN, -1, 4, 59, 60, MAX}) {
            due("cost(" + n + ", 0, 2)", x.cost(n, 0, 2), NO_COST);
        }
        for (int n : new int[] {MIN, -1, 2, 3, 4, MAX}) {
            due("cost(2, " + n + ", 2)", x.cost(2, n, 2), NO_COST);
        }
        for (int n : new int[] {MIN, -1, 3, 4, MAX}) {
            due("cost(2, 0, " + n + ")", x.cost(2, 0, n), NO_COST);
        }
        due("never for CAR 0", x.cost(2, 0, 1), NO_COST);
        due("not never for CAR 1", x.cost(2, 1, 1), 3);
        due("of no TOWER", new FourCars().cost(0, 0, 0), NO_COST);
    }

    /** Two CARS, on the lowest and on the highest of eighty FLOORS, and a call from each end that nobody takes. */
    private static FourCars ends() {
        FourCars x = tower("floors 80;car 1 1 1 0 0;car 1 1 1 0 79;");
        tell(x, 0, "never;");
        x.one(0, 0, 79);
        x.one(0, 79, 0);
        x.seconds(1);
        return x;
    }

    private static void price(FourCars x, String rule, int p, int c, int want) {
        tell(x, 2, rule);
        due("cost(" + p + ", " + c + ") by " + rule, x.cost(p, c, 2), want);
    }

    private static void factsAtTheEnds() {
        sentence("far: FLOORS between");
        FourCars x = ends();
        price(x, "cost far;", 0, 0, 0);
        price(x, "cost far;", 0, 1, 79);
        price(x, "cost far;", 1, 0, 79);
        price(x, "cost far;", 1, 1, 0);
        sentence("up (1 for UP, else 0), floor; waits: seconds since one came; car: its number.");
        price(x, "cost up;", 0, 1, 1);
        price(x, "cost up;", 1, 1, 0);
        price(x, "cost floor;", 0, 1, 0);
        price(x, "cost floor;", 1, 1, 79);
        price(x, "cost waits;", 1, 1, 1);
        price(x, "cost car;", 1, 1, 1);
        price(x, "cost car;", 1, 0, 0);
        pass(x, 19998);
        price(x, "cost waits;", 0, 0, 19999);
        FourCars y = tower("floors 9;" + times(4, "car 1 1 1 0 0;"));
        tell(y, 0, "never;");
        y.one(3, 1, 2);
        y.seconds(4);
        price(y, "cost car;", 0, 3, 3);
        price(y, "cost waits;", 0, 3, 1);
        sentence("seconds since one came");
        FourCars z = tower("floors 9;car 1 1 1 0 0;");
        tell(z, 0, "never when waits<1;");
        z.one(3, 1, 2);
        z.seconds(4);
        due("it has waited 0 seconds", z.person(0, 4), NONE);
        z.seconds(1);
        due("it has waited one", z.person(0, 4), 0);
        FourCars w = tower("floors 9;car 1 1 1 0 0;");
        tell(w, 0, "never when waits>0;");
        w.one(3, 1, 2);
        w.seconds(4);
        due("it is given as it comes", w.person(0, 4), 0);
    }

    private static void sameAndAgainst() {
        sentence("same (1, if its WAY is not 0, is that of the call, and the call's FLOOR is not behind it on that WAY, else 0)");
        sentence("against (1, if its WAY is not 0 and not that of the call, else 0)");
        FourCars x = ends();
        for (int p = 0; p < 2; p++) {
            for (int c = 0; c < 2; c++) {
                price(x, "cost same+10*against;", p, c, 0);
            }
        }
        for (int way = -1; way <= 1; way += 2) {
            FourCars y = tower("floors 9;car 1 1 1 0 4;");
            tell(y, 2, "cost same+10*against;");
            y.one(0, 4, 4 + 4 * way);
            for (int d = -1; d <= 1; d++) {
                y.one(0, 4 + d * way, 4 + (d + 1) * way);
                y.one(0, 4 + d * way, 4 + (d - 1) * way);
            }
            y.seconds(1);
            due("its WAY", y.car(0, 1), way);
            due("its FLOOR", y.car(0, 0), 4);
            for (int d = -1; d <= 1; d++) {
                due("with it, from " + d + " on its WAY " + way, y.cost(3 + 2 * d, 0, 2), d < 0 ? 0 : 1);
                due("against it, from " + d + " on its WAY " + way, y.cost(4 + 2 * d, 0, 2), 10);
            }
        }
    }

    private static void countsOfACar() {
        sentence("load: who RIDES in it; given: calls given to it that WAIT; idle (1, if it is IDLE, else 0)");
        FourCars x = tower("floors 9;car 12 1 1 0 0;car 1 1 1 0 8;");
        tell(x, 0, "cost car;");
        crowd(x, 12, 0, 1);
        x.one(0, 1, 2);
        x.seconds(1);
        price(x, "cost load;", 12, 0, 12);
        price(x, "cost given;", 12, 0, 1);
        price(x, "cost load+given;", 12, 1, 0);
        price(x, "cost idle;", 12, 0, 0);
        price(x, "cost idle;", 12, 1, 1);
        x.seconds(1);
        due("it GOES", x.car(0, 2), 1);
        price(x, "cost idle;", 12, 0, 0);
        x.set(1, 0, 1);
        price(x, "cost load;", 12, 0, 12);
        price(x, "cost given;", 12, 0, 0);
        price(x, "cost idle;", 12, 0, 1);
        FourCars y = tower("floors 9;car 1 1 1 0 0;");
        crowd(y, 60, 8, 7);
        y.seconds(1);
        price(y, "cost given;", 59, 0, 60);
        price(y, "cost load;", 59, 0, 0);
    }

    private static void whichLine() {
        sentence("E of the first line whose B is so (or that has none); never: it is not given; without a line 0");
        FourCars x = ends();
        price(x, "", 0, 0, 0);
        price(x, "cost 5 when 1=2;", 0, 0, 0);
        price(x, "never when 1=2;", 0, 0, 0);
        price(x, "never when 1=1;", 0, 0, NO_COST);
        price(x, "never;", 0, 0, NO_COST);
        price(x, "cost 1;cost 2;", 0, 0, 1);
        price(x, "cost 1;never;", 0, 0, 1);
        price(x, "never;cost 1;", 0, 0, NO_COST);
        price(x, "never when 1=2;cost 1 when 1=2;cost 7 when 1=1;cost 8;", 0, 0, 7);
        price(x, times(15, "cost 1 when 1=2;") + "cost 9;", 0, 0, 9);
        price(x, times(15, "cost 1 when 1=2;") + "never;", 0, 0, NO_COST);
        price(x, times(16, "cost 1 when 1=2;"), 0, 0, 0);
        price(x, "cost 0;cost 2;", 0, 0, 0);
        price(x, "cost 0-1;", 0, 0, -1);
    }

    // promise 12

    private static void sumsOfAll() {
        sentence("SUMS what 0 WAIT, 1 RIDE, 2 the greatest WAIT, 3 how many are THERE. NONE for another what.");
        FourCars x = tower("floors 6;car 1 1 1 0 0;");
        for (int what : new int[] {MIN, -1, 4, 5, MAX}) {
            due("sums(" + what + ")", x.sums(what), NONE);
        }
        for (int what = 0; what < 4; what++) {
            due("sums(" + what + ") of nobody", x.sums(what), 0);
            due("sums(" + what + ") of no TOWER", new FourCars().sums(what), 0);
        }
        sentence("WAIT (seconds from coming to going in) and RIDE (from that to THERE) of all who did so");
        x.one(0, 0, 3);
        x.one(0, 4, 5);
        x.one(900, 0, 1);
        // in at 0, out at 4; on FLOOR 4 and in at 6, out at 8
        int[][] due = {{1, 0, 0, 0, 0}, {4, 0, 0, 0, 0}, {5, 0, 4, 0, 1}, {6, 0, 4, 0, 1}, {7, 6, 4, 6, 1}, {8, 6, 4, 6, 1}, {9, 6, 6, 6, 2}};
        for (int[] row : due) {
            x.seconds(row[0] - x.look(3));
            for (int what = 0; what < 4; what++) {
                due("sums(" + what + ") at " + row[0], x.sums(what), row[1 + what]);
            }
        }
    }

    private static void theGreatestWait() {
        sentence("2 the greatest WAIT");
        for (int longest = 0; longest < 3; longest++) {
            FourCars x = tower("floors 9;" + times(3, "car 1 1 1 0 0;"));
            tell(x, 0, "cost given+load;");
            for (int p = 0; p < 3; p++) {
                x.one(0, p == longest ? 8 : p, 7);
            }
            x.seconds(100);
            due("the greatest is that of " + longest, x.sums(2), 8);
            due("its WAIT", x.person(longest, 5), 8);
        }
    }

    // the Terms' second part: a SECOND

    private static void whoComes() {
        sentence("first all whose SECOND is NOW come.");
        FourCars x = tower("floors 6;car 9 1 1 0 0;");
        x.one(2, 0, 1);
        x.one(3, 0, 1);
        x.one(2, 5, 1);
        x.seconds(2);
        due("nobody WAITS", x.look(5) + x.look(6), 0);
        x.seconds(1);
        duePerson(x, "comes at 2", 0, 2, 0, 0, NONE);
        duePerson(x, "comes at 3", 1, 0, NONE, NONE, NONE);
        duePerson(x, "comes at 2, too", 2, 1, 0, NONE, NONE);
        due("WAITS", x.look(5), 1);
        due("RIDES", x.look(6), 1);
        x.seconds(1);
        duePerson(x, "comes while it looks again", 1, 2, 0, 0, NONE);
    }

    private static void whoIsGiven() {
        sentence("of several the least; none: it stays so.");
        String four = "floors 9;" + times(4, "car 1 1 1 0 0;");
        given(four, "cost 7;", 0);
        given(four, "cost 9-car;", 3);
        given(four, "cost 5 when car=1 or car=3;cost 6;", 1);
        given(four, "never when car<2;", 2);
        given(four, "never when car<3;cost 9999;", 3);
        given(four, "never;", NONE);
        given(four, "cost 256*256*256*128-1;", 0);
        given(four, "cost 256*256*256*128-1 when car<2;cost 256*256*256*128-2;", 2);
        given(four, "cost 256*256*256*128 when car=2;cost 0-9999;", 2);
        sentence("of those that are not OUT and serve both FLOORS (never: not that one)");
        given(four + "skip 0 4;skip 1 6;skip 3 4;", "", 2);
        given(four + "skip 0 4;skip 1 6;skip 2 4;skip 3 6;", "", NONE);
        given(four + "skip 0 5;skip 0 3;skip 0 7;", "", 0);
        given("floors 9;", "", NONE);
        FourCars x = tower(four);
        x.set(1, 0, 1);
        x.set(1, 1, 1);
        x.one(0, 4, 6);
        x.seconds(1);
        due("two are OUT", x.person(0, 4), 2);
    }

    private static void given(String towerText, String rule, int want) {
        FourCars x = tower(towerText);
        tell(x, 0, rule);
        x.one(0, 4, 6);
        x.seconds(1);
        due("who is given by " + rule + " in " + towerText, x.person(0, 4), want);
        x.seconds(100);
        due("the same later on", x.person(0, 4), want);
        due("who is THERE", x.sums(3), want == NONE ? 0 : 1);
    }

    private static void inOrder() {
        sentence("Then all who WAIT and are given to none, in order");
        FourCars x = tower("floors 9;" + times(3, "car 1 1 1 0 8;"));
        tell(x, 0, "never when given>1;cost given;");
        crowd(x, 7, 0, 1);
        x.seconds(1);
        for (int p = 0; p < 7; p++) {
            due("who is given " + p, x.person(p, 4), p == 6 ? NONE : p % 3);
        }
        x.set(1, 1, 1);
        due("taken back", x.person(1, 4), NONE);
        due("taken back, too", x.person(4, 4), NONE);
        due("another one's", x.person(3, 4), 0);
        x.set(1, 1, 0);
        x.seconds(1);
        due("the first of three", x.person(1, 4), 1);
        due("the second of three", x.person(4, 4), 1);
        due("the third of three", x.person(6, 4), NONE);
    }

    private static FourCars onItsWayHome(int speed, String rule) {
        FourCars x = tower("floors 9;car 1 " + speed + " 1 0 0;");
        tell(x, 0, rule);
        x.set(2, 0, 3);
        return x;
    }

    /** In whatever SECOND a COST may change, though many are asked for at once. */
    private static void givenInAnySecond() {
        sentence("Then all who WAIT and are given to none, in order: each is given to the CAR");
        FourCars x = onItsWayHome(1, "never when idle=0;");
        x.one(1, 0, 1);
        x.seconds(60);
        // at HOME and IDLE at 3, given at 4, three floors back
        duePerson(x, "as soon as it is IDLE", 0, 3, 0, 6, 2);
        FourCars y = onItsWayHome(9, "never when idle=1;");
        y.one(0, 0, 1);
        y.seconds(9);
        duePerson(y, "as soon as it GOES", 0, 1, 0, NONE, NONE);
        FourCars z = onItsWayHome(9, "never when up=1 and given=0;");
        z.one(2, 5, 8);
        z.one(2, 5, 4);
        z.seconds(3);
        duePerson(z, "ahead of another one", 0, 1, NONE, NONE, NONE);
        FourCars w = onItsWayHome(9, "never when up=1 and given=0;");
        w.one(2, 5, 8);
        w.one(2, 5, 4);
        w.seconds(8);
        duePerson(w, "as soon as another one is", 0, 1, 0, NONE, NONE);
    }

    private static void oneSecondLess() {
        sentence("one that GOES or STOPS has one second less; if some are left, that is all; one that went is at the next FLOOR.");
        for (int n = 1; n <= 9; n += 8) {
            FourCars x = tower("floors 3;car 1 " + n + " " + n + " 0 0;");
            x.one(0, 0, 1);
            x.seconds(1);
            dueCar(x, "it STOPS", 0, 0, 1, 2, n, 1, 0);
            for (int i = n - 1; i > 0; i--) {
                x.seconds(1);
                dueCar(x, "it STOPS still", 0, 0, 1, 2, i, 1, 0);
            }
            x.seconds(1);
            dueCar(x, "it GOES", 0, 0, 1, 1, n, 1, 0);
            for (int i = n - 1; i > 0; i--) {
                x.seconds(1);
                dueCar(x, "it GOES still", 0, 0, 1, 1, i, 1, 0);
            }
            x.seconds(1);
            dueCar(x, "it is there and STOPS", 0, 1, 0, 2, n, 0, 0);
            pass(x, n - 1);
            dueCar(x, "it STOPS at last", 0, 1, 0, 2, 1, 0, 0);
            x.seconds(1);
            dueCar(x, "it is IDLE", 0, 1, 0, 0, 0, 0, 0);
        }
        FourCars y = tower("floors 3;car 1 1 1 0 0;");
        y.set(1, 0, 1);
        y.set(2, 0, 2);
        y.seconds(9);
        sentence("Then CAR by CAR, if it is not OUT");
        dueCar(y, "OUT", 0, 0, 0, 0, 0, 0, 0, 1, 2);
    }

    // the Terms' second part: it LOOKS

    private static void ahead() {
        sentence("If its WAY is 0 or no TARGET lies ahead on it");
        // who goes out on FLOOR 4 at 6, while another one waits one FLOOR on, here, or one FLOOR back
        for (int floor = 3; floor <= 5; floor++) {
            FourCars x = tower("floors 9;car 1 1 1 0 0;");
            x.one(0, 0, 4);
            x.one(4, floor, 2);
            x.seconds(6);
            due("its FLOOR", x.car(0, 0), 4);
            due("its WAY with a call from " + floor, x.car(0, 1), floor > 4 ? 1 : -1);
            due("who RIDES", x.car(0, 4), floor == 4 ? 1 : 0);
        }
        FourCars y = tower("floors 9;car 1 1 1 0 8;");
        y.one(0, 8, 4);
        y.one(0, 3, 5);
        y.seconds(6);
        due("TARGET ahead on its way down", y.car(0, 1), -1);
        FourCars z = tower("floors 9;car 1 1 1 0 0;");
        z.one(0, 0, 4);
        z.one(4, 4, 8);
        z.seconds(6);
        due("on up with who waits here", z.car(0, 1), 1);
        due("who RIDES", z.person(1, 3), 2);
    }

    private static void theFirstHere() {
        sentence("WAY becomes, if someone given to it WAITS here, that of the first");
        FourCars x = tower("floors 9;car 2 1 1 0 4;car 1 1 1 0 4;");
        tell(x, 0, "cost 1-car when floor=4 and up=1 and waits=0 and given=0;cost car;");
        // who comes first is given to the other CAR
        x.one(0, 4, 8);
        x.one(0, 4, 1);
        x.one(0, 4, 8);
        x.one(0, 5, 8);
        x.seconds(1);
        due("the first one's CAR", x.person(0, 4), 1);
        due("down with the first given to it", x.car(0, 1), -1);
        due("it RIDES", x.person(1, 3), 2);
        due("the other one WAITS", x.person(2, 3), 1);
        sentence("as long as there is ROOM.");
        FourCars y = tower("floors 9;car 1 1 1 0 4;");
        y.one(0, 4, 2);
        y.one(3, 2, 3);
        y.one(3, 2, 8);
        y.seconds(5);
        due("up with the first, who takes the only place", y.car(0, 4), 1);
        due("the first RIDES", y.person(1, 3), 2);
        due("the second WAITS", y.person(2, 3), 1);
        due("WAY", y.car(0, 1), 1);
    }

    private static void theNearest() {
        sentence("else that to the nearest TARGET elsewhere (of two alike far up)");
        for (int down = 1; down <= 4; down++) {
            for (int up = 1; up <= 4; up++) {
                FourCars x = tower("floors 9;car 1 1 1 0 4;");
                x.one(0, 4 - down, 4);
                x.one(0, 4 + up, 4);
                x.seconds(1);
                due("WAY with a call " + down + " below and " + up + " above", x.car(0, 1), up <= down ? 1 : -1);
            }
        }
        FourCars y = tower("floors 80;car 1 1 1 0 0;car 1 1 1 0 79;");
        tell(y, 0, "never when far<79;");
        y.one(0, 79, 78);
        y.one(0, 0, 1);
        y.seconds(1);
        due("from the lowest to the highest", y.car(0, 1), 1);
        due("from the highest to the lowest", y.car(1, 1), -1);
        y.seconds(79);
        due("it is there", y.car(0, 0), 79);
        due("the other one, too", y.car(1, 0), 0);
    }

    private static void toItsHome() {
        sentence("without any that to its HOME (if it has one and is not there), else 0.");
        for (int home = -1; home <= 2; home++) {
            FourCars x = tower("floors 3;car 1 2 1 0 1;");
            x.set(2, 0, home);
            x.seconds(1);
            int way = home == -1 ? 0 : home - 1;
            dueCar(x, "HOME " + home, 0, 1, way, way == 0 ? 0 : 1, way == 0 ? 0 : 2);
            x.seconds(2);
            dueCar(x, "later, HOME " + home, 0, 1 + way, 0, 0, 0);
        }
        FourCars y = tower("floors 3;car 1 2 1 0 1;");
        y.set(2, 0, 2);
        y.one(0, 0, 1);
        y.seconds(1);
        due("a TARGET comes first", y.car(0, 1), -1);
        y.seconds(60);
        dueCar(y, "then HOME", 0, 2, 0, 0, 0);
    }

    private static void asLongAsThereIsRoom() {
        sentence("Then those given to it who WAIT here and go its WAY go in, the first first, as long as there is ROOM.");
        for (int room = 1; room <= 12; room += 11) {
            FourCars x = tower("floors 4;car " + room + " 1 1 0 1;");
            crowd(x, 1, 1, 3);
            crowd(x, 1, 1, 0);
            crowd(x, room, 1, 2);
            x.seconds(1);
            due("ROOM " + room, x.car(0, 4), room);
            due("WAITING", x.car(0, 5), 2);
            due("the first", x.person(0, 3), 2);
            due("who goes down", x.person(1, 3), 1);
            due("the last but one", x.person(room, 3), room == 1 ? 1 : 2);
            due("the last", x.person(room + 1, 3), 1);
        }
        // who goes out makes ROOM for who comes in
        FourCars y = tower("floors 4;car 1 1 2 3 0;");
        y.one(0, 0, 1);
        y.one(0, 1, 2);
        y.seconds(7);
        duePerson(y, "out", 0, 3, 0, 0, 6);
        duePerson(y, "in", 1, 2, 0, 6, NONE);
        dueCar(y, "it STOPS for two", 0, 1, 1, 2, 8, 1, 0);
    }

    private static void stopsFor() {
        sentence("it STOPS for DOOR and LOAD for each of them; else, with a WAY, it GOES for SPEED; else it is IDLE.");
        FourCars x = tower("floors 3;car 12 1 9 9 0;");
        crowd(x, 12, 0, 1);
        crowd(x, 12, 1, 2);
        x.seconds(1);
        dueCar(x, "twelve in", 0, 0, 1, 2, 9 + 9 * 12, 12, 12);
        x.seconds(117);
        dueCar(x, "it GOES", 0, 0, 1, 1, 1, 12, 12);
        x.seconds(1);
        dueCar(x, "twelve out and twelve in", 0, 1, 1, 2, 9 + 9 * 24, 12, 0);
        x.seconds(225);
        x.seconds(1);
        dueCar(x, "twelve out", 0, 2, 0, 2, 9 + 9 * 12, 0, 0);
        x.seconds(117);
        dueCar(x, "IDLE", 0, 2, 0, 0, 0, 0, 0);
        FourCars y = tower("floors 3;car 12 9 1 0 0;");
        crowd(y, 12, 0, 1);
        y.seconds(1);
        dueCar(y, "twelve without LOAD", 0, 0, 1, 2, 1, 12, 0);
        y.seconds(1);
        dueCar(y, "it GOES for SPEED", 0, 0, 1, 1, 9, 12, 0);
    }

    // the Terms' second part: OUT

    private static FourCars onItsWay() {
        FourCars x = tower("floors 9;car 3 9 2 1 0;car 1 1 1 0 8;");
        tell(x, 0, "cost far;");
        x.one(0, 0, 5);
        x.one(0, 2, 5);
        x.one(0, 8, 6);
        x.one(2, 7, 6);
        return x;
    }

    private static void outOfOrder() {
        sentence("OUT: calls given to it (that WAIT) are given to none; who RIDES stays in; it is IDLE, its WAY 0, at the FLOOR where it was last");
        FourCars x = onItsWay();
        x.seconds(12);
        dueCar(x, "a second ahead of FLOOR 1", 0, 0, 1, 1, 1, 1, 1, 0, NONE, 3);
        due("OUT", x.set(1, 0, 1), true);
        dueCar(x, "OUT", 0, 0, 0, 0, 0, 1, 0, 1, NONE, 3);
        duePerson(x, "who RIDES", 0, 2, 0, 0, NONE);
        duePerson(x, "who WAITS", 1, 1, NONE, NONE, NONE);
        x.set(1, 1, 1);
        due("nobody gets there", x.seconds(600), 0);
        dueCar(x, "OUT for long", 0, 0, 0, 0, 0, 1, 0, 1, NONE, 3);
        duePerson(x, "who RIDES still", 0, 2, 0, 0, NONE);
        duePerson(x, "who WAITS still", 1, 1, NONE, NONE, NONE);
        sentence("set right again it LOOKS in the next SECOND.");
        x.set(1, 0, 0);
        dueCar(x, "right", 0, 0, 0, 0, 0, 1, 0, 0, NONE, 3);
        x.seconds(1);
        dueCar(x, "it LOOKED", 0, 0, 1, 1, 9, 1, 1, 0, NONE, 3);
        duePerson(x, "given anew", 1, 1, 0, NONE, NONE);
        x.seconds(600);
        // given at 612, on FLOOR 2 at 630, there for 3 seconds, on FLOOR 5 at 660
        duePerson(x, "in the end", 0, 3, 0, 0, 660);
        duePerson(x, "in the end", 1, 3, 0, 630, 30);
        FourCars y = onItsWay();
        y.seconds(1);
        dueCar(y, "it STOPS", 0, 0, 1, 2, 3, 1, 1);
        y.set(1, 0, 1);
        dueCar(y, "OUT while it STOPS", 0, 0, 0, 0, 0, 1, 0, 1);
        y.set(1, 0, 0);
        y.seconds(1);
        dueCar(y, "it GOES without a stop", 0, 0, 1, 1, 9, 1, 1, 0);
    }

    private static void theOtherCar() {
        sentence("calls given to it (that WAIT) are given to none");
        FourCars x = onItsWay();
        x.seconds(3);
        due("given to the other CAR", x.person(3, 4), 1);
        x.set(1, 0, 1);
        due("still given to the other CAR", x.person(3, 4), 1);
        dueCar(x, "the other CAR", 1, 7, -1, 1, 1, 1, 1, 0);
        x.seconds(1);
        due("the call goes to the other CAR", x.person(1, 4), 1);
        due("who RIDES does not", x.person(0, 4), 0);
        dueCar(x, "the other CAR a SECOND later", 1, 6, -1, 2, 1, 0, 2, 0);
    }

    public static void main(String[] args) {
        secondsToComeAt();
        floorsToComeFrom();
        sixtyPeople();
        theRuleInForce();
        whoCanBeOut();
        homesOfCars();
        weightsOfFloors();
        howManySeconds();
        beyondTheLast();
        ofACar();
        ofAPerson();
        whoHasACost();
        factsAtTheEnds();
        sameAndAgainst();
        countsOfACar();
        whichLine();
        sumsOfAll();
        theGreatestWait();
        whoComes();
        whoIsGiven();
        inOrder();
        givenInAnySecond();
        oneSecondLess();
        ahead();
        theFirstHere();
        theNearest();
        toItsHome();
        asLongAsThereIsRoom();
        stopsFor();
        outOfOrder();
        theOtherCar();
        close();
    }
}
