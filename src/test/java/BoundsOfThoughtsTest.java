import java.util.function.ToIntFunction;

/** The boundary cases of promises 13 to 21 and of the Terms' third part, sentence by sentence. */
public final class BoundsOfThoughtsTest extends Asking {
    private static final int[] NO_RULES = {MIN, -1, 3, 4, MAX};

    /** A question leaves all as it was, whatever it answers. */
    private static void asksAlone(String call, ToIntFunction<FourCars> ask) {
        refused(Asking::busy, call, ask, ask.applyAsInt(busy()));
    }

    private static void refusedAll(String call, ToIntFunction<FourCars> ask, int want) {
        refused(Asking::busy, call, ask, want);
    }

    private static FourCars waiting(String rule, int from, int to) {
        FourCars x = tower("floors 4;car 1 1 1 0 0;");
        tell(x, 0, rule);
        x.one(0, from, to);
        return x;
    }

    // promise 13

    private static void whatCanBeThought() {
        sentence("TO THE END by a RULE what 0 OVER added, 1 the greatest, 2 SECONDS from now. NONE without an end, if one can't be, or another what.");
        for (int rule : NO_RULES) {
            refusedAll("thought(" + rule + ", 0)", x -> x.thought(rule, 0), NONE);
            refusedAll("thought(" + rule + ", 2)", x -> x.thought(rule, 2), NONE);
        }
        for (int what : new int[] {MIN, -1, 3, 4, 10, MAX}) {
            refusedAll("thought(0, " + what + ")", x -> x.thought(0, what), NONE);
            refusedAll("thought(2, " + what + ")", x -> x.thought(2, what), NONE);
        }
        sentence("TO THE END, in thought (nothing of it stays)");
        for (int what = 0; what < 3; what++) {
            int asked = what;
            for (int rule = 0; rule < 3; rule++) {
                int by = rule;
                asksAlone("thought(" + by + ", " + asked + ")", x -> x.thought(by, asked));
            }
        }
        FourCars x = waiting("never;", 0, 1);
        for (int what = 0; what < 3; what++) {
            due("never: thought(0, " + what + ")", x.thought(0, what), NONE);
        }
        due("by an empty RULE", x.thought(1, 0), 2);
        due("by an empty RULE, SECONDS", x.thought(1, 2), 3);
    }

    private static void nobodyToThinkOf() {
        sentence("SECONDS go by till all PEOPLE told are THERE");
        for (int what = 0; what < 3; what++) {
            due("nobody: thought(0, " + what + ")", tower("floors 4;car 1 1 1 0 0;").thought(0, what), 0);
            due("no CAR and nobody: thought(2, " + what + ")", tower("floors 4;").thought(2, what), 0);
            due("no TOWER: thought(1, " + what + ")", new FourCars().thought(1, what), 0);
        }
        FourCars x = waiting("", 0, 1);
        x.one(5, 1, 3);
        x.one(40, 3, 2);
        // out at 2; in at 5, out at 8; in at 40, out at 42
        int[] seconds = {43, 23, 0};
        for (int i = 0; i < 3; i++) {
            due("OVER at " + x.look(3), x.thought(0, 0), 2 + 3 + 2);
            due("the greatest at " + x.look(3), x.thought(0, 1), 3);
            due("SECONDS at " + x.look(3), x.thought(0, 2), seconds[i]);
            x.seconds(i == 0 ? 20 : 23);
        }
        due("SECONDS behind the end", x.thought(0, 2), 0);
        due("no CAR and someone", noCar().thought(0, 0), NONE);
    }

    private static FourCars noCar() {
        FourCars x = tower("floors 4;");
        x.one(0, 0, 1);
        return x;
    }

    private static void threeThousand() {
        sentence("up to 3000: OVER of all added, the greatest one, SECONDS; NONE if they are not all THERE by then.");
        for (int n = 2996; n <= 2998; n++) {
            FourCars x = waiting("never when waits<" + n + ";", 0, 1);
            due("OVER with " + n, x.thought(0, 0), n > 2997 ? NONE : n + 2);
            due("the greatest with " + n, x.thought(0, 1), n > 2997 ? NONE : n + 2);
            due("SECONDS with " + n, x.thought(0, 2), n > 2997 ? NONE : n + 3);
            FourCars y = waiting("", 0, 1);
            y.seconds(50);
            y.one(50 + n, 1, 2);
            due("who comes in " + n, y.thought(0, 0), n > 2997 ? NONE : 4);
            due("SECONDS of who comes in " + n, y.thought(0, 2), n > 2997 ? NONE : n + 3);
        }
        FourCars z = waiting("never;", 0, 3);
        pass(z, 19999);
        due("NOW", z.look(3), 19999);
        // in thought SECONDS go by behind the last one, too
        due("SECONDS at 19999", z.thought(1, 2), 5);
        due("OVER at 19999", z.thought(1, 0), 19999 + 4);
    }

    // promise 14

    private static void betterOfTwo() {
        sentence("BETTER of two RULES; NONE if one can't be.");
        for (int rule : NO_RULES) {
            refusedAll("better(" + rule + ", 0)", x -> x.better(rule, 0), NONE);
            refusedAll("better(2, " + rule + ")", x -> x.better(2, rule), NONE);
            refusedAll("better(" + rule + ", " + rule + ")", x -> x.better(rule, rule), NONE);
        }
        asksAlone("better(0, 1)", x -> x.better(0, 1));
        asksAlone("better(2, 1)", x -> x.better(2, 1));
        sentence("that with less OVER added (one without an end is worse); of both the lesser number.");
        String[] rules = {"never;", "never when waits<9;", "never when waits<8;", "never when waits<2998;", ""};
        int[] over = {NONE, 11, 10, NONE, 2};
        for (int a = 0; a < rules.length; a++) {
            for (int b = 0; b < rules.length; b++) {
                FourCars x = waiting(rules[a], 0, 1);
                tell(x, 2, rules[b]);
                boolean isSecond = over[b] != NONE && (over[a] == NONE || over[b] < over[a]);
                due("better(0, 2) of " + rules[a] + " and " + rules[b], x.better(0, 2), isSecond ? 2 : 0);
                due("better(2, 0) of " + rules[a] + " and " + rules[b], x.better(2, 0), isSecond ? 2 : 0);
            }
        }
        FourCars y = new FourCars();
        due("without a TOWER", y.better(2, 1), 1);
        due("one with itself", y.better(2, 2), 2);
    }

    // promise 15

    private static FourCars crowd(int people, int cars) {
        FourCars x = tower("floors 4;" + times(cars, "car 12 1 1 1 0;"));
        for (int p = 0; p < people; p++) {
            x.one(0, 0, 3);
        }
        return x;
    }

    private static void howManyForBest() {
        sentence("BEST GIVING (of 1 to 6 PEOPLE, all not there yet, or WAITING and given to none; 1 to 3 CARS, none OUT)");
        // n who go in at once are there n + 4 seconds later
        due("of nobody", crowd(0, 1).best(0), NONE);
        due("of one", crowd(1, 1).best(0), 5);
        due("of six", crowd(6, 1).best(0), 60);
        due("of seven", crowd(7, 1).best(0), NONE);
        due("of seven, the CAR", crowd(7, 1).best(10), NONE);
        due("no CAR", crowd(1, 0).best(0), NONE);
        due("two CARS", crowd(6, 2).best(0), 42);
        due("three CARS", crowd(6, 3).best(0), 36);
        due("four CARS", crowd(6, 4).best(0), NONE);
        due("four CARS for one", crowd(1, 4).best(0), NONE);
        for (int c = 0; c < 3; c++) {
            FourCars x = crowd(6, 3);
            x.set(1, c, 1);
            due("CAR " + c + " is OUT", x.best(0), NONE);
            x.set(1, c, 0);
            due("CAR " + c + " is right again", x.best(0), 36);
        }
        FourCars y = waiting("never when waits<5;", 1, 2);
        y.one(9, 1, 2);
        due("all not there yet", y.best(0), 3 + 3);
        y.seconds(5);
        due("one WAITS and is given to none", y.best(0), 8 + 3);
        y.seconds(1);
        due("one is given", y.best(0), NONE);
        y.set(1, 0, 1);
        y.set(1, 0, 0);
        // on its way to FLOOR 1 it was taken back to FLOOR 0
        due("taken back", y.best(0), 9 + 4);
        y.seconds(1);
        due("given again", y.best(0), NONE);
        y.seconds(1);
        due("it RIDES", y.person(0, 3), 2);
        due("one RIDES", y.best(0), NONE);
        y.seconds(2);
        due("it is THERE", y.person(0, 3), 3);
        due("one is THERE", y.best(0), NONE);
        asksAlone("best(0)", x -> x.best(0));
        refused(() -> crowd(6, 3), "best(0)", x -> x.best(0), 36);
        refused(() -> crowd(6, 3), "best(15)", x -> x.best(15), 2);
        refused(() -> crowd(6, 4), "best(0)", x -> x.best(0), NONE);
    }

    private static void whichGiving() {
        sentence("of several the first (by the first of them: lesser CARS first).");
        int[] six = {0, 0, 1, 1, 2, 2};
        FourCars x = crowd(6, 3);
        for (int p = 0; p < 6; p++) {
            due("best(" + (10 + p) + ")", x.best(10 + p), six[p]);
        }
        FourCars y = crowd(3, 2);
        due("two for CAR 0", y.best(10) + y.best(11), 0);
        due("one for CAR 1", y.best(12), 1);
        FourCars z = crowd(1, 3);
        due("all CARS alike", z.best(10), 0);
        sentence("to give each to one CAR that serves both FLOORS");
        String cars = "floors 4;" + times(3, "car 12 1 1 1 0;");
        int[] none = {NONE, NONE};
        best(cars + "skip 0 1;", new int[] {1, 1}, 4);
        best(cars + "skip 0 2;", new int[] {1, 1}, 4);
        best(cars + "skip 0 2;skip 1 1;", new int[] {2, 2}, 4);
        best(cars + "skip 0 0;skip 0 3;", new int[] {0, 0}, 4);
        best(cars + "skip 0 1;skip 1 2;skip 2 1;", none, NONE);
    }

    private static void unlikeCars() {
        sentence("that with the least OVER added TO THE END");
        FourCars x = tower("floors 4;car 12 9 1 1 0;car 12 1 1 1 0;car 12 2 1 1 3;");
        x.one(0, 0, 3);
        due("the fast one's OVER", x.best(0), 5);
        due("the fast one", x.best(10), 1);
        x.one(0, 3, 2);
        due("and the one that is there", x.best(0), 5 + 4);
        due("the fast one still", x.best(10), 1);
        due("the one that is there", x.best(11), 2);
    }

    private static void best(String towerText, int[] cars, int over) {
        FourCars x = tower(towerText);
        x.one(0, 1, 2);
        x.one(0, 2, 1);
        due("the CAR of 0 in " + towerText, x.best(10), cars[0]);
        due("an OVER at all in " + towerText, x.best(0) == NONE, over == NONE);
        for (int p = 0; p < 2 && over != NONE; p++) {
            due("it serves both", x.car(x.best(10 + p), 101) + x.car(x.best(10 + p), 102), 2);
        }
    }

    private static void whatOfBest() {
        sentence("what 0 OVER added, 10 + p the CAR of one. NONE if one can't be, there is none with an end, or another what.");
        for (int what : new int[] {MIN, -1, 1, 2, 9, 12, 13, 15, 16, 69, 70, MAX}) {
            refused(() -> crowd(2, 2), "best(" + what + ") of two", x -> x.best(what), NONE);
        }
        FourCars x = crowd(6, 2);
        due("best(15) of six", x.best(15), 1);
        due("best(16) of six", x.best(16), NONE);
        FourCars one = crowd(1, 2);
        due("best(10) of one", one.best(10), 0);
        due("best(11) of one", one.best(11), NONE);
        for (int second = 2996; second <= 2998; second++) {
            FourCars y = tower("floors 4;car 1 1 1 0 0;car 1 1 1 0 3;");
            y.one(second, 0, 1);
            due("OVER of who comes at " + second, y.best(0), second > 2997 ? NONE : 2);
            due("the CAR of who comes at " + second, y.best(10), second > 2997 ? NONE : 0);
        }
        due("no TOWER", new FourCars().best(0), NONE);
        due("no TOWER, the CAR of 0", new FourCars().best(10), NONE);
    }

    // promise 16

    private static void howManyMornings() {
        sentence("TOWERS of 8 FLOORS at most.");
        for (int floors = 2; floors <= 8; floors++) {
            int calls = floors * (floors - 1);
            FourCars x = tower("floors " + floors + ";car 1 1 1 0 0;");
            due("of one call, FLOORS " + floors, x.mornings(0, 1, 1, 1), calls);
            due("of two calls, FLOORS " + floors, x.mornings(0, 1, 2, 1), calls * calls);
            due("none, FLOORS " + floors, x.mornings(0, 1, 1, 0), NONE);
        }
        for (int floors : new int[] {9, 10, 80}) {
            FourCars x = tower("floors " + floors + ";car 1 1 1 0 0;");
            tell(x, 0, "never;");
            due("of one call, FLOORS " + floors, x.mornings(0, 1, 1, 1), NONE);
            due("of two calls, FLOORS " + floors, x.mornings(0, 1, 2, 1), NONE);
            due("the first, FLOORS " + floors, x.mornings(0, 1, 1, 0), NONE);
        }
        FourCars y = tower("floors 8;car 1 1 1 0 0;");
        tell(y, 0, "never;");
        due("the first, FLOORS 8", y.mornings(0, 1, 2, 0), 0);
        due("without a TOWER", new FourCars().mornings(0, 1, 1, 1), NONE);
        due("without a TOWER, of two", new FourCars().mornings(0, 1, 2, 1), NONE);
        due("without a TOWER, the first", new FourCars().mornings(0, 1, 1, 0), NONE);
        sentence("what 0 the first (NONE: none), 1 how many there are. NONE if one can't be, or another what.");
        for (int rule : NO_RULES) {
            for (int what = 0; what < 2; what++) {
                int asked = what;
                refusedAll("mornings(" + rule + ", 0, 1, " + what + ")", x -> x.mornings(rule, 0, 1, asked), NONE);
                refusedAll("mornings(1, " + rule + ", 2, " + what + ")", x -> x.mornings(1, rule, 2, asked), NONE);
            }
        }
        for (int n : new int[] {MIN, -1, 0, 3, 4, MAX}) {
            refusedAll("mornings(1, 0, " + n + ", 0)", x -> x.mornings(1, 0, n, 0), NONE);
            refusedAll("mornings(1, 0, " + n + ", 1)", x -> x.mornings(1, 0, n, 1), NONE);
        }
        for (int what : new int[] {MIN, -1, 2, 3, 10, MAX}) {
            refusedAll("mornings(1, 0, 1, " + what + ")", x -> x.mornings(1, 0, 1, what), NONE);
            refusedAll("mornings(1, 0, 2, " + what + ")", x -> x.mornings(1, 0, 2, what), NONE);
        }
        asksAlone("mornings(1, 0, 1, 0)", x -> x.mornings(1, 0, 1, 0));
        asksAlone("mornings(1, 0, 2, 0)", x -> x.mornings(1, 0, 2, 0));
    }

    private static void numbersOfMornings() {
        sentence("(numbered by FLOOR, then where to, from 0; two: by the first one, then the second one: PEOPLE 0, 1)");
        FourCars x = tower("floors 8;car 2 1 1 0 0;");
        for (int floor = 0; floor < 8; floor++) {
            tell(x, 0, "never when floor=" + floor + ";");
            due("from " + floor, x.mornings(0, 1, 1, 0), 7 * floor);
            due("the second one from " + floor, x.mornings(0, 1, 2, 0), 7 * floor);
        }
        for (int floor = 1; floor < 7; floor++) {
            tell(x, 0, "never when floor=" + floor + " and up=1;");
            due("up from " + floor, x.mornings(0, 1, 1, 0), 8 * floor);
        }
        // only CAR 1, the fast one, makes a difference, and it serves FLOORS 6 and 7 alone
        FourCars y = tower("floors 8;car 2 9 1 0 0;car 2 1 1 0 7;" + lowSkips());
        tell(y, 0, "cost car;");
        tell(y, 1, "cost 0-car when floor=7;cost car;");
        due("the last of one call", y.mornings(0, 1, 1, 0), 55);
        due("the first two with it", y.mornings(0, 1, 2, 0), 55);
        FourCars z = tower("floors 2;car 2 1 1 0 0;");
        tell(z, 0, "never when up=0 and given=1;");
        due("the last of two calls", z.mornings(0, 1, 2, 0), 3);
        tell(z, 0, "never when up=1 and given=1;");
        due("the first of two calls", z.mornings(0, 1, 2, 0), 0);
    }

    private static void firstWorseMorning() {
        sentence("the first (by number) on which RULE a has more OVER than RULE b");
        FourCars x = tower("floors 2;car 2 1 1 0 0;");
        tell(x, 0, "never when floor=1 and waits<9;");
        tell(x, 1, "never when floor=1 and waits<5;");
        due("one of two is given later", x.mornings(0, 1, 2, 0), 1);
        due("and not sooner", x.mornings(1, 0, 2, 0), NONE);
        tell(x, 3, "floors 2;car 2 1 1 0 0;car 2 1 1 0 0;");
        tell(x, 0, "never when floor=1 and waits<9;cost 1-car;");
        tell(x, 1, "never when floor=1 and waits<5;cost 1-car;");
        due("though the other one is given alike", x.mornings(0, 1, 2, 0), 1);
        FourCars y = tower("floors 2;car 1 1 1 0 0;car 1 9 1 0 0;");
        tell(y, 0, "cost car when floor=0;cost 1-car;");
        tell(y, 1, "cost 1-car when floor=0;cost car;");
        due("the wrong one of two to each", y.mornings(0, 1, 2, 0), 1);
        due("both to the slow one", y.mornings(1, 0, 2, 0), 0);
    }

    private static String lowSkips() {
        StringBuilder s = new StringBuilder();
        for (int floor = 0; floor < 6; floor++) {
            s.append("skip 1 ").append(floor).append(';');
        }
        return s.toString();
    }

    private static void asTold() {
        sentence("in this TOWER with CARS where they were told, nobody else, none OUT, no HOME");
        FourCars x = tower("floors 8;car 1 9 1 0 0;car 1 9 1 0 4;");
        tell(x, 0, "cost car;");
        tell(x, 1, "cost far;");
        tell(x, 2, "never when waits<9;cost far;");
        int[] due = morningsOf(x);
        due("the nearer one stands on FLOOR 4", due[1], 21);
        due("to wait is worse", due[5], 0);
        due("it is never better", due[7], NONE);
        x.set(2, 0, 7);
        x.set(2, 1, 6);
        x.set(1, 1, 1);
        x.one(0, 7, 0);
        x.one(900, 3, 0);
        x.seconds(100);
        due("CAR 0 is elsewhere", x.car(0, 0) > 0, true);
        due("by CAR 0 alone all get there", x.thought(1, 0) != NONE, true);
        int[] later = morningsOf(x);
        for (int i = 0; i < due.length; i++) {
            due("asked anew, " + i, later[i], due[i]);
        }
    }

    private static int[] morningsOf(FourCars x) {
        return new int[] {x.mornings(0, 0, 1, 0), x.mornings(0, 1, 1, 0), x.mornings(1, 0, 1, 0), x.mornings(0, 1, 2, 0),
            x.mornings(1, 0, 2, 0), x.mornings(2, 1, 1, 0), x.mornings(2, 1, 2, 0), x.mornings(1, 2, 1, 0), x.mornings(1, 2, 2, 0)};
    }

    private static void thousand() {
        sentence("TO THE END (1000 SECONDS; one without an end has 999999)");
        FourCars x = tower("floors 2;car 1 1 1 0 0;");
        tell(x, 0, "never;");
        for (int n = 995; n <= 998; n++) {
            tell(x, 1, "never when waits<" + n + ";");
            due("up, given after " + n, x.mornings(0, 1, 1, 0), n > 997 ? NONE : 0);
            due("one with an end is not worse, " + n, x.mornings(1, 0, 1, 0), NONE);
            tell(x, 1, "never when up=1 or waits<" + n + ";");
            due("down, given after " + n, x.mornings(0, 1, 1, 0), n > 996 ? NONE : 1);
            // who rides up brings the CAR where the other one waits
            tell(x, 1, "never when up=1 and waits<4 or up=0 and waits<" + n + ";");
            due("two, given after " + n, x.mornings(0, 1, 2, 0), 0);
            tell(x, 2, "never when up=0;never when waits<4;");
            due("two, up and down, given after " + n, x.mornings(2, 1, 2, 0), n > 997 ? NONE : 1);
        }
        tell(x, 1, "never when waits<900;");
        tell(x, 2, "never when waits<901;");
        due("a SECOND later is worse", x.mornings(2, 1, 1, 0), 0);
        due("a SECOND earlier is not", x.mornings(1, 2, 2, 0), NONE);
        due("both without an end", x.mornings(0, 0, 2, 0), NONE);
    }

    // promise 17

    private static FourCars two(int from, int to) {
        FourCars x = tower("floors 9;car 4 1 3 9 0;skip 0 4;");
        x.one(0, 3, 5);
        x.one(0, from, to);
        x.seconds(1);
        return x;
    }

    private static void whoHasFun() {
        sentence("one of PEOPLE who WAITS presses another FLOOR (neither from nor to; whether the CAR serves it or not), too");
        for (int p : new int[] {MIN, -1, 4, 59, 60, MAX}) {
            refusedAll("fun(" + p + ", 1)", x -> x.fun(p, 1), NO_FUN);
        }
        int[] states = {3, 2, 1, 0};
        for (int p = 0; p < 4; p++) {
            int who = p;
            due("state of " + p, busy().person(p, 3), states[p]);
            due("fun of " + p, busy().fun(p, 5) == NO_FUN, states[p] != 1);
            asksAlone("fun(" + p + ", 5)", x -> x.fun(who, 5));
        }
        for (int floor : new int[] {MIN, -1, 0, 2, 6, 7, MAX}) {
            refusedAll("fun(2, " + floor + ")", x -> x.fun(2, floor), NO_FUN);
        }
        FourCars x = two(6, 7);
        due("from", x.fun(0, 3), NO_FUN);
        due("to", x.fun(0, 5), NO_FUN);
        due("the lowest FLOOR", x.fun(0, 0), 0);
        due("the highest FLOOR", x.fun(0, 8), 0);
        due("one FLOOR too high", x.fun(0, 9), NO_FUN);
        due("a FLOOR that the CAR leaves out", x.fun(0, 4), 3);
        due("without a TOWER", new FourCars().fun(0, 0), NO_FUN);
        sentence("as soon as in: how much longer OVER of all the others together is TO THE END.");
        due("a FLOOR that it passes ahead of going in", x.fun(0, 1), 0);
        due("a FLOOR where another one goes in", x.fun(0, 6), 0);
        // three FLOORS up, a stop without LOAD, three FLOORS down while who goes down waits
        due("a FLOOR behind all", two(2, 1).fun(0, 8), 3 + 3 + 3);
        FourCars alone = waiting("never when waits<1;", 0, 2);
        alone.seconds(1);
        due("nobody else", alone.fun(0, 1), 0);
        FourCars other = tower("floors 9;car 4 1 3 9 0;car 4 1 3 9 8;");
        tell(other, 0, "cost far;");
        other.one(0, 1, 8);
        other.one(0, 7, 0);
        other.one(0, 1, 7);
        other.seconds(1);
        due("the other CAR does not stop", other.fun(0, 4), 3);
        due("nobody is in with it", other.fun(1, 4), 0);
    }

    private static void funAsATarget() {
        sentence("TARGETS are the FLOORS of all who RIDE in it, FLOORS told to it for fun");
        due("ahead on its way down again", two(8, 0).fun(0, 1), 3);
        due("where who goes down waits", two(6, 2).fun(0, 6), 0);
        FourCars x = tower("floors 9;car 4 1 3 9 8;");
        x.one(0, 5, 3);
        x.one(0, 2, 6);
        x.seconds(1);
        due("where who goes up waits", x.fun(0, 2), 0);
        FourCars y = tower("floors 9;car 4 1 3 9 0;");
        y.one(0, 3, 5);
        y.one(60, 5, 6);
        y.seconds(1);
        due("the CAR goes down for it", y.fun(0, 1), 4);
        due("the CAR goes up for it", y.fun(0, 8), 3);
        sentence("or this FLOOR was told for fun (it is not any more): it STOPS for DOOR");
        due("once alone", two(7, 1).fun(0, 6), 3);
    }

    private static void noFunStays() {
        sentence("(nothing of it stays)");
        FourCars x = two(6, 7);
        due("not come by before the end", x.fun(0, 0), 0);
        x.one(100, 0, 1);
        FourCars y = two(6, 7);
        y.one(100, 0, 1);
        due("thought behind fun", x.thought(0, 0), y.thought(0, 0));
        FourCars z = tower("floors 4;car 12 1 3 0 0;");
        tell(z, 0, "never when waits<5;");
        z.one(0, 0, 2);
        z.one(0, 0, 3);
        z.seconds(1);
        int best = z.best(0);
        due("fun", z.fun(0, 1), 3);
        due("best behind fun", z.best(0), best);
        FourCars w = tower("floors 4;car 12 1 3 0 0;car 12 3 1 0 0;skip 1 1;skip 1 2;");
        tell(w, 0, "cost car;");
        tell(w, 1, "cost 9 when floor=0 and given=1;cost car;");
        tell(w, 2, "never when waits<5;");
        w.set(0, 0, 2);
        w.one(0, 0, 3);
        w.seconds(1);
        int first = w.mornings(0, 1, 2, 0);
        due("the first two calls are not it", first < 0 || first > 2, true);
        due("fun alone", w.fun(0, 2), 0);
        due("mornings behind fun", w.mornings(0, 1, 2, 0), first);
    }

    private static void funWithoutAnEnd() {
        sentence("NONE - 99999 if one can't be, or one of both has no end.");
        for (int n = 2995; n <= 2998; n++) {
            FourCars x = waiting("never when waits<" + n + ";", 0, 2);
            x.seconds(1);
            due("a stop on the way, given after " + n, x.fun(0, 1), n > 2996 ? NO_FUN : 0);
            due("no stop on the way, given after " + n, x.fun(0, 3), n > 2997 ? NO_FUN : 0);
        }
        FourCars y = waiting("never;", 0, 2);
        y.seconds(1);
        due("neither of both", y.fun(0, 1), NO_FUN);
        y.set(0, 0, 1);
        due("by THE RULE IN FORCE", y.fun(0, 1), 0);
        y.set(1, 0, 1);
        due("the only CAR is OUT", y.fun(0, 1), NO_FUN);
    }

    // promises 18 and 19

    private interface Sum {
        int of(int[] points);
    }

    /** The least sum of all rows of unlike points, then the first row that has it, tried one by one. */
    private static int[] least(int low, int high, int k, Sum sum) {
        int[] points = new int[k];
        int[] found = new int[k + 1];
        found[0] = MAX;
        tryAll(low, high, 0, points, sum, found);
        return found;
    }

    private static void tryAll(int low, int high, int at, int[] points, Sum sum, int[] found) {
        if (at == points.length) {
            int here = sum.of(points);
            if (here < found[0]) {
                found[0] = here;
                System.arraycopy(points, 0, found, 1, points.length);
            }
            return;
        }
        for (int point = low; point <= high; point++) {
            points[at] = point;
            tryAll(point + 1, high, at + 1, points, sum, found);
        }
    }

    private static void duePlaces(String text, FourCars x, int... row) {
        int k = row.length - 1;
        due("places(" + k + ", 0) " + text, x.places(k, 0), row[0]);
        for (int i = 0; i < k; i++) {
            due("places(" + k + ", " + (10 + i) + ") " + text, x.places(k, 10 + i), row[1 + i]);
        }
    }

    private static void dueZones(String text, FourCars x, int... row) {
        int k = row.length - 1;
        due("zones(" + k + ", 0) " + text, x.zones(k, 0), row[0]);
        for (int i = 0; i < k; i++) {
            due("zones(" + k + ", " + (10 + i) + ") " + text, x.zones(k, 10 + i), row[1 + i]);
        }
    }

    private static FourCars weighed(String towerText, int... weights) {
        FourCars x = tower(towerText);
        for (int f = 0; f < weights.length; f++) {
            due("set(3, " + f + ", " + weights[f] + ")", x.set(3, f, weights[f]), true);
        }
        return x;
    }

    private static int[] manyWeights(int kind) {
        int[] weights = new int[80];
        for (int f = 0; f < 80; f++) {
            weights[f] = kind == 0 ? 99 : kind == 1 ? f * 37 % 100 : f % 20 == 7 ? 99 : 0;
        }
        return weights;
    }

    private static void placesAsked() {
        sentence("WAITING PLACES for k (not more than FLOORS) what 0 the sum, 10 + i the i-th FLOOR. NONE if one can't be, or another what.");
        for (int k : new int[] {MIN, -1, 0, 5, 6, MAX}) {
            refusedAll("places(" + k + ", 0)", x -> x.places(k, 0), NONE);
            refusedAll("places(" + k + ", 10)", x -> x.places(k, 10), NONE);
        }
        for (int what : new int[] {MIN, -1, 1, 9, 12, 13, 14, MAX}) {
            refusedAll("places(2, " + what + ")", x -> x.places(2, what), NONE);
        }
        due("places(4, 13)", busy().places(4, 13) >= 0, true);
        due("places(4, 14)", busy().places(4, 14), NONE);
        due("places(1, 11)", busy().places(1, 11), NONE);
        asksAlone("places(4, 0)", x -> x.places(4, 0));
        for (int floors = 2; floors <= 5; floors++) {
            FourCars x = tower("floors " + floors + ";");
            for (int k = 1; k <= 5; k++) {
                due("places(" + k + ", 0) of " + floors, x.places(k, 0) != NONE, k <= floors && k <= 4);
                due("places(" + k + ", 9 + k) of " + floors, x.places(k, 9 + k) != NONE, k <= floors && k <= 4);
            }
        }
        duePlaces("of two", tower("floors 2;"), 0, 0, 1);
        duePlaces("of three", tower("floors 3;"), 0, 0, 1, 2);
        duePlaces("of four", tower("floors 4;"), 0, 0, 1, 2, 3);
        due("without a TOWER", new FourCars().places(1, 0), NONE);
    }

    private static void leastPlaces() {
        sentence("by WEIGHTS 0 .. 99 of FLOORS (1 at first) the k (1 .. 4) FLOORS for which WEIGHTS times FLOORS to the nearest of them, added, are least; of several the first (lesser FLOORS first).");
        duePlaces("of two", tower("floors 2;"), 1, 0);
        duePlaces("of four", tower("floors 4;"), 4, 1);
        duePlaces("all 0", weighed("floors 5;", 0, 0, 0, 0, 0), 0, 0);
        duePlaces("all 0", weighed("floors 5;", 0, 0, 0, 0, 0), 0, 0, 1, 2, 3);
        duePlaces("the highest alone", weighed("floors 5;", 0, 0, 0, 0, 99), 0, 4);
        duePlaces("the highest alone", weighed("floors 5;", 0, 0, 0, 0, 99), 0, 0, 4);
        duePlaces("the lowest alone", weighed("floors 5;", 99, 0, 0, 0, 0), 0, 0, 1, 2);
        duePlaces("both ends", weighed("floors 5;", 99, 0, 0, 0, 99), 99 * 4, 0);
        duePlaces("both ends", weighed("floors 5;", 98, 0, 0, 0, 99), 98 * 4, 4);
        duePlaces("alike to both", weighed("floors 5;", 5, 0, 1, 0, 5), 2, 0, 4);
        for (int kind = 0; kind < 3; kind++) {
            int[] weights = manyWeights(kind);
            FourCars x = weighed("floors 80;", weights);
            for (int k = 1; k <= (kind == 1 ? 4 : 3); k++) {
                duePlaces("of eighty", x, least(0, 79, k, points -> farAdded(weights, points)));
            }
        }
    }

    private static int farAdded(int[] weights, int[] points) {
        int added = 0;
        for (int f = 0; f < weights.length; f++) {
            int near = weights.length;
            for (int point : points) {
                near = Math.min(near, Math.abs(point - f));
            }
            added += near * weights[f];
        }
        return added;
    }

    private static void zonesAsked() {
        sentence("ZONES for k CUTS (k and 2 FLOORS at least) what 0 the sum, 10 + i the i-th CUT. NONE if one can't be (no CAR), or another what.");
        for (int k : new int[] {MIN, -1, 0, 4, 5, MAX}) {
            refusedAll("zones(" + k + ", 0)", x -> x.zones(k, 0), NONE);
            refusedAll("zones(" + k + ", 10)", x -> x.zones(k, 10), NONE);
        }
        for (int what : new int[] {MIN, -1, 1, 9, 12, 13, MAX}) {
            refusedAll("zones(2, " + what + ")", x -> x.zones(2, what), NONE);
        }
        due("zones(3, 12)", busy().zones(3, 12) >= 0, true);
        due("zones(3, 13)", busy().zones(3, 13), NONE);
        due("zones(1, 11)", busy().zones(1, 11), NONE);
        asksAlone("zones(3, 0)", x -> x.zones(3, 0));
        for (int floors = 2; floors <= 7; floors++) {
            FourCars x = tower("floors " + floors + ";car 1 1 1 0 0;");
            FourCars y = tower("floors " + floors + ";");
            for (int k = 1; k <= 4; k++) {
                due("zones(" + k + ", 0) of " + floors, x.zones(k, 0) != NONE, floors >= k + 2 && k <= 3);
                due("zones(" + k + ", 9 + k) of " + floors, x.zones(k, 9 + k) != NONE, floors >= k + 2 && k <= 3);
                due("zones(" + k + ", 0) without a CAR", y.zones(k, 0), NONE);
            }
        }
        due("without a TOWER", new FourCars().zones(1, 0), NONE);
    }

    private static void leastZones() {
        sentence("a zone from a to b has a ROUND of 2 b SPEED and (b less a and 1) DOOR (of CAR 0); a zone's WEIGHTS times its ROUND, added, are least");
        dueZones("of three", tower("floors 3;car 1 2 3 0 0;car 1 9 9 0 0;"), 4 + 3 + 8 + 3, 2);
        dueZones("of four", tower("floors 4;car 1 2 3 0 0;"), 7 + 11 + 15, 2, 3);
        dueZones("of five", tower("floors 5;car 1 2 3 0 0;"), 7 + 11 + 15 + 19, 2, 3, 4);
        sentence("unlike CUTS 2 .. FLOORS less 1");
        dueZones("the lowest CUT", weighed("floors 5;car 1 2 3 0 0;", 0, 99, 0, 0, 0), 99 * 7, 2);
        dueZones("the highest CUT", weighed("floors 5;car 1 1 9 0 0;", 0, 1, 1, 99, 99), 101 * 33 + 99 * 17, 4);
        sentence("of several the first (a CUT c: FLOORS below c are in the lower one; FLOOR 0 is in no zone; lesser CUTS first).");
        dueZones("all 0", weighed("floors 9;car 1 1 1 0 0;", new int[9]), 0, 2, 3, 4);
        dueZones("FLOOR 0 alone", weighed("floors 9;car 1 1 1 0 0;", 99, 0, 0, 0, 0, 0, 0, 0, 0), 0, 2);
        dueZones("FLOOR 2 alone", weighed("floors 5;car 1 1 1 0 0;", 0, 0, 9, 0, 0), 9 * 6, 3);
        dueZones("FLOOR 2 between", weighed("floors 5;car 1 1 1 0 0;", 0, 0, 9, 0, 0), 9 * 5, 2, 3);
        for (int kind = 0; kind < 3; kind++) {
            int[] weights = manyWeights(kind);
            FourCars x = weighed("floors 80;car 1 9 9 9 0;car 1 1 1 0 0;", weights);
            for (int k = 1; k <= 3; k++) {
                dueZones("of eighty", x, least(2, 79, k, cuts -> roundsAdded(weights, cuts)));
            }
        }
    }

    private static int roundsAdded(int[] weights, int[] cuts) {
        int added = 0;
        for (int zone = 0; zone <= cuts.length; zone++) {
            int a = zone == 0 ? 1 : cuts[zone - 1];
            int b = zone == cuts.length ? weights.length - 1 : cuts[zone] - 1;
            for (int f = a; f <= b; f++) {
                added += weights[f] * (2 * b * 9 + (b - a + 1) * 9);
            }
        }
        return added;
    }

    // promise 20

    private static void noImage() {
        sentence("THE IMAGE is taken (true), or gone back to (false): true; false if there is none.");
        refusedAll("image(false) of none", x -> x.image(false) ? 1 : 0, 0);
        refusedAll("image(true)", x -> x.image(true) ? 1 : 0, 1);
        FourCars x = new FourCars();
        due("none", x.image(false), false);
        due("taken of no TOWER", x.image(true), true);
        tell(x, 3, "floors 4;car 1 1 1 0 0;");
        tell(x, 1, "never;");
        x.set(0, 0, 1);
        x.one(0, 0, 1);
        x.seconds(9);
        due("gone back", x.image(false), true);
        due("the state of a new one", state(x), state(new FourCars()));
        due("gone back again", x.image(false), true);
        due("the state of a new one again", state(x), state(new FourCars()));
    }

    private static void change(FourCars x, int kind) {
        switch (kind) {
            case 0 -> tell(x, 0, "never;cost 5;never;");
            case 1 -> tell(x, 3, "floors 9;car 12 9 9 9 8;skip 0 0;");
            case 2 -> tell(x, 3, "");
            case 3 -> x.one(8, 0, 1);
            case 4 -> x.set(0, 0, 0);
            case 5 -> x.set(1, 0, 1);
            case 6 -> x.set(2, 0, 4);
            case 7 -> x.set(3, 5, 99);
            case 8 -> x.seconds(1);
            case 9 -> x.seconds(600);
            default -> tell(x, 2, "");
        }
    }

    private static void asItWasTaken() {
        sentence("as it was when it was taken; gone back to it may be more than once.");
        String due = state(busy());
        FourCars later = busy();
        later.seconds(60);
        String dueLater = state(later);
        for (int kind = 0; kind <= 10; kind++) {
            FourCars x = busy();
            x.image(true);
            change(x, kind);
            due("change " + kind, state(x).equals(due), false);
            for (int back = 0; back < 2; back++) {
                due("gone back behind change " + kind, x.image(false), true);
                due("the state behind change " + kind, state(x), due);
                change(x, kind);
            }
        }
        FourCars x = busy();
        x.image(true);
        change(x, 1);
        x.image(false);
        x.seconds(60);
        due("all goes on from it", state(x), dueLater);
        due("a later one is taken", x.image(true), true);
        change(x, 2);
        x.image(false);
        due("back to the later one", state(x), dueLater);
    }

    private static void butTheTape() {
        sentence("all that is and was told but the TAPE and fault()");
        FourCars x = busy();
        tell(x, 0, "never;?");
        put(x, "never;never;");
        x.image(true);
        due("the TAPE when it was taken", x.end(12), true);
        x.end(6);
        x.image(false);
        due("the TAPE was cut", x.end(7), false);
        due("it has six bytes", x.end(6), true);
        due("fault() of the latest text", x.fault(1), 6);
        due("text", x.text(0), 1);
        due("no FAULT", x.fault(0), 0);
        x.image(false);
        due("the TAPE was read", x.end(1), false);
        due("still no FAULT", x.fault(0), 0);
        tell(x, 3, "floors 81;");
        put(x, "cost 4;cost 5;");
        x.image(false);
        due("the later FAULT", x.fault(0), 2);
        due("its place", x.fault(1), 7);
        due("the TAPE fed since", x.text(0), 2);
    }

    // promise 21

    private static void whatToLookAt() {
        sentence("10 + k lines of TEXT k, 100 + f WEIGHT of FLOOR f. NONE for another what.");
        FourCars x = busy();
        int[] row = {6, 2, 4, 8, 2, 1, 1, NONE, NONE, NONE, 1, 2, 1, 4, NONE, NONE};
        for (int what = 0; what < row.length; what++) {
            due("look(" + what + ")", x.look(what), row[what]);
        }
        int[] weights = {1, 1, 1, 1, 7, 1, NONE, NONE};
        for (int f = 0; f < weights.length; f++) {
            due("look(" + (100 + f) + ")", x.look(100 + f), weights[f]);
        }
        for (int what : new int[] {MIN, MIN + 99, MIN + 100, -1, -100, 99, 180, MAX}) {
            due("look(" + what + ")", x.look(what), NONE);
        }
        FourCars y = tower("floors 80;");
        due("look(179)", y.look(179), 1);
        due("look(180)", y.look(180), NONE);
        due("look(100) without a TOWER", new FourCars().look(100), NONE);
        FourCars z = crowd(12, 1);
        due("nobody WAITS", z.look(5), 0);
        due("nobody RIDES", z.look(6), 0);
        z.one(0, 0, 3);
        z.seconds(1);
        due("one WAITS", z.look(5), 1);
        due("twelve RIDE", z.look(6), 12);
        z.seconds(600);
        due("nobody WAITS any more", z.look(5), 0);
        due("nobody RIDES any more", z.look(6), 0);
        due("PEOPLE stay", z.look(2), 13);
    }

    public static void main(String[] args) {
        whatCanBeThought();
        nobodyToThinkOf();
        threeThousand();
        betterOfTwo();
        howManyForBest();
        whichGiving();
        unlikeCars();
        whatOfBest();
        howManyMornings();
        numbersOfMornings();
        firstWorseMorning();
        asTold();
        thousand();
        whoHasFun();
        funAsATarget();
        noFunStays();
        funWithoutAnEnd();
        placesAsked();
        leastPlaces();
        zonesAsked();
        leastZones();
        noImage();
        asItWasTaken();
        butTheTape();
        whatToLookAt();
        close();
    }
}
