/** The boundary cases of promises 1 to 5 and of the Terms' first part, sentence by sentence. */
public final class BoundsOfTextsTest extends Asking {
    private static void feed(FourCars x, int times) {
        for (int i = 0; i < times; i++) {
            x.feed(0x6e657665, 0x723b2020, 0x20202020, 0x20202020, 0x20202020);
        }
    }

    // promise 1

    private static void noTower() {
        sentence("`FourCars()`: No tower.");
        FourCars x = new FourCars();
        due("FLOORS", x.look(0), 0);
        due("no CAR 0", x.car(0, 0), NO_SUCH);
        due("no FLOOR 0", x.look(100), NONE);
        due("nobody can come", x.one(0, 0, 1), NONE);
        due("no CAR to be OUT", x.set(1, 0, 1), false);
        due("no CAR for a HOME", x.set(2, 0, NONE), false);
        due("no FLOOR for a WEIGHT", x.set(3, 0, 1), false);
        due("no WAITING PLACE", x.places(1, 0), NONE);
        due("no ZONES", x.zones(1, 0), NONE);
        due("no MORNING", x.mornings(0, 0, 1, 1), NONE);
        due("nobody to give", x.best(0), NONE);
        due("nobody for FUN", x.fun(0, 0), NO_FUN);
        due("no COST", x.cost(0, 0, 0), NO_COST);
        due("no PERSON", x.person(0, 0), NO_SUCH);
        due("SECONDS go by", x.seconds(600), 0);
        due("NOW", x.look(3), 600);
    }

    private static void emptyAtFirst() {
        sentence("A TOWER is TEXT 3 (empty at first: no floors, no cars)");
        FourCars x = new FourCars();
        due("lines", x.look(13), 0);
        due("FLOORS", x.look(0), 0);
        due("CARS", x.look(1), 0);
        sentence("RULES 0 .. 2 are TEXTS (empty at first)");
        for (int k = 0; k < 3; k++) {
            due("lines of RULE " + k, x.look(10 + k), 0);
        }
        tell(x, 3, "floors 4;car 1 1 1 0 3;");
        x.one(0, 0, 1);
        x.seconds(1);
        for (int k = 0; k < 3; k++) {
            due("COST by RULE " + k, x.cost(0, 0, k), 0);
        }
        sentence("NOW is 0 at first.");
        due("NOW", new FourCars().look(3), 0);
        sentence("by THE RULE IN FORCE (0 at first)");
        due("THE RULE IN FORCE", new FourCars().look(4), 0);
    }

    // promise 2

    private static void highestFirst() {
        sentence("Twenty bytes come behind the TAPE, of each number the highest first: how many it has.");
        FourCars x = new FourCars();
        due("feed", x.feed(0x6e657665, 0x723b636f, 0x73742031, 0x323b2020, 0x200a3b20), 20);
        due("text(0)", x.text(0), NONE);
        due("the 19th byte", x.fault(1), 18);
        due("feed of an empty TAPE", x.feed(0x6e657665, 0x723b636f, 0x73742031, 0x323b2020, 0x200a2020), 20);
        due("feed behind twenty", x.feed(0x6e657665, 0x723b2020, 0x20202020, 0x20202020, 0x2020203b), 40);
        due("end(39)", x.end(39), true);
        due("feed behind 39", x.feed(0x20202020, 0x20202020, 0x20202020, 0x20202020, 0x20202020), 59);
        due("three lines", x.text(0), 3);
        for (int i = 0; i < 20; i++) {
            int[] n = {0x20202020, 0x20202020, 0x20202020, 0x20202020, 0x20202020};
            n[i / 4] = n[i / 4] & ~(255 << 24 - i % 4 * 8) | 255 << 24 - i % 4 * 8;
            x.feed(n[0], n[1], n[2], n[3], n[4]);
            x.text(0);
            due("the place of byte 255 as number " + i, x.fault(1), i);
        }
    }

    private static void fullTape() {
        sentence("NONE, and nothing comes, if there would be more than 400.");
        FourCars x = new FourCars();
        for (int i = 1; i <= 20; i++) {
            due("feed " + i, x.feed(0x6e657665, 0x723b2020, 0x20202020, 0x20202020, 0x20202020), 20 * i);
        }
        due("one too many", x.feed(0x3b3b3b3b, 0x3b3b3b3b, 0x3b3b3b3b, 0x3b3b3b3b, 0x3b3b3b3b), NONE);
        due("and again", x.feed(0, 0, 0, 0, 0), NONE);
        due("not 401", x.end(401), false);
        due("400", x.end(400), true);
        due("its first bytes stay", x.end(306), true);
        due("sixteen lines", x.text(0), 16);
        feed(x, 20);
        x.end(381);
        due("381 and twenty", x.feed(0x3b3b3b3b, 0x3b3b3b3b, 0x3b3b3b3b, 0x3b3b3b3b, 0x3b3b3b3b), NONE);
        due("not 382", x.end(382), false);
        due("381 still", x.end(381), true);
        due("380", x.end(380), true);
        due("380 and twenty", x.feed(0x20202020, 0x20202020, 0x20202020, 0x20202020, 0x20202020), 400);
        due("it came", x.end(400), true);
        FourCars y = busy();
        feed(y, 20);
        String before = state(y);
        due("one too many for a busy one", y.feed(1, 2, 3, 4, 5), NONE);
        due("the state", state(y), before);
    }

    private static void wholeTapeIsRead() {
        sentence("if there would be more than 400.");
        FourCars x = tower("floors 4;car 1 1 1 0 3;");
        due("a RULE of 400 bytes", tell(x, 1, "cost 1" + times(196, "+1") + " ;"), 1);
        x.one(0, 0, 1);
        x.seconds(1);
        due("all of it counts", x.cost(0, 0, 1), 197);
        faulty(1, "cost 1" + times(197, "+1"), 1, 400);
        faulty(1, "cost 1" + times(196, "+1") + "+;", 1, 399);
        fine(3, "floors 4;" + times(391, " "), 1);
        fine(0, times(399, " ") + "\n", 0);
        faulty(0, times(399, " ") + "1", 1, 399);
        faulty(0, times(396, " ") + "cost", 1, 400);
        faulty(0, times(400, ";"), 1, 0);
        faulty(3, times(400, "5"), 1, 0);
        faulty(0, times(391, " ") + "cost 1234", 1, 400);
    }

    // promise 3

    private static void firstBytesAlone() {
        sentence("The TAPE has its first n bytes alone: true;");
        FourCars x = new FourCars();
        put(x, "never;never;");
        due("all of them", x.end(12), true);
        due("nothing is cut", x.text(0), 2);
        put(x, "never;never;");
        due("half", x.end(6), true);
        due("the others are gone", x.end(7), false);
        due("feed comes behind the half", x.feed(0x6e657665, 0x723b2020, 0x20202020, 0x20202020, 0x20202020), 26);
        due("the half and what came", x.text(0), 2);
        put(x, "never;");
        due("end(5)", x.end(5), true);
        x.text(0);
        due("the first five", x.fault(1), 5);
        put(x, "cost far;");
        due("end(7)", x.end(7), true);
        x.text(0);
        due("a KEYWORD that was cut", x.fault(1), 5);
        put(x, "cost 12345;");
        due("end(9)", x.end(9), true);
        x.text(0);
        due("a NUMBER that was cut", x.fault(1), 9);
        put(x, "never;");
        due("none of them", x.end(0), true);
        due("feed behind none", x.feed(0, 0, 0, 0, 0), 20);
        due("end(0) again", x.end(0), true);
        due("end(0) of nothing", x.end(0), true);
        due("no lines", x.text(0), 0);
        feed(x, 20);
        due("end(400) of 400", x.end(400), true);
    }

    private static void notSoMany() {
        sentence("false, changing nothing, if it has not so many, or n is below 0.");
        FourCars x = new FourCars();
        due("end(1) of nothing", x.end(1), false);
        put(x, "never;never;");
        due("one too many", x.end(13), false);
        due("eight too many", x.end(20), false);
        due("end(-1)", x.end(-1), false);
        due("end(MIN)", x.end(MIN), false);
        due("end(MAX)", x.end(MAX), false);
        due("all is there", x.end(12), true);
        due("its lines", x.text(0), 2);
        due("behind text", x.end(1), false);
        feed(x, 20);
        due("end(401) of 400", x.end(401), false);
        refused(Asking::busy, "end(19) of 18", f -> f.end(19) ? 1 : 0, 0);
        refused(Asking::busy, "end(-1)", f -> f.end(-1) ? 1 : 0, 0);
    }

    // promise 4

    private static void whichText() {
        sentence("The TAPE, empty then, is RULE k (0 .. 2), or the TOWER");
        FourCars x = new FourCars();
        for (int k = 0; k <= 3; k++) {
            due("text(" + k + ")", tell(x, k, k == 3 ? "floors 3;" : times(k + 1, "never;")), k == 3 ? 1 : k + 1);
            due("the TAPE is empty", x.end(1), false);
            due("feed behind it", x.feed(0, 0, 0, 0, 0), 20);
            x.end(0);
        }
        due("FLOORS", x.look(0), 3);
        for (int k = 0; k < 3; k++) {
            due("lines of RULE " + k, x.look(10 + k), k + 1);
        }
        due("a shorter one", tell(x, 2, "cost 5;"), 1);
        due("in its place", x.look(12), 1);
        due("none in its place", x.text(2), 0);
        due("no lines", x.look(12), 0);
        due("the others stay", x.look(11), 2);
        tell(x, 0, "never");
        due("the TAPE is empty behind a FAULT", x.end(1), false);
    }

    private static void towerAnew() {
        sentence("(3: PEOPLE, HOMES, WEIGHTS go, NOW is 0)");
        FourCars x = busy();
        due("the same TOWER", tell(x, 3, "floors 6;car 2 2 1 1 0;car 1 1 2 0 5;skip 0 5;"), 4);
        due("PEOPLE", x.look(2), 0);
        due("no one", x.person(0, 3), NO_SUCH);
        due("nobody WAITS", x.look(5), 0);
        due("nobody RIDES", x.look(6), 0);
        due("NOW", x.look(3), 0);
        due("HOME", x.car(1, 7), NONE);
        due("WEIGHT", x.look(104), 1);
        due("SUMS", x.sums(0) + x.sums(1) + x.sums(2) + x.sums(3), 0);
        due("the CAR is IDLE", x.car(0, 2), 0);
        due("its FLOOR", x.car(0, 0), 0);
        due("its WAY", x.car(0, 1), 0);
        due("nobody in it", x.car(0, 4), 0);
        due("none given to it", x.car(0, 5), 0);
        due("the first one anew", x.one(0, 0, 1), 0);
        due("no TOWER", x.text(3), 0);
        due("FLOORS go", x.look(0), 0);
        due("CARS go", x.look(1), 0);
        due("the latest one goes", x.look(2), 0);
        due("RULES stay", x.look(11), 2);
        due("a TOWER without skip", tell(x, 3, "floors 6;car 2 2 1 1 0;"), 2);
        due("it serves what another one left out", x.car(0, 105), 1);
        tell(x, 3, "floors 80;" + times(4, "car 1 1 1 0 0;") + "skip 0 0;skip 3 79;");
        tell(x, 3, "floors 80;" + times(4, "car 1 1 1 0 0;"));
        due("the first FLOOR of the first CAR", x.car(0, 100), 1);
        due("the last FLOOR of the last CAR", x.car(3, 179), 1);
    }

    /** A TOWER told to an object that has done much is as one told to a new one. */
    private static void nothingOfTheOldTower() {
        sentence("(3: PEOPLE, HOMES, WEIGHTS go, NOW is 0)");
        for (int kind = 0; kind < 4; kind++) {
            FourCars x = tower("floors 9;" + times(4, "car 2 1 1 1 8;"));
            tell(x, 0, kind < 2 ? "never when waits<40;" : "never when given>2;cost given;");
            for (int p = 0; p < 9; p++) {
                x.one(p == 8 ? 500 : p, 7 - p % 3, p % 3);
                x.set(2, p % 4, p);
                x.set(3, p, 9 * p);
            }
            x.thought(kind, 1);
            x.seconds(kind == 1 ? 600 : 12);
            x.set(1, kind, 1);
            x.thought(0, 1);
            FourCars y = new FourCars();
            tell(y, 0, kind < 2 ? "never when waits<40;" : "never when given>2;cost given;");
            goOnAnew(x, y);
        }
    }

    private static void goOnAnew(FourCars x, FourCars y) {
        String text = "floors 6;car 2 2 1 1 0;car 1 1 2 0 5;skip 0 5;";
        due("a TOWER anew", tell(x, 3, text), tell(y, 3, text));
        due("the state", state(x), state(y));
        for (int p = 0; p < 4; p++) {
            due("one of PEOPLE", x.one(9 * p, p, 4 - p / 2), y.one(9 * p, p, 4 - p / 2));
            due("best(0)", x.best(0), y.best(0));
            due("thought(0, 1)", x.thought(0, 1), y.thought(0, 1));
            due("SECONDS", x.seconds(5), y.seconds(5));
            due("OUT", x.set(1, 0, 1), y.set(1, 0, 1));
            due("right", x.set(1, 0, 0), y.set(1, 0, 0));
            due("best(0), taken back", x.best(0), y.best(0));
            due("fun", x.fun(p, 5), y.fun(p, 5));
            due("places(2, 0)", x.places(2, 0), y.places(2, 0));
        }
        due("the state then", state(x), state(y));
        due("in the end", x.seconds(300), y.seconds(300));
    }

    private static void noSuchText() {
        sentence("NONE: no such one (fault() tells 0), or a FAULT (all stays as it was).");
        for (int k : new int[] {MIN, -1, 4, 5, MAX}) {
            FourCars x = busy();
            tell(x, 1, "never; never");
            String before = state(x);
            due("text(" + k + ")", tell(x, k, "never;"), NONE);
            due("fault(0)", x.fault(0), 0);
            due("fault(1)", x.fault(1), NONE);
            due("the state", state(x), before);
        }
    }

    private static void faultChangesNothing() {
        sentence("or a FAULT (all stays as it was).");
        String[] rules = {"never;cost", "cost 1/0;", times(16, "never;") + "never;", "cost 1 when " + times(9, "("), "?"};
        for (String text : rules) {
            for (int k = 0; k < 3; k++) {
                faultChangesNothing(k, text);
            }
        }
        String[] towers = {"floors", "car 1 1 1 1 1;", "floors 81;", "floors 9;car 9 9 9 9 9;", "floors 2;floors 3;",
            "floors 80;car 9 9 9 9 9;skip 0 0;skip 0 80;", "floors 9;" + times(5, "car 1 1 1 1 1;"), "floors 3;car 1 1 1 1 1"};
        for (String text : towers) {
            faultChangesNothing(3, text);
        }
    }

    private static void faultChangesNothing(int k, String text) {
        FourCars x = busy();
        String before = state(x);
        due("text(" + k + ") of " + text, tell(x, k, text), NONE);
        due("the state behind " + text, state(x), before);
        due("who is THERE in the end", x.seconds(60), 3);
    }

    private static void howManyLines() {
        sentence("how many lines.");
        fine(0, "", 0);
        fine(3, "", 0);
        fine(1, " ", 0);
        fine(3, "\n", 0);
        fine(2, "never;", 1);
        fine(2, times(16, "never;"), 16);
        fine(3, "floors 2;", 1);
        fine(3, "floors 2;car 1 1 1 0 0;" + times(38, "skip 0 1;"), 40);
    }

    // the Terms' first part: the TOWER

    private static void floorsToldOnce() {
        sentence("FLOORS 2 .. 80 (told once, ahead of all cars), 0 lowest.");
        faulty(3, "floors 0;", 2, 7);
        faulty(3, "floors 1;", 2, 7);
        fine(3, "floors 2;", 1);
        fine(3, "floors 0002;", 1);
        fine(3, "floors 80;", 1);
        faulty(3, "floors 81;", 2, 7);
        faulty(3, "floors 9999;", 2, 7);
        FourCars x = tower("floors 2;");
        due("FLOORS", x.look(0), 2);
        due("FLOOR 1", x.look(101), 1);
        due("no FLOOR 2", x.look(102), NONE);
        tell(x, 3, "floors 80;");
        due("FLOORS", x.look(0), 80);
        due("FLOOR 0", x.look(100), 1);
        due("FLOOR 79", x.look(179), 1);
        due("no FLOOR 80", x.look(180), NONE);
        due("from the lowest to the highest", x.one(0, 0, 79), 0);
        due("from the highest to the lowest", x.one(0, 79, 0), 1);
    }

    private static void fourCars() {
        sentence("CARS 0 .. 3 as they come");
        due("no CAR", tower("floors 5;").look(1), 0);
        FourCars x = tower("floors 5;car 1 1 1 0 0;car 2 1 1 0 0;skip 1 1;car 3 1 1 0 0;car 4 1 1 0 0;skip 3 4;");
        due("CARS", x.look(1), 4);
        for (int c = 0; c < 4; c++) {
            due("ROOM of " + c, x.car(c, 8), c + 1);
        }
        due("no CAR 4", x.car(4, 8), NO_SUCH);
        due("CAR 3 leaves FLOOR 4 out", x.car(3, 104), 0);
        due("the others do not", x.car(0, 104) + x.car(1, 104) + x.car(2, 104), 3);
    }

    /** A car line whose number at this place is told: the text, the number's own place and what the car answers. */
    private static void carNumber(int at, int low, int high) {
        int[] fine = {1, 1, 1, 1, 1};
        for (int n : new int[] {low - 1, low, high, high + 1, 9999}) {
            if (n < 0) {
                continue;
            }
            fine[at] = n;
            StringBuilder s = new StringBuilder("floors 20;car");
            int place = 0;
            for (int i = 0; i < 5; i++) {
                place = i == at ? s.length() + 1 : place;
                s.append(' ').append(fine[i]);
            }
            s.append(';');
            if (n < low || n > high) {
                faulty(3, s.toString(), 2, place);
            } else {
                due("the car of " + s, tower(s.toString()).car(0, at == 4 ? 0 : 8 + at), n);
            }
        }
    }

    private static void carNumbers() {
        sentence("ROOM 1 .. 12");
        carNumber(0, 1, 12);
        sentence("SPEED 1 .. 9 (seconds for a floor)");
        carNumber(1, 1, 9);
        sentence("DOOR 1 .. 9 (seconds for a stop)");
        carNumber(2, 1, 9);
        sentence("LOAD 0 .. 9 (seconds for each who goes out or in)");
        carNumber(3, 0, 9);
        sentence("the FLOOR where it is.");
        carNumber(4, 0, 19);
        due("FLOOR 79", tower("floors 80;car 1 1 1 0 79;").car(0, 0), 79);
        faulty(3, "floors 80;car 1 1 1 0 80;", 2, 22);
        due("FLOOR 1 of two", tower("floors 2;car 1 1 1 0 1;").car(0, 0), 1);
        faulty(3, "floors 2;car 1 1 1 0 2;", 2, 21);
    }

    private static void skips() {
        sentence("skip: a CAR does not serve a FLOOR.");
        FourCars x = tower("floors 80;car 1 1 1 0 0;car 1 1 1 0 0;skip 0 0;skip 1 79;skip 1 79;skip 0 5;");
        due("lines", x.look(13), 7);
        for (int c = 0; c < 2; c++) {
            for (int f : new int[] {0, 1, 4, 5, 6, 78, 79}) {
                boolean isLeftOut = c == 0 ? f == 0 || f == 5 : f == 79;
                due("CAR " + c + " serves FLOOR " + f, x.car(c, 100 + f), isLeftOut ? 0 : 1);
            }
        }
        sentence("one beyond its bounds (a FLOOR, a CAR that is not there, too)");
        faulty(3, "floors 5;skip 0 0;", 2, 14);
        faulty(3, "floors 5;car 1 1 1 0 0;skip 1 0;", 2, 28);
        faulty(3, "floors 5;car 1 1 1 0 0;skip 1 0;car 1 1 1 0 0;", 2, 28);
        faulty(3, "floors 5;car 1 1 1 0 0;skip 0 5;", 2, 30);
        faulty(3, "floors 5;car 1 1 1 0 0;skip 1 5;", 2, 28);
        fine(3, "floors 5;car 1 1 1 0 0;skip 0 4;skip 0 0;", 4);
        fine(3, "floors 5;" + times(4, "car 1 1 1 0 0;") + "skip 3 4;", 6);
        faulty(3, "floors 5;" + times(4, "car 1 1 1 0 0;") + "skip 4 4;", 2, 70);
        faulty(3, "floors 80;car 1 1 1 0 0;skip 0 80;", 2, 31);
    }

    private static void shapeOfTheTower() {
        sentence("{(floors N | car N N N N N | skip N N) ;}");
        faulty(3, "floors;", 1, 6);
        faulty(3, "floors 5", 1, 8);
        faulty(3, "floors 5 5;", 1, 9);
        faulty(3, "floors 5;car;", 1, 12);
        faulty(3, "floors 5;car 1 1 1 1;", 1, 20);
        faulty(3, "floors 5;car 1 1 1 1 1 1;", 1, 23);
        faulty(3, "floors 5;car 1 1 1 1 1", 1, 22);
        faulty(3, "floors 5;car 1 1 1 1 1;skip;", 1, 27);
        faulty(3, "floors 5;car 1 1 1 1 1;skip 0;", 1, 29);
        faulty(3, "floors 5;car 1 1 1 1 1;skip 0 0 0;", 1, 32);
        faulty(3, "floors 5;car 1 1 1 1 1;skip 0 0", 1, 31);
        faulty(3, ";", 1, 0);
        faulty(3, "floors 5;;", 1, 9);
        faulty(3, "5;", 1, 0);
        faulty(3, "floors +5;", 1, 7);
        faulty(3, "floors 5;car 1 1 1 -1 1;", 1, 19);
        fine(3, "floors 5;car 1 1 1 1 1;skip 0 0;", 3);
    }

    // the Terms' first part: RULES

    private static void price(String rule, int want) {
        FourCars x = tower("floors 9;car 1 1 1 0 8;");
        x.one(0, 3, 5);
        x.seconds(1);
        due("text(2) of " + rule, tell(x, 2, rule) >= 0, true);
        due("COST by " + rule, x.cost(0, 0, 2), want);
    }

    private static void shapeOfARule() {
        sentence("{(cost E | never) [when B] ;}");
        faulty(0, "cost;", 1, 4);
        faulty(0, "cost when 1=1;", 1, 5);
        faulty(0, "never 1;", 1, 6);
        faulty(0, "never when;", 1, 10);
        faulty(0, "never when 1=1", 1, 14);
        faulty(0, "never", 1, 5);
        faulty(0, "never;;", 1, 6);
        faulty(0, "when 1=1;", 1, 0);
        faulty(0, "cost 1 never;", 1, 7);
        faulty(0, "never when 1=1 when 1=1;", 1, 15);
        fine(0, "never when 1=1;cost 1 when 1=1;cost 1;never;", 4);
        sentence("B = A {or A}. A = C {and C}.");
        faulty(0, "never when 1=1 or;", 1, 17);
        faulty(0, "never when 1=1 and;", 1, 18);
        faulty(0, "never when or 1=1;", 1, 11);
        faulty(0, "never when 1=1 or and 1=1;", 1, 18);
        price("cost 5 when 1=1 or 1=1 and 1=2;", 5);
        price("cost 5 when 1=2 and 1=1 or 1=1;", 5);
        price("cost 5 when 1=2 and 1=1 or 1=2;", 0);
        price("cost 5 when 1=1 and 1=1 and 1=2;", 0);
        price("cost 5 when 1=2 or 1=2 or 1=1;", 5);
        sentence("C = E (< | = | >) E | not C | ( B ).");
        faulty(0, "never when 1;", 1, 12);
        faulty(0, "never when 1<;", 1, 13);
        faulty(0, "never when <1;", 1, 11);
        faulty(0, "never when 1<=1;", 1, 13);
        faulty(0, "never when 1=1=1;", 1, 14);
        faulty(0, "never when ();", 1, 12);
        faulty(0, "never when (1);", 1, 13);
        faulty(0, "never when (1=1;", 1, 15);
        faulty(0, "never when 1=1);", 1, 14);
        faulty(0, "never when (1=1)=1;", 1, 16);
        faulty(0, "never when not;", 1, 14);
        faulty(0, "never when not 1;", 1, 16);
        price("cost 5 when not 1=1 or 1=1;", 5);
        price("cost 5 when not 1=2 and 1=2;", 0);
        price("cost 5 when not (1=2 and 1=2);", 5);
        price("cost 5 when not not 1=1;", 5);
        price("cost 5 when (1=1 or 1=1) and 1=2;", 0);
    }

    private static void comparisons() {
        sentence("E (< | = | >) E");
        for (int n = 2; n <= 4; n++) {
            price("cost 5 when floor<" + n + ";", n > 3 ? 5 : 0);
            price("cost 5 when floor=" + n + ";", n == 3 ? 5 : 0);
            price("cost 5 when floor>" + n + ";", n < 3 ? 5 : 0);
        }
        for (String test : new String[] {"floor<4", "floor=3", "floor>2"}) {
            price("cost 5 when " + test + " and floor=3;", 5);
            price("cost 5 when floor=3 and " + test + ";", 5);
            price("cost 5 when not " + test + ";", 0);
            price("cost 5 when not not " + test + ";", 5);
            price("cost 5 when " + test + " or floor=9;", 5);
            price("cost 5 when not (" + test + " and floor=9);", 5);
        }
        price("cost 5 when 256*256*256*128<0;", 5);
        price("cost 5 when 256*256*256*128>256*256*256*128-1;", 0);
        price("cost 5 when 256*256*256*128<256*256*256*128-1;", 5);
        price("cost 5 when 256*256*256*256=0;", 5);
    }

    private static void sumsAndProducts() {
        sentence("E = T {(+ | -) T}. T = U {* U | / NUMBER}.");
        faulty(0, "cost 1+;", 1, 7);
        faulty(0, "cost -1;", 1, 5);
        faulty(0, "cost +1;", 1, 5);
        faulty(0, "cost 1--1;", 1, 7);
        faulty(0, "cost 1*;", 1, 7);
        faulty(0, "cost *1;", 1, 5);
        faulty(0, "cost 1/;", 1, 7);
        faulty(0, "cost 1/far;", 1, 7);
        faulty(0, "cost 1 1;", 1, 7);
        faulty(0, "cost (1);", 1, 5);
        price("cost 9-3-2;", 4);
        price("cost 9-3*2;", 3);
        price("cost 2*3+4*5;", 26);
        price("cost 9/2*2;", 8);
        price("cost 9*2/4/2;", 2);
        price("cost 9-8/3;", 7);
        sentence("U = NUMBER | far | same | against | load | given | idle | up | floor | waits | car.");
        for (String word : new String[] {"cost", "never", "when", "or", "and", "not", "floors", "skip", "cars", "wait"}) {
            faulty(0, "cost " + word + ";", 1, 5);
        }
        // car 0 stands on FLOOR 8 when the call comes, and has gone a second towards FLOOR 3
        price("cost far+10*same+100*against+1000*load+1000*given;", 1105);
        price("cost idle+10*up+100*floor+1000*waits+5000*car;", 1310);
    }

    private static void words() {
        sentence("letters as many as stand together are KEYWORDS (those told for such a TEXT) or none");
        faulty(0, "cost farr;", 1, 5);
        faulty(0, "cost fa;", 1, 5);
        faulty(0, "cost fa r;", 1, 5);
        faulty(0, "cost farload;", 1, 5);
        faulty(0, "costfar;", 1, 0);
        for (char sign : new char[] {'a', 'z', 'A', 'Z'}) {
            faulty(0, "cost far" + sign + ";", 1, 5);
        }
        for (char sign : new char[] {'@', '[', '`', '{', '_', 233}) {
            faulty(0, "cost far" + sign + ";", 1, 8);
        }
        fine(0, "cost far*2when1=1or far=2;", 1);
        faulty(0, "Never;", 1, 0);
        faulty(0, "NEVER;", 1, 0);
        faulty(0, "z;", 1, 0);
        faulty(0, "floors 5;", 1, 0);
        faulty(0, "skip 0 0;", 1, 0);
        faulty(0, "cost floors;", 1, 5);
        faulty(3, "never;", 1, 0);
        faulty(3, "cost 5;", 1, 0);
        faulty(3, "floor 5;", 1, 0);
        faulty(3, "floors far;", 1, 7);
        faulty(3, "floors 5;cars 1 1 1 1 1;", 1, 9);
        faulty(3, "floors 5;up 1;", 1, 9);
    }

    private static void numbers() {
        sentence("digits as many as stand together NUMBERS of 1 to 4 digits or none");
        price("cost 0;", 0);
        price("cost 7;", 7);
        price("cost 0000;", 0);
        price("cost 0009;", 9);
        price("cost 9999;", 9999);
        faulty(0, "cost 10000;", 1, 5);
        faulty(0, "cost 00000;", 1, 5);
        faulty(0, "cost 00001;", 1, 5);
        faulty(0, "cost 123456789012;", 1, 5);
        faulty(0, "cost 1 2;", 1, 7);
        faulty(0, "cost 1/10000;", 1, 7);
        faulty(0, "cost 1far;", 1, 6);
        faulty(0, "cost far1;", 1, 8);
        fine(3, "floors 0080;car 0012 0009 0009 0009 0079;", 2);
        faulty(3, "floors 00080;", 1, 7);
        faulty(3, "floors 5;car 00001 1 1 1 1;", 1, 13);
    }

    private static void otherSigns() {
        sentence("; + - * / ( ) < = > . Blanks (32, 10) between.");
        fine(0, "\n never\nwhen  not\n\n(1\n= 1 ) ;\n", 1);
        fine(0, "cost 1+2-3*4/5 when(1<2)and not 1=2or 3>4;", 1);
        fine(3, "\nfloors\n5 ;\n\ncar 1\n1 1  1 1\n;", 2);
        for (int sign = 0; sign < 256; sign++) {
            boolean isLetter = sign >= 'a' && sign <= 'z' || sign >= 'A' && sign <= 'Z';
            if (sign == 32 || sign == 10) {
                fine(0, (char) sign + "never" + (char) sign + ";" + (char) sign, 1);
                fine(3, "floors" + (char) sign + "5;" + (char) sign, 1);
            } else if (sign != ';' && !isLetter) {
                faulty(0, "never" + (char) sign + ";", 1, 5);
                faulty(0, "never;" + (char) sign, 1, 6);
                faulty(3, "floors 5;" + (char) sign, 1, 9);
            }
        }
        faulty(0, "nev er;", 1, 0);
        faulty(0, "ne\nver;", 1, 0);
        fine(0, "cost 1\n+\n2;", 1);
    }

    private static void wrappingInts() {
        sentence("Ints, which wrap; / goes towards 0.");
        price("cost 256*256*256*128-1;", MAX);
        price("cost 256*256*256*128;", MIN);
        price("cost 256*256*256*128-1+1;", MIN);
        price("cost 0-256*256*256*128;", MIN);
        price("cost 256*256*256*256+7;", 7);
        price("cost 9999*9999*9999;", 9999 * 9999 * 9999);
        price("cost 256*256*256*128/3;", MIN / 3);
        price("cost 256*256*256*128/9999;", MIN / 9999);
        price("cost 256*256*256*128/1;", MIN);
        price("cost 7/8;", 0);
        price("cost 8/8;", 1);
        price("cost 15/8;", 1);
        price("cost 9999/9999;", 1);
        price("cost 9998/9999;", 0);
    }

    // the Terms' first part: FAULTS

    private static void cannotStand() {
        sentence("1 what can't stand there (the end: the text's length)");
        faulty(0, "cost", 1, 4);
        faulty(0, "cost  \n", 1, 7);
        faulty(0, "  cost 1 ", 1, 9);
        faulty(3, "floors 5; car 1 ", 1, 16);
        sentence("a car or skip ahead of floors, floors a second time (at its KEYWORD).");
        faulty(3, "car 1 1 1 1 1;floors 5;", 1, 0);
        faulty(3, " skip 0 0;floors 5;", 1, 1);
        faulty(3, "car 99;", 1, 0);
        faulty(3, "floors 5; floors 5;", 1, 10);
        faulty(3, "floors 5;car 1 1 1 1 1;floors 1;", 1, 23);
    }

    private static void atTheNumber() {
        sentence("2 (at the NUMBER) a part by 0");
        faulty(0, "cost 1/0;", 2, 7);
        faulty(0, "cost 1/ 0000;", 2, 8);
        faulty(0, "cost 4*far/2/0", 2, 13);
        faulty(0, "never when 1/0=1;", 2, 13);
        fine(0, "cost 0/1;", 1);
        fine(0, "cost 0/9999;", 1);
        sentence("one beyond its bounds");
        faulty(3, "floors  81", 2, 8);
        faulty(3, "floors 5;car 1 1 1 1 5", 2, 21);
        faulty(3, "floors 5;car 0 0 0 10 5;", 2, 13);
    }

    private static void tooMany() {
        sentence("3 (at its KEYWORD) the 17th line of a RULE, the 5th car, the 41st line of a TOWER");
        fine(0, times(16, "cost 1;"), 16);
        faulty(0, times(16, "cost 1;") + " cost 1;", 3, 113);
        faulty(0, times(16, "cost 1;") + "never", 3, 112);
        fine(0, times(16, "cost 1;") + " \n ", 16);
        String cars = "floors 5;" + times(4, "car 1 1 1 1 1;");
        fine(3, cars, 5);
        faulty(3, cars + "car 1 1 1 1 1;", 3, 65);
        faulty(3, cars + "skip 0 0;\ncar 0;", 3, 75);
        faulty(3, cars + "car", 3, 65);
        String lines = "floors 2;car 1 1 1 0 0;" + times(38, "skip 0 1;");
        fine(3, lines, 40);
        fine(3, lines + "\n ", 40);
        faulty(3, lines + "skip 0 1;", 3, 365);
        faulty(3, lines + " car 1 1 1 1 1;", 3, 366);
        faulty(3, lines + "skip", 3, 365);
        fine(3, "floors 2;" + times(4, "car 1 1 1 0 0;") + times(35, "skip 3 1;"), 40);
        faulty(3, "floors 2;" + times(4, "car 1 1 1 0 0;") + times(35, "skip 3 1;") + "skip", 3, 380);
        faulty(3, "floors 2;" + times(4, "car 1 1 1 0 0;") + times(35, "skip 3 1;") + "car", 3, 380);
    }

    private static void tooManyOpen() {
        sentence("(at it) the 9th ( or not that is open.");
        fine(0, "never when " + times(8, "(") + "1=1" + times(8, ")") + ";", 1);
        faulty(0, "never when " + times(9, "(") + "1=1" + times(9, ")") + ";", 3, 19);
        fine(0, "never when " + times(8, "not ") + "1=1;", 1);
        faulty(0, "never when " + times(9, "not ") + "1=1;", 3, 43);
        fine(0, "never when " + times(4, "not(") + "1=1" + times(4, ")") + ";", 1);
        faulty(0, "never when " + times(4, "not(") + "not 1=1" + times(4, ")") + ";", 3, 27);
        faulty(0, "never when " + times(4, "not(") + "(1=1)" + times(4, ")") + ";", 3, 27);
        faulty(0, "never when " + times(8, "(") + " (", 3, 20);
        faulty(0, "never when not 1=1 and " + times(8, "(") + "1=1 or not", 3, 38);
        fine(0, "never when " + times(12, "not 1=1 and ") + "(1=1) or " + times(9, "(1=2)or ") + "1=1;", 1);
        fine(0, "never when " + times(8, "(") + "1=1" + times(8, ")") + "and " + times(8, "not ") + "1=1;never when "
            + times(8, "(") + "1=1" + times(8, ")") + ";", 2);
        faulty(0, "never when " + times(8, "(") + "1=1" + times(7, ")") + ";", 1, 29);
        faulty(0, "never when " + times(8, "(") + "1=1" + times(9, ")") + ";", 1, 30);
        // each ( that is open keeps a half of an or and a half of an and
        String deep = "cost 5 when " + times(8, "1=2 or 1=1 and (") + "1=2 or 1=1 and 1+2*3=1+2*3" + times(8, ")") + ";";
        price(deep, 5);
        price("cost 5 when " + times(8, "not ") + "1=1;", 5);
        price("cost 5 when " + times(7, "not ") + "1=1;", 0);
    }

    private static void firstByItsPlace() {
        sentence("FAULTS, the first by its place, at one place the least");
        faulty(0, "cost 1/0 far;", 2, 7);
        faulty(0, "cost far far 1/0;", 1, 9);
        faulty(0, "cost 1/0;?", 2, 7);
        faulty(0, "?cost 1/0;", 1, 0);
        faulty(0, times(16, "never;") + "never when 1/0=1;", 3, 96);
        faulty(0, times(15, "never;") + "cost 1/0;never;", 2, 97);
        faulty(0, times(16, "never;") + "far;", 1, 96);
        faulty(0, times(16, "never;") + "12345", 1, 96);
        faulty(3, "floors 81;car 99;", 2, 7);
        faulty(3, "floors 5;car 1 1 1 1 5 5;", 2, 21);
        faulty(3, "floors 5;" + times(5, "car 1 1 1 1 5;"), 2, 21);
        String lines = "floors 2;car 1 1 1 0 0;" + times(38, "skip 0 1;");
        faulty(3, lines + "floors 2;", 1, 365);
        faulty(3, lines + "cost", 1, 365);
        faulty(3, lines + ";", 1, 365);
        faulty(3, lines + "2", 1, 365);
    }

    // promise 5

    private static void ofTheLatestText() {
        sentence("Of the latest text(): what 0 the FAULT (0 without one), 1 its place (NONE).");
        FourCars x = new FourCars();
        due("fault(0) ahead of all", x.fault(0), 0);
        due("fault(1) ahead of all", x.fault(1), NONE);
        tell(x, 0, "?");
        due("the FAULT at 0", x.fault(0), 1);
        due("its place 0", x.fault(1), 0);
        tell(x, 3, "floors 81;");
        due("the later FAULT", x.fault(0), 2);
        due("its place", x.fault(1), 7);
        put(x, "never;");
        x.image(true);
        x.image(false);
        x.seconds(1);
        due("still it", x.fault(0), 2);
        x.text(1);
        due("none any more", x.fault(0), 0);
        due("no place any more", x.fault(1), NONE);
        tell(x, 0, "never" + times(394, " "));
        due("a place at the end", x.fault(1), 399);
        sentence("NONE for another what.");
        for (int what : new int[] {MIN, -1, 2, 3, MAX}) {
            due("fault(" + what + ")", x.fault(what), NONE);
        }
    }

    public static void main(String[] args) {
        noTower();
        emptyAtFirst();
        highestFirst();
        fullTape();
        wholeTapeIsRead();
        firstBytesAlone();
        notSoMany();
        whichText();
        towerAnew();
        nothingOfTheOldTower();
        noSuchText();
        faultChangesNothing();
        howManyLines();
        floorsToldOnce();
        fourCars();
        carNumbers();
        skips();
        shapeOfTheTower();
        shapeOfARule();
        comparisons();
        sumsAndProducts();
        words();
        numbers();
        otherSigns();
        wrappingInts();
        cannotStand();
        atTheNumber();
        tooMany();
        tooManyOpen();
        firstByItsPlace();
        ofTheLatestText();
        close();
    }
}
