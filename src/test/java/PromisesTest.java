/** The promises 1 to 21 one by one: ordinary inputs, the edges that the document names, and wrong inputs. */
public final class PromisesTest extends Asking {
    private static void newObject() {
        FourCars x = new FourCars();
        due("NONE", FourCars.NONE, -1);
        for (int what = 0; what <= 6; what++) {
            due("look(" + what + ")", x.look(what), 0);
        }
        for (int what = 10; what <= 13; what++) {
            due("look(" + what + ")", x.look(what), 0);
        }
        due("look(100)", x.look(100), -1);
        due("fault(0)", x.fault(0), 0);
        due("fault(1)", x.fault(1), -1);
        due("end(0)", x.end(0), true);
        due("end(1)", x.end(1), false);
        due("car(0, 0)", x.car(0, 0), -2);
        due("person(0, 0)", x.person(0, 0), -2);
        due("one(0, 0, 1)", x.one(0, 0, 1), -1);
        due("set(0, 0, 2)", x.set(0, 0, 2), true);
        due("set(1, 0, 0)", x.set(1, 0, 0), false);
        due("set(2, 0, -1)", x.set(2, 0, -1), false);
        due("set(3, 0, 1)", x.set(3, 0, 1), false);
        due("thought(0, 0)", x.thought(0, 0), 0);
        due("better(2, 1)", x.better(2, 1), 1);
        due("best(0)", x.best(0), -1);
        due("mornings(0, 1, 1, 0)", x.mornings(0, 1, 1, 0), -1);
        due("mornings(0, 0, 1, 1)", x.mornings(0, 0, 1, 1), -1);
        due("fun(0, 0)", x.fun(0, 0), NO_FUN);
        due("places(1, 0)", x.places(1, 0), -1);
        due("zones(1, 0)", x.zones(1, 0), -1);
        due("image(false)", x.image(false), false);
        due("seconds(7)", x.seconds(7), 0);
        due("look(3)", x.look(3), 7);
    }

    private static void feeding() {
        FourCars x = new FourCars();
        // "cost", " 7;\n" and blanks: the highest byte of each number is the first
        due("feed", x.feed(0x636f7374, 0x20373b0a, 0x20202020, 0x20202020, 0x20202020), 20);
        due("text(0)", x.text(0), 1);
        for (int i = 1; i <= 20; i++) {
            due("feed " + i, x.feed(0x20202020, 0x20202020, 0x20202020, 0x20202020, 0x20202020), 20 * i);
        }
        due("feed 21", x.feed(0x3b3b3b3b, 0x3b3b3b3b, 0x3b3b3b3b, 0x3b3b3b3b, 0x3b3b3b3b), -1);
        due("end(401)", x.end(401), false);
        due("end(400)", x.end(400), true);
        due("text(1)", x.text(1), 0);
        for (int i = 1; i <= 20; i++) {
            x.feed(0x20202020, 0x20202020, 0x20202020, 0x20202020, 0x20202020);
        }
        due("end(381)", x.end(381), true);
        due("feed behind 381", x.feed(0, 0, 0, 0, 0), -1);
        due("end(380)", x.end(380), true);
        due("feed behind 380", x.feed(0, 0, 0, 0, 0xff), 400);
    }

    private static void ending() {
        FourCars x = new FourCars();
        put(x, "cost 1;cost 2;");
        due("end(15)", x.end(15), false);
        due("end(-1)", x.end(-1), false);
        due("end(MIN)", x.end(Integer.MIN_VALUE), false);
        due("end(MAX)", x.end(Integer.MAX_VALUE), false);
        due("end(14)", x.end(14), true);
        due("end(7)", x.end(7), true);
        due("end(8)", x.end(8), false);
        due("text(0)", x.text(0), 1);
        due("end(1)", x.end(1), false);
        put(x, "never;");
        due("end(0)", x.end(0), true);
        due("text(0) of nothing", x.text(0), 0);
    }

    private static void texts() {
        fine(0, "", 0);
        fine(2, " \n ", 0);
        fine(0, "never;cost far when up=1;", 2);
        fine(1, "cost far*same/2+against-load*given when idle<1 or up=1 and not floor>3 or (waits=1 and car=0);", 1);
        fine(0, "cost\n12when(1<2);", 1);
        fine(0, times(16, "never;"), 16);
        fine(0, "never when " + times(8, "(") + "1=1" + times(8, ")") + ";", 1);
        fine(0, "never when (not (not 1=1)) and " + times(8, "not ") + "1=1;", 1);
        fine(0, "cost 0001+9999;", 1);
        fine(3, "", 0);
        fine(3, "floors 2;", 1);
        fine(3, "floors 80;" + times(4, "car 12 9 9 9 79;") + "skip 3 79;skip 3 79;", 7);
        fine(3, "floors 2;car 1 1 1 0 0;" + times(38, "skip 0 1;"), 40);
        FourCars x = tower("floors 6;car 1 1 1 0 3;");
        tell(x, 1, "cost car;cost car;");
        x.one(5, 0, 1);
        x.set(0, 0, 1);
        x.set(2, 0, 2);
        x.set(3, 4, 9);
        x.seconds(1);
        due("a faulty tower", tell(x, 3, "floors 7;car 1;"), -1);
        due("a faulty rule", tell(x, 1, "cost"), -1);
        due("the tape behind a fault", x.end(1), false);
        due("FLOORS stay", x.look(0), 6);
        due("lines stay", x.look(11), 2);
        due("PEOPLE stay", x.look(2), 1);
        due("NOW stays", x.look(3), 1);
        due("HOME stays", x.car(0, 7), 2);
        due("WEIGHT stays", x.look(104), 9);
        put(x, "never;");
        due("text(4)", x.text(4), -1);
        due("text(-1)", x.text(-1), -1);
        due("FLOORS stay again", x.look(0), 6);
        due("a new tower", tell(x, 3, "floors 7;car 1 1 1 0 4;"), 2);
        due("the tape behind it", x.end(1), false);
        due("FLOORS", x.look(0), 7);
        due("PEOPLE go", x.look(2), 0);
        due("NOW is 0", x.look(3), 0);
        due("HOMES go", x.car(0, 7), -1);
        due("WEIGHTS go", x.look(104), 1);
        due("the CAR is where it was told", x.car(0, 0), 4);
        due("the RULE stays", x.look(11), 2);
        due("THE RULE IN FORCE stays", x.look(4), 1);
    }

    private static void faults() {
        faulty(0, "cost", 1, 4);
        faulty(0, "cost 5  ", 1, 8);
        faulty(0, "cost 5", 1, 6);
        faulty(0, ";", 1, 0);
        faulty(0, "never far;", 1, 6);
        faulty(0, "cost 12345;", 1, 5);
        faulty(0, "cost farr;", 1, 5);
        faulty(0, "cost Far;", 1, 5);
        faulty(0, "cost farX;", 1, 5);
        faulty(0, "cost far far;", 1, 9);
        faulty(0, "cost 1 & 2;", 1, 7);
        faulty(0, "cost 1\t;", 1, 6);
        faulty(0, "cost (1);", 1, 5);
        faulty(0, "cost 1/far;", 1, 7);
        faulty(0, "cost 1/0;", 2, 7);
        faulty(0, "cost 1/ 000 ;", 2, 8);
        faulty(0, "cost -1;", 1, 5);
        faulty(0, "cost 1 when;", 1, 11);
        faulty(0, "cost 1 when 1;", 1, 13);
        faulty(0, "cost 1 when 1<2<3;", 1, 15);
        faulty(0, "cost 1 when (1=1;", 1, 16);
        faulty(0, "cost 1 when 1=1);", 1, 15);
        faulty(0, "cost 1 when not;", 1, 15);
        faulty(0, "cost 1 when 1=1 and;", 1, 19);
        faulty(0, "floors 3;", 1, 0);
        faulty(0, times(16, "never;") + "cost 1/0;", 3, 96);
        faulty(0, times(16, "never;") + ";", 1, 96);
        faulty(0, "never when " + times(9, "(") + "1=1;", 3, 19);
        faulty(0, "never when " + times(4, "not(") + "not 1=1;", 3, 27);
        faulty(0, "never when " + times(8, "(") + "1=1" + times(8, ")") + " or " + times(9, "("), 3, 42);
        faulty(3, "floors;", 1, 6);
        faulty(3, "floors 1;", 2, 7);
        faulty(3, "floors 81;", 2, 7);
        faulty(3, "floors 00006;", 1, 7);
        faulty(3, "floors 6", 1, 8);
        faulty(3, "cost 1;", 1, 0);
        faulty(3, "car 1 1 1 1 0;", 1, 0);
        faulty(3, "skip 0 0;", 1, 0);
        faulty(3, "floors 6; floors 6;", 1, 10);
        faulty(3, "floors 6;car 0 1 1 1 0;", 2, 13);
        faulty(3, "floors 6;car 13 1 1 1 0;", 2, 13);
        faulty(3, "floors 6;car 1 0 1 1 0;", 2, 15);
        faulty(3, "floors 6;car 1 10 1 1 0;", 2, 15);
        faulty(3, "floors 6;car 1 1 0 1 0;", 2, 17);
        faulty(3, "floors 6;car 1 1 10 1 0;", 2, 17);
        faulty(3, "floors 6;car 1 1 1 10 0;", 2, 19);
        faulty(3, "floors 6;car 1 1 1 1 6;", 2, 21);
        faulty(3, "floors 6;car 1 1 1 1;", 1, 20);
        faulty(3, "floors 6;car 1 1 1 1 0 0;", 1, 23);
        faulty(3, "floors 6;skip 0 0;", 2, 14);
        faulty(3, "floors 6;car 1 1 1 1 0;skip 1 0;", 2, 28);
        faulty(3, "floors 6;car 1 1 1 1 0;skip 0 6;", 2, 30);
        faulty(3, "floors 6;" + times(4, "car 1 1 1 1 0;") + "car 0;", 3, 65);
        faulty(3, "floors 6;car 1 1 1 1 0;" + times(38, "skip 0 0;") + "skip 9 9;", 3, 365);
        faulty(3, "floors 6;car 1 1 1 1 0;" + times(38, "skip 0 0;") + "floors 6;", 1, 365);
        faulty(3, "floors 6;car 1 1 1 1 0;" + times(38, "skip 0 0;") + "cost", 1, 365);
        FourCars x = new FourCars();
        tell(x, 0, "cost 1/0;");
        due("fault(2)", x.fault(2), -1);
        due("fault(-1)", x.fault(-1), -1);
        x.text(9);
        due("fault(0) of no such text", x.fault(0), 0);
        due("fault(1) of no such text", x.fault(1), -1);
        tell(x, 0, "cost 1/0;");
        tell(x, 0, "cost 1;");
        due("fault(0) of a fine text", x.fault(0), 0);
        due("fault(1) of a fine text", x.fault(1), -1);
    }

    private static void people() {
        FourCars x = tower("floors 6;");
        due("one(0, 0, 5)", x.one(0, 0, 5), 0);
        due("one(9999, 5, 0)", x.one(9999, 5, 0), 1);
        due("one(10000, 5, 0)", x.one(10000, 5, 0), -1);
        due("one(-1, 5, 0)", x.one(-1, 5, 0), -1);
        due("one(0, 3, 3)", x.one(0, 3, 3), -1);
        due("one(0, 6, 3)", x.one(0, 6, 3), -1);
        due("one(0, 3, 6)", x.one(0, 3, 6), -1);
        due("one(0, -1, 3)", x.one(0, -1, 3), -1);
        due("one(0, 3, -1)", x.one(0, 3, -1), -1);
        due("one(MAX, 3, 1)", x.one(Integer.MAX_VALUE, 3, 1), -1);
        x.seconds(10);
        due("one(9, 1, 2) at 10", x.one(9, 1, 2), -1);
        due("one(10, 1, 2) at 10", x.one(10, 1, 2), 2);
        for (int p = 3; p < 60; p++) {
            due("one " + p, x.one(500, 1, 2), p);
        }
        due("the 61st", x.one(500, 1, 2), -1);
        due("look(2)", x.look(2), 60);
    }

    private static void settings() {
        FourCars x = tower("floors 6;car 2 2 1 1 0;car 1 1 1 1 5;");
        due("set(0, 99, 2)", x.set(0, 99, 2), true);
        due("THE RULE IN FORCE", x.look(4), 2);
        due("set(0, 0, 3)", x.set(0, 0, 3), false);
        due("set(0, 0, -1)", x.set(0, 0, -1), false);
        due("set(1, 2, 1)", x.set(1, 2, 1), false);
        due("set(1, -1, 1)", x.set(1, -1, 1), false);
        due("set(1, 0, 2)", x.set(1, 0, 2), false);
        due("set(1, 0, -1)", x.set(1, 0, -1), false);
        due("set(2, 1, 5)", x.set(2, 1, 5), true);
        due("HOME", x.car(1, 7), 5);
        due("set(2, 1, 6)", x.set(2, 1, 6), false);
        due("set(2, 1, -2)", x.set(2, 1, -2), false);
        due("set(2, 2, 1)", x.set(2, 2, 1), false);
        due("set(2, 1, -1)", x.set(2, 1, -1), true);
        due("no HOME", x.car(1, 7), -1);
        due("set(3, 5, 99)", x.set(3, 5, 99), true);
        due("WEIGHT", x.look(105), 99);
        due("set(3, 5, 100)", x.set(3, 5, 100), false);
        due("set(3, 5, -1)", x.set(3, 5, -1), false);
        due("set(3, 6, 1)", x.set(3, 6, 1), false);
        due("set(3, 0, 0)", x.set(3, 0, 0), true);
        due("set(4, 0, 0)", x.set(4, 0, 0), false);
        due("set(-1, 0, 0)", x.set(-1, 0, 0), false);
        outOfOrder();
        homes();
    }

    private static void outOfOrder() {
        FourCars x = tower("floors 6;car 2 2 1 1 0;");
        x.one(0, 0, 4);
        x.one(0, 2, 5);
        x.seconds(6);
        // in at 0, a stop of 2 seconds, on floor 1 at second 4, half way to floor 2 now
        due("it goes", x.car(0, 2), 1);
        due("seconds more", x.car(0, 3), 1);
        due("set right though in order", x.set(1, 0, 0), true);
        due("it goes on", x.car(0, 3), 1);
        due("set(1, 0, 1)", x.set(1, 0, 1), true);
        due("OUT", x.car(0, 6), 1);
        due("IDLE", x.car(0, 2), 0);
        due("no seconds", x.car(0, 3), 0);
        due("WAY 0", x.car(0, 1), 0);
        due("where it was last", x.car(0, 0), 1);
        due("who RIDES stays in", x.car(0, 4), 1);
        due("none given", x.car(0, 5), 0);
        due("given to none", x.person(1, 4), -1);
        due("in it still", x.person(0, 4), 0);
        due("nobody gets there", x.seconds(50), 0);
        due("OUT again", x.set(1, 0, 1), true);
        due("set right", x.set(1, 0, 0), true);
        due("IDLE till the next SECOND", x.car(0, 2), 0);
        x.seconds(1);
        due("given anew", x.person(1, 4), 0);
        due("UP again", x.car(0, 1), 1);
        due("a whole floor to go", x.car(0, 3), 2);
        due("both get there", x.seconds(60), 2);
    }

    private static void homes() {
        FourCars x = tower("floors 6;car 2 2 1 1 3;");
        x.set(2, 0, 1);
        x.seconds(1);
        due("home: WAY", x.car(0, 1), -1);
        due("home: GOES", x.car(0, 2), 1);
        x.seconds(2);
        due("home: FLOOR 2", x.car(0, 0), 2);
        // a call behind it on its way home turns it back at the next floor
        x.one(3, 3, 4);
        x.seconds(2);
        due("home: FLOOR 1", x.car(0, 0), 1);
        due("home: turned", x.car(0, 1), 1);
        x.seconds(60);
        due("home: FLOOR", x.car(0, 0), 1);
        due("home: WAY there", x.car(0, 1), 0);
        due("home: IDLE", x.car(0, 2), 0);
        due("home: THERE", x.sums(3), 1);
    }

    private static void passing() {
        FourCars x = tower("floors 6;car 2 2 3 1 0;");
        due("seconds(0)", x.seconds(0), -1);
        due("seconds(-5)", x.seconds(-5), -1);
        due("seconds(601)", x.seconds(601), -1);
        due("seconds(MAX)", x.seconds(Integer.MAX_VALUE), -1);
        due("NOW", x.look(3), 0);
        x.one(0, 1, 3);
        x.one(0, 1, 4);
        x.one(0, 1, 5);
        x.one(0, 2, 0);
        // floor 1 at 2: two go in (5 seconds); floor 3 at 11: one out (4), floor 4 at 17: one out, way 0
        due("till 2", x.seconds(2), 0);
        due("on FLOOR 0 still", x.car(0, 0), 0);
        x.seconds(1);
        due("on FLOOR 1", x.car(0, 0), 1);
        due("ROOM for two", x.car(0, 4), 2);
        due("DOOR and LOAD", x.car(0, 3), 5);
        due("the third WAITS", x.person(2, 3), 1);
        due("till 11", x.seconds(8), 0);
        due("the first", x.seconds(1), 1);
        due("its RIDE", x.person(0, 6), 9);
        due("till 16", x.seconds(5), 0);
        due("the second", x.seconds(1), 1);
        due("its RIDE is longer", x.person(1, 6), 15);
        // now nothing lies ahead: the nearest is who goes down from floor 2
        due("WAY turned", x.car(0, 1), -1);
        due("all", x.seconds(600), 2);
        due("NOW", x.look(3), 618);
        goesLate();
        theTurn();
        givenLate();
    }

    private static void givenLate() {
        FourCars x = tower("floors 9;car 1 9 1 0 0;");
        tell(x, 0, "never when far>3;");
        x.set(2, 0, 8);
        x.one(0, 5, 6);
        // on its way home it is on floor 2 at 18, and the call is its own from 19 on
        x.image(true);
        x.seconds(19);
        due("still too far", x.person(0, 4), -1);
        x.image(false);
        x.seconds(20);
        due("near enough", x.person(0, 4), 0);
        FourCars y = tower("floors 9;car 1 1 1 0 3;car 1 1 1 0 0;");
        tell(y, 0, "never when waits<7;cost far;");
        y.one(2, 3, 6);
        y.seconds(30);
        due("it waited for the RULE alone", y.person(0, 5), 7);
        due("and rode", y.person(0, 6), 4);
    }

    private static void goesLate() {
        FourCars x = tower("floors 3;car 1 1 1 0 0;");
        for (int i = 0; i < 33; i++) {
            x.seconds(600);
        }
        due("NOW", x.look(3), 19800);
        due("seconds(200) at 19800", x.seconds(200), -1);
        due("NOW still", x.look(3), 19800);
        due("seconds(199) at 19800", x.seconds(199), 0);
        due("NOW at the end", x.look(3), 19999);
        due("seconds(1) at 19999", x.seconds(1), -1);
    }

    private static void theTurn() {
        FourCars x = tower("floors 9;car 4 1 1 0 4;");
        // two alike far: up first
        x.one(0, 2, 0);
        x.one(0, 6, 8);
        x.seconds(1);
        due("of two alike far up", x.car(0, 1), 1);
        FourCars y = tower("floors 9;car 4 1 1 0 4;");
        // someone here: the way of the first, though another one here goes up
        y.one(0, 4, 1);
        y.one(0, 4, 8);
        y.seconds(1);
        due("the first one's WAY", y.car(0, 1), -1);
        due("the first one RIDES", y.person(0, 3), 2);
        due("the other one WAITS", y.person(1, 3), 1);
        y.seconds(60);
        due("both THERE", y.sums(3), 2);
        due("the other one's WAIT", y.person(1, 5), 8);
    }

    private static void ofCars() {
        FourCars x = tower("floors 6;car 2 3 4 5 1;car 12 9 9 0 5;skip 1 0;skip 1 3;");
        int[] first = {1, 0, 0, 0, 0, 0, 0, -1, 2, 3, 4, 5};
        int[] second = {5, 0, 0, 0, 0, 0, 0, -1, 12, 9, 9, 0};
        for (int what = 0; what < 12; what++) {
            due("car(0, " + what + ")", x.car(0, what), first[what]);
            due("car(1, " + what + ")", x.car(1, what), second[what]);
        }
        for (int floor = 0; floor < 6; floor++) {
            due("car(0, 100 + " + floor + ")", x.car(0, 100 + floor), 1);
            due("car(1, 100 + " + floor + ")", x.car(1, 100 + floor), floor == 0 || floor == 3 ? 0 : 1);
        }
        for (int what : new int[] {-1, 12, 99, 106, Integer.MIN_VALUE, Integer.MAX_VALUE}) {
            due("car(0, " + what + ")", x.car(0, what), -2);
        }
        due("car(2, 0)", x.car(2, 0), -2);
        due("car(-1, 0)", x.car(-1, 0), -2);
        tell(x, 0, "cost car;");
        x.one(0, 4, 2);
        x.one(0, 4, 3);
        x.one(0, 1, 5);
        x.seconds(1);
        int[] then = {1, 1, 2, 9, 1, 2};
        for (int what = 0; what < 6; what++) {
            due("then car(0, " + what + ")", x.car(0, what), then[what]);
        }
    }

    private static void ofPeople() {
        FourCars x = tower("floors 6;car 1 1 2 1 0;");
        x.one(3, 2, 4);
        int[] notYet = {3, 2, 4, 0, -1, -1, -1, -2};
        int[] waits = {3, 2, 4, 1, 0, -1, -1, -2};
        int[] rides = {3, 2, 4, 2, 0, 2, -1, -2};
        int[] there = {3, 2, 4, 3, 0, 2, 5, -2};
        comparePerson(x, notYet);
        x.seconds(3);
        comparePerson(x, notYet);
        x.seconds(1);
        comparePerson(x, waits);
        x.seconds(2);
        comparePerson(x, rides);
        x.seconds(4);
        comparePerson(x, rides);
        x.seconds(1);
        comparePerson(x, there);
        due("person(1, 0)", x.person(1, 0), -2);
        due("person(-1, 0)", x.person(-1, 0), -2);
        due("person(0, -1)", x.person(0, -1), -2);
        due("person(MAX, 0)", x.person(Integer.MAX_VALUE, 0), -2);
    }

    private static void comparePerson(FourCars x, int[] row) {
        for (int what = 0; what < row.length; what++) {
            due("person(0, " + what + ") at " + x.look(3), x.person(0, what), row[what]);
        }
    }

    private static void prices(FourCars x, String rule, int p, int c, int want) {
        tell(x, 2, rule);
        due("cost(" + p + ", " + c + ") by " + rule, x.cost(p, c, 2), want);
    }

    private static void costs() {
        FourCars x = tower("floors 9;car 1 2 1 0 4;car 2 2 1 0 8;skip 1 0;");
        tell(x, 0, "cost car;");
        x.one(0, 4, 7);
        x.one(0, 6, 7);
        x.one(0, 5, 2);
        x.one(0, 3, 8);
        x.one(9, 3, 8);
        x.one(0, 5, 6);
        due("not there yet", x.cost(1, 0, 0), NO_COST);
        x.seconds(5);
        // car 0 has one in, is between floors 5 and 6 going up, and was given four more
        due("far", x.car(0, 0), 5);
        prices(x, "cost far;", 1, 0, 1);
        prices(x, "cost far;", 1, 1, 2);
        prices(x, "cost same;", 1, 0, 1);
        prices(x, "cost same;", 2, 0, 0);
        prices(x, "cost same;", 3, 0, 0);
        prices(x, "cost same;", 5, 0, 1);
        prices(x, "cost same;", 1, 1, 0);
        prices(x, "cost against;", 2, 0, 1);
        prices(x, "cost against;", 3, 0, 0);
        prices(x, "cost against;", 2, 1, 0);
        prices(x, "cost load;", 1, 0, 1);
        prices(x, "cost load;", 1, 1, 0);
        prices(x, "cost given;", 1, 0, 4);
        prices(x, "cost given;", 1, 1, 0);
        prices(x, "cost idle;", 1, 0, 0);
        prices(x, "cost idle;", 1, 1, 1);
        prices(x, "cost up;", 1, 0, 1);
        prices(x, "cost up;", 2, 0, 0);
        prices(x, "cost floor;", 2, 1, 5);
        prices(x, "cost waits;", 2, 0, 5);
        prices(x, "cost car;", 2, 1, 1);
        prices(x, "", 2, 1, 0);
        prices(x, "cost 5 when 1=2;", 2, 1, 0);
        prices(x, "never;", 2, 1, NO_COST);
        prices(x, "never when car=1;cost 3;", 2, 1, NO_COST);
        prices(x, "never when car=1;cost 3;", 2, 0, 3);
        prices(x, "cost 7 when 1<1;cost 8 when 1>1;cost 9 when 1=1;never;", 2, 0, 9);
        prices(x, "cost 2+3*4-5;", 2, 0, 9);
        prices(x, "cost 2-3-4;", 2, 0, -5);
        prices(x, "cost 7/2*2;", 2, 0, 6);
        prices(x, "cost 0-7/2;", 2, 0, -3);
        prices(x, "cost far*9/2-9;", 1, 1, 0);
        prices(x, "cost car*0-7*waits/2;", 2, 0, -17);
        prices(x, "cost 9999*9999*9999;", 2, 0, 9999 * 9999 * 9999);
        prices(x, "cost 9999*9999*9999/7;", 2, 0, 9999 * 9999 * 9999 / 7);
        prices(x, "cost 1 when not 1=2 and 1=2;cost 2;", 2, 0, 2);
        prices(x, "cost 1 when 1=1 or 1=1 and 1=2;cost 2;", 2, 0, 1);
        prices(x, "cost 1 when (1=1 or 1=1) and 1=2;cost 2;", 2, 0, 2);
        prices(x, "cost 1 when 1=2 and 1=1 or 1=1 and 2=2;cost 2;", 2, 0, 1);
        prices(x, "cost 1 when 1=2 or 1=1 and 1=2 or 1=2;cost 2;", 2, 0, 2);
        prices(x, "cost 1 when not (1=2 or not 1=1);cost 2;", 2, 0, 1);
        due("it RIDES", x.cost(0, 0, 2), NO_COST);
        due("it is not there yet", x.cost(4, 0, 2), NO_COST);
        due("no such one", x.cost(6, 0, 2), NO_COST);
        due("no such one below", x.cost(-1, 0, 2), NO_COST);
        due("no such CAR", x.cost(1, 2, 2), NO_COST);
        due("no such CAR below", x.cost(1, -1, 2), NO_COST);
        due("no such RULE", x.cost(1, 0, 3), NO_COST);
        due("no such RULE below", x.cost(1, 0, -1), NO_COST);
        givings();
    }

    private static void givings() {
        FourCars x = tower("floors 9;car 1 2 1 0 4;car 2 2 1 0 4;car 1 1 1 1 8;skip 1 0;skip 2 1;");
        tell(x, 0, "never when waits<3;cost given*9+far;");
        x.one(0, 4, 0);
        x.one(0, 4, 5);
        x.one(0, 5, 1);
        x.one(0, 4, 1);
        x.one(0, 0, 1);
        due("never", x.seconds(3), 0);
        due("given to none", x.person(0, 4), -1);
        x.seconds(1);
        due("the least number", x.person(0, 4), 0);
        due("the least COST", x.person(1, 4), 1);
        due("it does not serve 1, car 1 is as dear as car 0", x.person(2, 4), 0);
        due("car 1 has less", x.person(3, 4), 1);
        due("two do not serve both", x.person(4, 4), 0);
    }

    private static void sumsOfAll() {
        FourCars x = tower("floors 6;car 1 1 2 1 0;");
        for (int what = 0; what < 4; what++) {
            due("sums(" + what + ") of nobody", x.sums(what), 0);
        }
        x.one(0, 1, 2);
        x.one(0, 3, 5);
        x.one(90, 3, 5);
        x.seconds(2);
        due("WAIT of one in", x.sums(0), 1);
        due("RIDE of none", x.sums(1), 0);
        due("none THERE", x.sums(3), 0);
        // floor 2 at 5, floor 3 at 9, floor 5 at 14
        x.seconds(30);
        due("WAIT", x.sums(0), 1 + 9);
        due("RIDE", x.sums(1), 4 + 5);
        due("the greatest WAIT", x.sums(2), 9);
        due("THERE", x.sums(3), 2);
        due("sums(4)", x.sums(4), -1);
        due("sums(-1)", x.sums(-1), -1);
    }

    private static void thoughts() {
        FourCars x = tower("floors 6;car 1 1 2 1 0;car 1 1 2 1 5;");
        tell(x, 0, "never;");
        tell(x, 1, "cost car;");
        tell(x, 2, "cost far;");
        x.one(0, 1, 2);
        x.one(0, 5, 3);
        for (int what = 0; what < 3; what++) {
            due("no end " + what, x.thought(0, what), -1);
        }
        // car 0: in at 1, out at 5, in again at 11, out at 16
        due("OVER by 1", x.thought(1, 0), 5 + 16);
        due("the greatest by 1", x.thought(1, 1), 16);
        due("SECONDS by 1", x.thought(1, 2), 17);
        // car 1: in at 0, out at 5
        due("OVER by 2", x.thought(2, 0), 5 + 5);
        due("the greatest by 2", x.thought(2, 1), 5);
        due("SECONDS by 2", x.thought(2, 2), 6);
        due("nothing stays", x.look(3), 0);
        due("nobody moved", x.person(1, 3), 0);
        due("thought(3, 0)", x.thought(3, 0), -1);
        due("thought(-1, 0)", x.thought(-1, 0), -1);
        due("thought(1, 3)", x.thought(1, 3), -1);
        due("thought(1, -1)", x.thought(1, -1), -1);
        x.set(0, 0, 2);
        x.seconds(10);
        due("behind the end", x.thought(0, 0), 10);
        due("no SECONDS", x.thought(0, 2), 0);
        FourCars y = tower("floors 2;car 1 1 1 0 0;");
        y.one(2997, 0, 1);
        due("the last SECOND of 3000", y.thought(0, 2), 3000);
        FourCars z = tower("floors 2;car 1 1 1 0 0;");
        z.one(2998, 0, 1);
        due("one SECOND too late", z.thought(0, 2), -1);
        z.seconds(1);
        due("now in time", z.thought(0, 2), 3000);
    }

    private static void betterOnes() {
        FourCars x = tower("floors 6;car 1 1 2 1 0;car 1 1 2 1 5;");
        tell(x, 0, "never;");
        tell(x, 1, "cost car;");
        tell(x, 2, "cost far;");
        x.one(0, 1, 2);
        x.one(0, 5, 3);
        due("better(1, 2)", x.better(1, 2), 2);
        due("better(2, 1)", x.better(2, 1), 2);
        due("one without an end is worse", x.better(0, 1), 1);
        due("one without an end is worse still", x.better(1, 0), 1);
        due("better(0, 0)", x.better(0, 0), 0);
        due("better(2, 2)", x.better(2, 2), 2);
        tell(x, 1, "never;");
        due("both without an end", x.better(1, 0), 0);
        tell(x, 0, "cost far;");
        due("both alike", x.better(2, 0), 0);
        due("better(3, 0)", x.better(3, 0), -1);
        due("better(0, 3)", x.better(0, 3), -1);
        due("better(-1, 0)", x.better(-1, 0), -1);
    }

    private static void bestOnes() {
        FourCars x = tower("floors 6;car 1 1 2 1 0;car 1 1 2 1 5;car 2 1 1 1 5;");
        due("nobody", x.best(0), -1);
        x.one(0, 1, 2);
        x.one(0, 5, 3);
        x.one(0, 5, 4);
        // car 0: 5; car 1 takes one from 5 (out at 5 or 4), car 2 the other one (out at 4 or 3), or both: 5 and 7
        due("best(0)", x.best(0), 5 + 5 + 3);
        due("best(10)", x.best(10), 0);
        due("best(11)", x.best(11), 1);
        due("best(12)", x.best(12), 2);
        due("best(13)", x.best(13), -1);
        due("best(9)", x.best(9), -1);
        due("best(-1)", x.best(-1), -1);
        due("best(MIN)", x.best(Integer.MIN_VALUE), -1);
        x.set(1, 2, 1);
        due("one is OUT", x.best(0), -1);
        x.set(1, 2, 0);
        tell(x, 0, "never;");
        x.seconds(4);
        due("they WAIT and are given to none", x.best(0), 13 + 3 * 4);
        tell(x, 0, "cost far;");
        x.seconds(1);
        due("they are given", x.best(0), -1);
        FourCars y = tower("floors 6;car 1 1 1 0 0;skip 0 3;");
        y.one(0, 1, 2);
        due("one CAR", y.best(10), 0);
        y.one(0, 1, 3);
        due("nobody serves it", y.best(0), -1);
        FourCars z = tower("floors 6;" + times(4, "car 1 1 1 0 0;"));
        z.one(0, 1, 2);
        due("four CARS", z.best(0), -1);
        FourCars w = tower("floors 6;car 1 1 1 0 0;car 1 1 1 0 0;");
        for (int p = 0; p < 6; p++) {
            w.one(p, 1, 2);
        }
        due("of several the first", w.best(10), 0);
        due("six", w.best(15) >= 0, true);
        w.one(0, 1, 2);
        due("seven", w.best(0), -1);
        FourCars v = tower("floors 6;car 1 1 1 0 0;");
        v.one(3500, 1, 2);
        due("without an end", v.best(0), -1);
    }

    private static void morningsOnes() {
        FourCars x = tower("floors 3;car 2 1 1 0 0;car 2 1 1 0 2;");
        tell(x, 0, "cost far;");
        tell(x, 1, "cost car;");
        tell(x, 2, "never;");
        due("how many of 1", x.mornings(0, 1, 1, 1), 6);
        due("how many of 2", x.mornings(0, 1, 2, 1), 36);
        // 0: 0 to 1, 1: 0 to 2, 2: 1 to 0, 3: 1 to 2, 4: 2 to 0: car 1 stands there
        due("the first", x.mornings(1, 0, 1, 0), 4);
        due("none", x.mornings(0, 1, 1, 0), -1);
        // 0 and 4: from 0 and from 2
        due("the first of two", x.mornings(1, 0, 2, 0), 4);
        due("without an end", x.mornings(2, 0, 1, 0), 0);
        due("both alike", x.mornings(2, 2, 2, 0), -1);
        tell(x, 0, "never when waits<9;");
        due("later is worse", x.mornings(0, 1, 2, 0), 0);
        due("sooner is not", x.mornings(1, 0, 2, 0), -1);
        tell(x, 0, "cost far;");
        x.set(1, 1, 1);
        x.set(2, 0, 1);
        x.one(0, 1, 2);
        x.seconds(60);
        due("as told, none OUT, nobody else", x.mornings(1, 0, 1, 0), 4);
        due("nothing stays", x.car(1, 6), 1);
        due("mornings(0, 1, 0, 1)", x.mornings(0, 1, 0, 1), -1);
        due("mornings(0, 1, 3, 1)", x.mornings(0, 1, 3, 1), -1);
        due("mornings(3, 1, 1, 1)", x.mornings(3, 1, 1, 1), -1);
        due("mornings(0, -1, 1, 1)", x.mornings(0, -1, 1, 1), -1);
        due("mornings(0, 1, 1, 2)", x.mornings(0, 1, 1, 2), -1);
        due("mornings(0, 1, 1, -1)", x.mornings(0, 1, 1, -1), -1);
        due("no CAR", tower("floors 8;").mornings(0, 1, 2, 1), 56 * 56);
        due("no CAR, none worse", tower("floors 8;").mornings(0, 1, 2, 0), -1);
        due("nine FLOORS", tower("floors 9;car 1 1 1 0 0;").mornings(0, 1, 1, 1), -1);
        morningNumbers();
        morningsWithoutFloors();
    }

    private static void morningsWithoutFloors() {
        FourCars x = new FourCars();
        due("new, how many of 1", x.mornings(0, 0, 1, 1), -1);
        due("new, how many of 2", x.mornings(0, 1, 2, 1), -1);
        due("new, the first", x.mornings(1, 0, 2, 0), -1);
        x.image(true);
        tell(x, 3, "floors 2;");
        due("the least tower, of 1", x.mornings(0, 0, 1, 1), 2);
        due("the least tower, of 2", x.mornings(0, 0, 2, 1), 4);
        tell(x, 3, "");
        due("an empty tower, of 1", x.mornings(0, 0, 1, 1), -1);
        due("an empty tower, of 2", x.mornings(0, 0, 2, 1), -1);
        tell(x, 3, "floors 2;");
        x.image(false);
        due("gone back to no tower", x.mornings(0, 0, 1, 1), -1);
    }

    private static void morningNumbers() {
        FourCars x = tower("floors 3;car 1 1 1 0 0;");
        tell(x, 0, "never when floor=1 and up=1;");
        due("from 1 to 2", x.mornings(0, 1, 1, 0), 3);
        tell(x, 0, "never when floor=2;");
        due("from 2 to 0", x.mornings(0, 1, 1, 0), 4);
        // who goes from 1 to 2 as PEOPLE 1 misses the car that goes up to PEOPLE 0 on floor 2: 14 for 9
        tell(x, 0, "never when floor=1 and up=1 and given=1;");
        due("4 * 6 + 3", x.mornings(0, 1, 2, 0), 27);
    }

    private static void funOnes() {
        FourCars x = tower("floors 9;car 4 1 3 0 0;skip 0 5;");
        x.one(0, 1, 8);
        x.one(0, 1, 7);
        x.one(0, 1, 4);
        due("not there yet", x.fun(0, 5), NO_FUN);
        x.seconds(1);
        // both of the others are in the car: a stop at 2 is ahead of both, one at 5 of one
        due("fun(0, 2)", x.fun(0, 2), 6);
        due("fun(0, 5)", x.fun(0, 5), 3);
        due("a FLOOR where it stops anyway", x.fun(0, 4), 0);
        due("behind all of them", x.fun(1, 0), 0);
        due("from", x.fun(0, 1), NO_FUN);
        due("to", x.fun(0, 8), NO_FUN);
        due("no such FLOOR", x.fun(0, 9), NO_FUN);
        due("no such FLOOR below", x.fun(0, -1), NO_FUN);
        due("no such one", x.fun(3, 2), NO_FUN);
        due("no such one below", x.fun(-1, 2), NO_FUN);
        due("nothing stays", x.car(0, 0), 0);
        // in at 1 and out at 7, 13, 17 for 4, 7 and 8: no stop for fun among them
        due("no fun stays", x.thought(0, 0), 7 + 13 + 17);
        due("THERE in time", x.seconds(60), 3);
        due("THERE", x.fun(0, 2), NO_FUN);
        FourCars y = tower("floors 9;car 4 1 3 0 0;");
        y.one(0, 1, 8);
        y.seconds(2);
        due("it RIDES", y.fun(0, 2), NO_FUN);
        FourCars z = tower("floors 9;car 4 1 3 0 0;");
        z.one(0, 1, 8);
        z.one(9000, 1, 8);
        z.seconds(1);
        due("no end", z.fun(0, 2), NO_FUN);
    }

    private static void waitingPlaces() {
        FourCars x = tower("floors 5;");
        due("one", x.places(1, 0), 6);
        due("in the middle", x.places(1, 10), 2);
        due("two", x.places(2, 0), 3);
        due("the first of several", x.places(2, 10), 0);
        due("and its other one", x.places(2, 11), 3);
        due("four", x.places(4, 0), 1);
        for (int i = 0; i < 4; i++) {
            due("place " + i, x.places(4, 10 + i), i);
        }
        for (int f = 0; f < 5; f++) {
            x.set(3, f, 0);
        }
        due("no WEIGHTS", x.places(3, 0), 0);
        due("the least FLOORS", x.places(3, 12), 2);
        x.set(3, 4, 99);
        due("one WEIGHT", x.places(2, 0), 0);
        due("the least FLOOR beside it", x.places(2, 10), 0);
        due("and it", x.places(2, 11), 4);
        due("k 0", x.places(0, 0), -1);
        due("k 5", x.places(5, 0), -1);
        due("places(2, 12)", x.places(2, 12), -1);
        due("places(2, 9)", x.places(2, 9), -1);
        due("places(2, 1)", x.places(2, 1), -1);
        due("places(2, -1)", x.places(2, -1), -1);
        FourCars y = tower("floors 2;");
        due("as many as FLOORS", y.places(2, 0), 0);
        due("more than FLOORS", y.places(3, 0), -1);
    }

    private static void zonesOfTowers() {
        FourCars x = tower("floors 5;car 1 1 1 0 0;car 1 9 9 9 0;");
        due("zones(1, 0)", x.zones(1, 0), 2 * 6 + 2 * 10);
        due("zones(1, 10)", x.zones(1, 10), 3);
        due("zones(2, 0)", x.zones(2, 0), 2 * 6 + 7 + 9);
        due("of several the first", x.zones(2, 10), 2);
        due("and its second CUT", x.zones(2, 11), 3);
        due("zones(3, 0)", x.zones(3, 0), 3 + 5 + 7 + 9);
        due("zones(3, 12)", x.zones(3, 12), 4);
        x.set(3, 0, 99);
        due("FLOOR 0 is in no zone", x.zones(3, 0), 3 + 5 + 7 + 9);
        for (int f = 1; f < 5; f++) {
            x.set(3, f, 0);
        }
        due("of several the first", x.zones(2, 10), 2);
        due("and its other one", x.zones(2, 11), 3);
        due("zones(0, 0)", x.zones(0, 0), -1);
        due("zones(4, 0)", x.zones(4, 0), -1);
        due("zones(1, 11)", x.zones(1, 11), -1);
        due("zones(1, 9)", x.zones(1, 9), -1);
        due("zones(1, -1)", x.zones(1, -1), -1);
        FourCars y = tower("floors 3;car 1 2 3 0 0;");
        due("k and 2 FLOORS", y.zones(1, 0), 4 + 3 + 8 + 3);
        due("too few FLOORS", y.zones(2, 0), -1);
        due("no CAR", tower("floors 9;").zones(1, 0), -1);
    }

    private static void images() {
        FourCars x = tower("floors 6;car 1 1 2 1 0;");
        tell(x, 0, "cost far;");
        due("none", x.image(false), false);
        x.one(0, 1, 2);
        x.set(2, 0, 4);
        x.set(3, 2, 7);
        x.seconds(2);
        due("taken", x.image(true), true);
        for (int round = 0; round < 2; round++) {
            x.seconds(40);
            x.one(99, 3, 4);
            x.set(0, 0, 1);
            x.set(1, 0, 1);
            tell(x, 0, "");
            tell(x, 3, round == 0 ? "floors 9;car 5 5 5 5 5;skip 0 0;" : "");
            tell(x, 1, "cost 1/0;");
            put(x, "cost 5;");
            due("gone back", x.image(false), true);
            due("the TAPE stays", x.text(2), 1);
            tell(x, 2, "never; ?");
            due("FLOORS", x.look(0), 6);
            due("serves", x.car(0, 100), 1);
            due("ROOM", x.car(0, 8), 1);
            due("PEOPLE", x.look(2), 1);
            due("NOW", x.look(3), 2);
            due("THE RULE IN FORCE", x.look(4), 0);
            due("lines of RULE 0", x.look(10), 1);
            due("lines of the TOWER", x.look(13), 2);
            due("WEIGHT", x.look(102), 7);
            due("HOME", x.car(0, 7), 4);
            due("OUT", x.car(0, 6), 0);
            due("RIDES", x.person(0, 3), 2);
            due("seconds more", x.car(0, 3), 3);
            due("it goes on", x.seconds(4), 1);
        }
        tell(x, 1, "cost 1/0;");
        x.image(false);
        due("fault() stays", x.fault(0), 2);
        due("its place, too", x.fault(1), 7);
    }

    private static void looks() {
        FourCars x = tower("floors 6;car 1 1 2 1 0;car 1 1 2 1 5;");
        tell(x, 1, "cost far;cost 2;");
        x.one(0, 1, 2);
        x.one(0, 0, 2);
        x.one(50, 0, 2);
        x.one(50, 0, 2);
        x.one(60, 0, 2);
        x.one(0, 1, 2);
        x.set(0, 0, 1);
        x.set(3, 5, 42);
        x.seconds(1);
        int[] row = {6, 2, 6, 1, 1, 2, 1, -1};
        for (int what = 0; what < row.length; what++) {
            due("look(" + what + ")", x.look(what), row[what]);
        }
        due("look(10)", x.look(10), 0);
        due("look(11)", x.look(11), 2);
        due("look(12)", x.look(12), 0);
        due("look(13)", x.look(13), 3);
        due("look(14)", x.look(14), -1);
        due("look(9)", x.look(9), -1);
        due("look(99)", x.look(99), -1);
        due("look(100)", x.look(100), 1);
        due("look(105)", x.look(105), 42);
        due("look(106)", x.look(106), -1);
        due("look(-1)", x.look(-1), -1);
        due("look(MIN)", x.look(Integer.MIN_VALUE), -1);
        due("look(MAX)", x.look(Integer.MAX_VALUE), -1);
    }

    private static void ask(int number) {
        topic("promise " + number);
        switch (number) {
            case 1 -> newObject();
            case 2 -> feeding();
            case 3 -> ending();
            case 4 -> texts();
            case 5 -> faults();
            case 6 -> people();
            case 7 -> settings();
            case 8 -> passing();
            case 9 -> ofCars();
            case 10 -> ofPeople();
            case 11 -> costs();
            case 12 -> sumsOfAll();
            case 13 -> thoughts();
            case 14 -> betterOnes();
            case 15 -> bestOnes();
            case 16 -> morningsOnes();
            case 17 -> funOnes();
            case 18 -> waitingPlaces();
            case 19 -> zonesOfTowers();
            case 20 -> images();
            default -> looks();
        }
    }

    public static void main(String[] args) {
        for (int number = 1; number <= 21; number++) {
            ask(number);
        }
        close();
    }
}
