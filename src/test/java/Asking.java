import java.io.IOException;
import java.nio.file.Files;
import java.nio.file.Path;
import java.util.function.Supplier;
import java.util.function.ToIntFunction;

/** What the tests that go by the document share: texts put on the tape, and answers held against those that are due. */
abstract class Asking {
    static final int NONE = -1;
    static final int NO_SUCH = -2;
    static final int NO_COST = -100000000;
    static final int NO_FUN = -100000;
    static final int MIN = Integer.MIN_VALUE;
    static final int MAX = Integer.MAX_VALUE;

    private static final String DOCUMENT = document();
    private static String topic = "";
    private static int sentences = 0;
    private static int asked = 0;
    private static int wrong = 0;

    private static String document() {
        try {
            return Files.readString(Path.of("../shared/DOC.md")).replaceAll("\\s+", " ");
        } catch (IOException e) {
            return "";
        }
    }

    static void topic(String name) {
        topic = name;
    }

    /** What comes is about this sentence: it must stand in the document, word for word. */
    static void sentence(String quoted) {
        topic = quoted;
        sentences++;
        due("the document has it", DOCUMENT.contains(quoted), true);
    }

    static void due(String what, int got, int want) {
        asked++;
        if (got != want) {
            wrong++;
            System.out.println(topic + " | " + what + " answered " + got + ", due is " + want);
        }
    }

    static void due(String what, boolean got, boolean want) {
        due(what, got ? 1 : 0, want ? 1 : 0);
    }

    static void due(String what, String got, String want) {
        asked++;
        if (!got.equals(want)) {
            wrong++;
            System.out.println(topic + " | " + what + " answered " + got + ", due is " + want);
        }
    }

    /** Ends the run: with exit code 1 if an answer was not the one that is due. */
    static void close() {
        System.out.println((sentences > 0 ? sentences + " sentences, " : "") + asked + " answers, " + wrong + " not as due");
        if (wrong != 0) {
            System.exit(1);
        }
    }

    static String times(int n, String text) {
        return text.repeat(n);
    }

    static void put(FourCars x, String text) {
        StringBuilder padded = new StringBuilder(text);
        while (padded.length() % 20 != 0) {
            padded.append('?');
        }
        for (int i = 0; i < padded.length(); i += 20) {
            int[] n = new int[5];
            for (int j = 0; j < 20; j++) {
                n[j / 4] = n[j / 4] << 8 | padded.charAt(i + j);
            }
            x.feed(n[0], n[1], n[2], n[3], n[4]);
        }
        x.end(text.length());
    }

    static int tell(FourCars x, int k, String text) {
        put(x, text);
        return x.text(k);
    }

    static FourCars tower(String text) {
        FourCars x = new FourCars();
        if (tell(x, 3, text) < 1) {
            due("the tower " + text, 0, 1);
        }
        return x;
    }

    static void faulty(int k, String text, int kind, int place) {
        FourCars x = new FourCars();
        due("text of " + text, tell(x, k, text), NONE);
        due("fault(0) of " + text, x.fault(0), kind);
        due("fault(1) of " + text, x.fault(1), place);
        due("lines behind " + text, x.look(10 + k), 0);
    }

    static void fine(int k, String text, int lines) {
        FourCars x = new FourCars();
        due("text of " + text, tell(x, k, text), lines);
        due("fault(0) of " + text, x.fault(0), 0);
        due("fault(1) of " + text, x.fault(1), NONE);
        due("lines of " + text, x.look(10 + k), lines);
    }

    /** Lets so many SECONDS go by, more than one call may ask for. */
    static void pass(FourCars x, int n) {
        for (int left = n; left > 0; left -= 600) {
            x.seconds(Math.min(left, 600));
        }
    }

    /** All that can be asked of an object but its TAPE, fault() and what is far up in a high tower. */
    static String state(FourCars x) {
        StringBuilder s = new StringBuilder("look");
        for (int what : new int[] {0, 1, 2, 3, 4, 5, 6, 10, 11, 12, 13}) {
            s.append(' ').append(x.look(what));
        }
        int floors = Math.min(x.look(0), 9);
        s.append(" weights");
        for (int f = 0; f < floors; f++) {
            s.append(' ').append(x.look(100 + f));
        }
        for (int c = 0; c < x.look(1); c++) {
            s.append(" car");
            for (int what = 0; what < 12; what++) {
                s.append(' ').append(x.car(c, what));
            }
            for (int f = 0; f < floors; f++) {
                s.append(x.car(c, 100 + f));
            }
        }
        for (int p = 0; p < Math.min(x.look(2), 7); p++) {
            s.append(" person");
            for (int what = 0; what < 7; what++) {
                s.append(' ').append(x.person(p, what));
            }
        }
        s.append(" sums");
        for (int what = 0; what < 4; what++) {
            s.append(' ').append(x.sums(what));
        }
        s.append(" thought");
        for (int rule = 0; rule < 3; rule++) {
            s.append(' ').append(x.thought(rule, 0));
        }
        return s.toString();
    }

    /** A call that must answer so and leave all else as it was. */
    static void refused(Supplier<FourCars> made, String call, ToIntFunction<FourCars> ask, int want) {
        FourCars x = made.get();
        tell(x, 0, "cost far; ?");
        put(x, "a tape of 18 bytes");
        String before = state(x);
        due(call, ask.applyAsInt(x), want);
        due("the state behind " + call, state(x), before);
        due("fault(0) behind " + call, x.fault(0), 1);
        due("fault(1) behind " + call, x.fault(1), 10);
        due("a longer TAPE behind " + call, x.end(19), false);
        due("the TAPE behind " + call, x.end(18), true);
    }

    /** An object in the midst of things: one RIDES, one WAITS, one is THERE, one is not there yet. */
    static FourCars busy() {
        FourCars x = tower("floors 6;car 2 2 1 1 0;car 1 1 2 0 5;skip 0 5;");
        tell(x, 0, "cost far;");
        tell(x, 1, "never when car=0 and idle=0;cost 3;");
        tell(x, 2, "cost far when up=1;");
        x.set(0, 9, 2);
        x.set(2, 1, 3);
        x.set(3, 4, 7);
        x.one(0, 5, 4);
        x.one(0, 0, 3);
        x.one(6, 2, 0);
        x.one(40, 1, 2);
        x.seconds(8);
        return x;
    }
}
