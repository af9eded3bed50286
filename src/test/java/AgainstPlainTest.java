import java.util.Random;

/** Random runs of calls, each asked of FourCars and of PlainCars: both must answer alike. */
public final class AgainstPlainTest {
    private static final String[] FACTS =
        {"far", "same", "against", "load", "given", "idle", "up", "floor", "waits", "car"};
    private static final int[] ODD = {Integer.MIN_VALUE, -100, -2, -1, 60, 80, 99, 1000, 20000, Integer.MAX_VALUE};

    private final Random random;
    private final FourCars cars = new FourCars();
    private final PlainCars plain = new PlainCars();
    private final int run;
    private final boolean small;
    private int floors = 0;
    private int wrong = 0;

    private AgainstPlainTest(int run) {
        this.run = run;
        this.random = new Random(run);
        this.small = run % 3 == 0;
    }

    private int below(int n) {
        return random.nextInt(Math.max(n, 1));
    }

    private boolean once(int n) {
        return random.nextInt(n) == 0;
    }

    private void due(String call, int got, int want) {
        if (got != want) {
            wrong++;
            System.out.println("run " + run + ": " + call + " answered " + got + ", due is " + want);
        }
    }

    private void due(String call, boolean got, boolean want) {
        due(call, got ? 1 : 0, want ? 1 : 0);
    }

    private void tell(String text, int k) {
        int length = Math.min(text.length(), 400);
        byte[] bytes = new byte[(length + 19) / 20 * 20];
        for (int i = 0; i < bytes.length; i++) {
            bytes[i] = i < length ? (byte) text.charAt(i) : (byte) below(256);
        }
        for (int i = 0; i < bytes.length; i += 20) {
            int[] n = new int[5];
            for (int j = 0; j < 20; j++) {
                n[j / 4] = n[j / 4] << 8 | bytes[i + j] & 255;
            }
            due("feed", cars.feed(n[0], n[1], n[2], n[3], n[4]), plain.feed(n[0], n[1], n[2], n[3], n[4]));
        }
        due("end", cars.end(length), plain.end(length));
        due("text(" + k + ") " + text, cars.text(k), plain.text(k));
        due("fault(0) " + text, cars.fault(0), plain.fault(0));
        due("fault(1) " + text, cars.fault(1), plain.fault(1));
    }

    private String blank() {
        return once(6) ? once(2) ? "\n" : "  " : "";
    }

    private String unit() {
        return once(3) ? "" + below(once(8) ? 10000 : 20) : FACTS[below(FACTS.length)];
    }

    private String sum() {
        StringBuilder s = new StringBuilder(unit());
        for (int i = below(4); i > 0; i--) {
            s.append(blank());
            int kind = below(5);
            s.append(kind == 0 ? "/" + (once(20) ? 0 : 1 + below(9)) : "+-**".charAt(kind - 1) + blank() + unit());
        }
        return s.toString();
    }

    private String test(int depth) {
        int kind = depth > 9 ? 0 : below(6);
        if (kind == 1) {
            return "not " + test(depth + 1);
        }
        if (kind == 2) {
            return "(" + condition(depth + 1) + ")" + blank();
        }
        return sum() + "<=>".charAt(below(3)) + sum();
    }

    private String condition(int depth) {
        StringBuilder s = new StringBuilder(test(depth));
        for (int i = below(3); i > 0; i--) {
            s.append(once(2) ? " and " : " or ").append(test(depth + 1));
        }
        return s.toString();
    }

    private String rule() {
        if (once(4)) {
            // calls that stay with none till a car comes by
            String fact = FACTS[below(8)];
            return "never when " + fact + "<=>".charAt(below(3)) + below(4) + ";" + (once(2) ? "cost far;" : "cost given;");
        }
        StringBuilder s = new StringBuilder();
        for (int i = below(once(15) ? 20 : 5); i > 0; i--) {
            s.append(once(4) ? "never" : "cost " + sum()).append(once(3) ? "" : " when " + condition(0)).append(blank()).append(";");
        }
        return s.toString();
    }

    private String tower() {
        int n = small ? 2 + below(7) : once(4) ? 2 + below(79) : 2 + below(20);
        int count = once(10) ? 0 : 1 + below(once(20) ? 5 : small ? 3 : 4);
        StringBuilder s = new StringBuilder("floors " + n + ";");
        for (int c = 0; c < count; c++) {
            s.append("car ").append(1 + below(once(3) ? 12 : 3)).append(' ').append(1 + below(once(3) ? 9 : 2));
            s.append(' ').append(1 + below(once(3) ? 9 : 2)).append(' ').append(below(once(3) ? 10 : 3));
            s.append(' ').append(below(n)).append(blank()).append(';');
        }
        for (int i = once(3) ? below(once(9) ? 45 : 8) : 0; i > 0; i--) {
            s.append("skip ").append(below(count)).append(' ').append(below(n)).append(';');
        }
        return s.toString();
    }

    private String spoilt(String text) {
        StringBuilder s = new StringBuilder(text);
        for (int i = 1 + below(2); i > 0 && s.length() > 0; i--) {
            int at = below(s.length());
            switch (below(4)) {
                case 0 -> s.deleteCharAt(at);
                case 1 -> s.insert(at, "0129 ;()<=+-*/aX".charAt(below(16)));
                case 2 -> s.setCharAt(at, (char) below(256));
                default -> s.setLength(at);
            }
        }
        return s.toString();
    }

    private void tellText() {
        boolean isTower = once(3);
        String text = isTower ? tower() : rule();
        tell(once(2) ? spoilt(text) : text, once(20) ? below(6) - 1 : isTower ? 3 : below(3));
        floors = cars.look(0);
    }

    private int number(int n) {
        return once(25) ? ODD[below(ODD.length)] : below(n);
    }

    private void call() {
        int kind = below(40);
        int p = number(cars.look(2) + 1);
        int c = number(4);
        int f = number(floors + 1);
        int r = number(3);
        if (kind < 8) {
            int second = once(12) ? number(10000) : cars.look(3) + below(30);
            int to = number(floors);
            due("one(" + second + ", " + f + ", " + to + ")", cars.one(second, f, to), plain.one(second, f, to));
        } else if (kind < 16) {
            int n = once(20) ? number(602) : 1 + below(once(3) ? 60 : 12);
            due("seconds(" + n + ")", cars.seconds(n), plain.seconds(n));
        } else if (kind < 22) {
            callSet(c, f, r);
        } else if (kind < 24) {
            due("cost(" + p + ", " + c + ", " + r + ")", cars.cost(p, c, r), plain.cost(p, c, r));
        } else if (kind < 26) {
            int what = number(3);
            due("thought(" + r + ", " + what + ")", cars.thought(r, what), plain.thought(r, what));
        } else if (kind == 26) {
            int b = number(3);
            due("better(" + r + ", " + b + ")", cars.better(r, b), plain.better(r, b));
        } else if (kind < 29) {
            int what = once(2) ? 0 : number(18);
            due("best(" + what + ")", cars.best(what), plain.best(what));
        } else if (kind == 29) {
            int b = number(3);
            int m = floors < 5 ? number(4) : 1;
            int what = once(4) ? number(3) : 0;
            due("mornings(" + r + ", " + b + ", " + m + ", " + what + ")", cars.mornings(r, b, m, what), plain.mornings(r, b, m, what));
        } else if (kind < 33) {
            p = once(4) ? p : someoneWaiting();
            due("fun(" + p + ", " + f + ")", cars.fun(p, f), plain.fun(p, f));
        } else if (kind < 36) {
            callPlaces();
        } else if (kind == 36) {
            boolean taken = once(2);
            due("image(" + taken + ")", cars.image(taken), plain.image(taken));
            floors = cars.look(0);
        } else if (kind == 37 && once(2)) {
            tellText();
        } else {
            int what = number(150);
            due("car", cars.car(c, what), plain.car(c, what));
            due("person", cars.person(p, what % 9), plain.person(p, what % 9));
            due("look", cars.look(what), plain.look(what));
            due("sums", cars.sums(what % 6), plain.sums(what % 6));
        }
    }

    private int someoneWaiting() {
        int found = 0;
        for (int p = 0; p < cars.look(2); p++) {
            if (cars.person(p, 3) == 1 && (cars.person(found, 3) != 1 || once(3))) {
                found = p;
            }
        }
        return found;
    }

    /** A new tower with few people, some of whom wait already but are given to none. */
    private void askBest() {
        tell(tower(), 3);
        floors = cars.look(0);
        tell("never;", 0);
        due("set", cars.set(0, 0, 0), plain.set(0, 0, 0));
        for (int i = once(2) ? 1 + below(4) : 0; i > 0; i--) {
            int home = below(floors);
            due("set(2)", cars.set(2, i - 1, home), plain.set(2, i - 1, home));
        }
        int people = once(12) ? below(8) : 1 + below(small ? 6 : 4);
        for (int p = 0; p < people; p++) {
            int second = below(30);
            int from = below(floors);
            int to = below(floors);
            due("one", cars.one(second, from, to), plain.one(second, from, to));
        }
        int n = 1 + below(40);
        if (once(2)) {
            due("seconds", cars.seconds(n), plain.seconds(n));
        }
        for (int what = 9; what < 17; what++) {
            due("best(" + what + ")", cars.best(what), plain.best(what));
        }
        due("best(0)", cars.best(0), plain.best(0));
    }

    private void callSet(int c, int f, int r) {
        int what = once(3) ? 3 : number(4);
        int v = what == 0 ? r : what == 1 ? once(3) ? 1 : 0 : what == 2 ? number(floors + 1) - (once(3) ? 1 : 0) : number(101);
        int i = what == 3 ? f : c;
        due("set(" + what + ", " + i + ", " + v + ")", cars.set(what, i, v), plain.set(what, i, v));
    }

    private void callPlaces() {
        int k = floors > 30 ? number(3) : number(6);
        int what = once(2) ? 0 : number(15);
        due("places(" + k + ", " + what + ")", cars.places(k, what), plain.places(k, what));
        due("zones(" + k + ", " + what + ")", cars.zones(k, what), plain.zones(k, what));
    }

    private void compareAll() {
        for (int what = 0; what < 8; what++) {
            due("look " + what, cars.look(what), plain.look(what));
            due("sums " + what, cars.sums(what), plain.sums(what));
            for (int c = 0; c < cars.look(1); c++) {
                due("car " + c + " " + what, cars.car(c, what), plain.car(c, what));
            }
            for (int p = 0; p < cars.look(2); p++) {
                due("person " + p + " " + what, cars.person(p, what), plain.person(p, what));
            }
        }
    }

    private int go(int calls) {
        if (once(5)) {
            askBest();
        } else if (!once(10)) {
            tell(tower(), 3);
            for (int k = 0; k < 3; k++) {
                tell(once(3) ? "cost far;" : rule(), k);
            }
            floors = cars.look(0);
        }
        for (int i = 0; i < calls && wrong == 0; i++) {
            call();
            compareAll();
        }
        return wrong;
    }

    public static void main(String[] args) {
        int first = args.length > 0 ? Integer.parseInt(args[0]) : 0;
        int runs = args.length > 1 ? Integer.parseInt(args[1]) : 400;
        int wrong = 0;
        for (int run = first; run < first + runs; run++) {
            wrong += new AgainstPlainTest(run).go(120);
        }
        System.out.println(wrong == 0 ? runs + " random runs are as due" : wrong + " answers are not as due");
        if (wrong != 0) {
            System.exit(1);
        }
    }
}
