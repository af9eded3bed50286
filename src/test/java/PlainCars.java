import java.util.ArrayList;
import java.util.Arrays;
import java.util.List;
import java.util.Map;
import java.util.function.ToIntFunction;

/**
 * The document once more, as plainly as it can be told: second by second, all ways tried one by one,
 * nothing skipped. Random runs hold FourCars against it.
 */
final class PlainCars {
    static final int NONE = -1;

    private static final class Fault extends RuntimeException {
        private static final long serialVersionUID = 1L;
        final int kind;
        final int place;

        Fault(int kind, int place) {
            this.kind = kind;
            this.place = place;
        }
    }

    private static final class Person {
        int second, from, to, state, car = NONE, wait = NONE, ride = NONE;

        int way() {
            return to > from ? 1 : -1;
        }

        Person copy() {
            Person o = new Person();
            o.second = second;
            o.from = from;
            o.to = to;
            o.state = state;
            o.car = car;
            o.wait = wait;
            o.ride = ride;
            return o;
        }
    }

    private static final class Car {
        int room, speed, door, load, told;
        List<Integer> skips = new ArrayList<>();
        int floor, way, state, left, home = NONE;
        boolean out;
        List<Integer> funFloors = new ArrayList<>();

        Car copy() {
            Car o = new Car();
            o.room = room;
            o.speed = speed;
            o.door = door;
            o.load = load;
            o.told = told;
            o.skips = new ArrayList<>(skips);
            o.floor = floor;
            o.way = way;
            o.state = state;
            o.left = left;
            o.home = home;
            o.out = out;
            o.funFloors = new ArrayList<>(funFloors);
            return o;
        }

        boolean serves(Person p) {
            return !skips.contains(p.from) && !skips.contains(p.to);
        }
    }

    private record Line(ToIntFunction<Map<String, Integer>> cost, ToIntFunction<Map<String, Integer>> when) {
    }

    /** All that the image keeps. */
    private static final class All {
        int floors, towerLines, now, inForce;
        List<Car> cars = new ArrayList<>();
        List<Person> people = new ArrayList<>();
        List<List<Line>> rules = new ArrayList<>(List.of(List.of(), List.of(), List.of()));
        int[] weights = new int[0];
        int funPerson = NONE;
        int funFloor = NONE;
        int[] forced = null;

        All copy() {
            All o = new All();
            o.floors = floors;
            o.towerLines = towerLines;
            o.now = now;
            o.inForce = inForce;
            for (Car c : cars) {
                o.cars.add(c.copy());
            }
            for (Person p : people) {
                o.people.add(p.copy());
            }
            o.rules = new ArrayList<>(rules);
            o.weights = weights.clone();
            return o;
        }

        long count(int state) {
            return people.stream().filter(p -> p.state == state).count();
        }

        boolean allThere() {
            return count(3) == people.size();
        }

        int over() {
            return people.stream().mapToInt(p -> p.wait + p.ride).sum();
        }

        Integer cost(Person p, int c, int rule) {
            Car car = cars.get(c);
            boolean sameWay = car.way != 0 && car.way == p.way();
            boolean behind = p.way() == 1 ? p.from < car.floor : p.from > car.floor;
            Map<String, Integer> facts = Map.of(
                "far", Math.abs(car.floor - p.from),
                "same", sameWay && !behind ? 1 : 0,
                "against", car.way != 0 && car.way != p.way() ? 1 : 0,
                "load", (int) people.stream().filter(q -> q.state == 2 && q.car == c).count(),
                "given", (int) people.stream().filter(q -> q.state == 1 && q.car == c).count(),
                "idle", car.state == 0 ? 1 : 0,
                "up", p.way() == 1 ? 1 : 0,
                "floor", p.from,
                "waits", now - p.second,
                "car", c);
            for (Line line : rules.get(rule)) {
                if (line.when == null || line.when.applyAsInt(facts) == 1) {
                    return line.cost == null ? null : line.cost.applyAsInt(facts);
                }
            }
            return 0;
        }

        void second() {
            for (Person p : people) {
                if (p.state == 0 && p.second == now) {
                    p.state = 1;
                }
            }
            for (int i = 0; i < people.size(); i++) {
                Person p = people.get(i);
                if (p.state == 1 && p.car == NONE) {
                    p.car = forced != null ? forced[i] : choose(p);
                }
            }
            for (int c = 0; c < cars.size(); c++) {
                Car car = cars.get(c);
                if (car.out) {
                    continue;
                }
                if (car.state != 0) {
                    car.left--;
                    if (car.left > 0) {
                        continue;
                    }
                    if (car.state == 1) {
                        car.floor += car.way;
                    }
                }
                looks(c);
            }
            now++;
        }

        int choose(Person p) {
            int best = NONE;
            int least = 0;
            for (int c = 0; c < cars.size(); c++) {
                if (cars.get(c).out || !cars.get(c).serves(p)) {
                    continue;
                }
                Integer cost = cost(p, c, inForce);
                if (cost != null && (best == NONE || cost < least)) {
                    best = c;
                    least = cost;
                }
            }
            return best;
        }

        void looks(int c) {
            Car car = cars.get(c);
            int moved = 0;
            for (Person p : people) {
                if (p.state == 2 && p.car == c && p.to == car.floor) {
                    p.state = 3;
                    p.ride = now - p.second - p.wait;
                    moved++;
                }
            }
            List<Integer> targets = new ArrayList<>(car.funFloors);
            Person firstHere = null;
            for (Person p : people) {
                if (p.car == c && p.state == 2) {
                    targets.add(p.to);
                }
                if (p.car == c && p.state == 1) {
                    targets.add(p.from);
                    if (p.from == car.floor && firstHere == null) {
                        firstHere = p;
                    }
                }
            }
            boolean ahead = targets.stream().anyMatch(t -> (t - car.floor) * car.way > 0);
            if (!ahead) {
                int nearest = NONE;
                for (int d = 1; d < 80 && nearest == NONE; d++) {
                    if (targets.contains(car.floor + d)) {
                        nearest = car.floor + d;
                    } else if (targets.contains(car.floor - d)) {
                        nearest = car.floor - d;
                    }
                }
                if (firstHere != null) {
                    car.way = firstHere.way();
                } else if (nearest != NONE) {
                    car.way = nearest > car.floor ? 1 : -1;
                } else if (car.home != NONE && car.home != car.floor) {
                    car.way = car.home > car.floor ? 1 : -1;
                } else {
                    car.way = 0;
                }
            }
            for (int i = 0; i < people.size(); i++) {
                Person p = people.get(i);
                long riding = people.stream().filter(q -> q.state == 2 && q.car == c).count();
                if (p.car == c && p.state == 1 && p.from == car.floor && p.way() == car.way && riding < car.room) {
                    p.state = 2;
                    p.wait = now - p.second;
                    moved++;
                    if (i == funPerson) {
                        car.funFloors.add(funFloor);
                    }
                }
            }
            boolean fun = car.funFloors.remove((Integer) car.floor);
            if (moved > 0 || fun) {
                car.state = 2;
                car.left = car.door + car.load * moved;
            } else if (car.way != 0) {
                car.state = 1;
                car.left = car.speed;
            } else {
                car.state = 0;
                car.left = 0;
            }
        }

        int toTheEnd(int limit) {
            for (int s = 0; s <= limit; s++) {
                if (allThere()) {
                    return s;
                }
                if (s < limit) {
                    second();
                }
            }
            return NONE;
        }
    }

    private static final class Reader {
        final String text;
        final boolean rule;
        int at = 0;
        String token;
        int place;

        Reader(String text, boolean rule) {
            this.text = text;
            this.rule = rule;
            next();
        }

        void next() {
            while (at < text.length() && (text.charAt(at) == ' ' || text.charAt(at) == '\n')) {
                at++;
            }
            place = at;
            if (at == text.length()) {
                token = "";
                return;
            }
            String rest = text.substring(at);
            for (String form : new String[] {"[A-Za-z]+", "[0-9]+", "(?s)."}) {
                var m = java.util.regex.Pattern.compile(form).matcher(rest);
                if (m.lookingAt()) {
                    token = m.group();
                    at += token.length();
                    break;
                }
            }
        }

        Fault bad(int kind) {
            return new Fault(kind, place);
        }

        boolean is(String... wanted) {
            return Arrays.asList(wanted).contains(token);
        }

        void take(String wanted) {
            if (!is(wanted)) {
                throw bad(1);
            }
            next();
        }

        int number(int low, int high) {
            if (!token.matches("[0-9]{1,4}")) {
                throw bad(1);
            }
            int n = Integer.parseInt(token);
            if (n < low || n > high) {
                throw bad(2);
            }
            next();
            return n;
        }

        ToIntFunction<Map<String, Integer>> unit() {
            if (token.matches("[0-9]+")) {
                int n = number(0, 9999);
                return f -> n;
            }
            if (!is("far", "same", "against", "load", "given", "idle", "up", "floor", "waits", "car")) {
                throw bad(1);
            }
            String name = token;
            next();
            return f -> f.get(name);
        }

        ToIntFunction<Map<String, Integer>> term() {
            ToIntFunction<Map<String, Integer>> left = unit();
            while (is("*", "/")) {
                boolean times = is("*");
                next();
                ToIntFunction<Map<String, Integer>> l = left;
                if (times) {
                    ToIntFunction<Map<String, Integer>> r = unit();
                    left = f -> l.applyAsInt(f) * r.applyAsInt(f);
                } else {
                    int n = number(1, 9999);
                    left = f -> l.applyAsInt(f) / n;
                }
            }
            return left;
        }

        ToIntFunction<Map<String, Integer>> sum() {
            ToIntFunction<Map<String, Integer>> left = term();
            while (is("+", "-")) {
                int sign = is("+") ? 1 : -1;
                next();
                ToIntFunction<Map<String, Integer>> l = left;
                ToIntFunction<Map<String, Integer>> r = term();
                left = f -> l.applyAsInt(f) + sign * r.applyAsInt(f);
            }
            return left;
        }

        ToIntFunction<Map<String, Integer>> or(int open) {
            ToIntFunction<Map<String, Integer>> left = and(open);
            while (is("or")) {
                next();
                ToIntFunction<Map<String, Integer>> l = left;
                ToIntFunction<Map<String, Integer>> r = and(open);
                left = f -> l.applyAsInt(f) == 1 || r.applyAsInt(f) == 1 ? 1 : 0;
            }
            return left;
        }

        ToIntFunction<Map<String, Integer>> and(int open) {
            ToIntFunction<Map<String, Integer>> left = test(open);
            while (is("and")) {
                next();
                ToIntFunction<Map<String, Integer>> l = left;
                ToIntFunction<Map<String, Integer>> r = test(open);
                left = f -> l.applyAsInt(f) == 1 && r.applyAsInt(f) == 1 ? 1 : 0;
            }
            return left;
        }

        ToIntFunction<Map<String, Integer>> test(int open) {
            if (is("not", "(") && open == 8) {
                throw bad(3);
            }
            if (is("not")) {
                next();
                ToIntFunction<Map<String, Integer>> t = test(open + 1);
                return f -> t.applyAsInt(f) == 1 ? 0 : 1;
            }
            if (is("(")) {
                next();
                ToIntFunction<Map<String, Integer>> t = or(open + 1);
                take(")");
                return t;
            }
            ToIntFunction<Map<String, Integer>> l = sum();
            String sign = token;
            if (!is("<", "=", ">")) {
                throw bad(1);
            }
            next();
            ToIntFunction<Map<String, Integer>> r = sum();
            return f -> {
                int order = Integer.compare(l.applyAsInt(f), r.applyAsInt(f));
                return order == (sign.equals("<") ? -1 : sign.equals("=") ? 0 : 1) ? 1 : 0;
            };
        }

        List<Line> rule() {
            List<Line> lines = new ArrayList<>();
            while (!token.isEmpty()) {
                if (!is("cost", "never")) {
                    throw bad(1);
                }
                if (lines.size() == 16) {
                    throw bad(3);
                }
                boolean never = is("never");
                next();
                ToIntFunction<Map<String, Integer>> cost = never ? null : sum();
                ToIntFunction<Map<String, Integer>> when = null;
                if (is("when")) {
                    next();
                    when = or(0);
                }
                take(";");
                lines.add(new Line(cost, when));
            }
            return lines;
        }

        All tower() {
            All all = new All();
            while (!token.isEmpty()) {
                if (!is("floors", "car", "skip") || is("floors") == all.floors > 0) {
                    throw bad(1);
                }
                if (all.towerLines == 40 || is("car") && all.cars.size() == 4) {
                    throw bad(3);
                }
                String word = token;
                next();
                if (word.equals("floors")) {
                    all.floors = number(2, 80);
                } else if (word.equals("car")) {
                    Car car = new Car();
                    car.room = number(1, 12);
                    car.speed = number(1, 9);
                    car.door = number(1, 9);
                    car.load = number(0, 9);
                    car.told = number(0, all.floors - 1);
                    car.floor = car.told;
                    all.cars.add(car);
                } else {
                    int c = number(0, all.cars.size() - 1);
                    all.cars.get(c).skips.add(number(0, all.floors - 1));
                }
                take(";");
                all.towerLines++;
            }
            return all;
        }
    }

    private final StringBuilder tape = new StringBuilder();
    private All all = new All();
    private All image = null;
    private int faultKind = 0;
    private int faultPlace = NONE;

    int feed(int a, int b, int c, int d, int e) {
        if (tape.length() > 380) {
            return NONE;
        }
        for (int n : new int[] {a, b, c, d, e}) {
            tape.append((char) (n >>> 24)).append((char) (n >> 16 & 255)).append((char) (n >> 8 & 255)).append((char) (n & 255));
        }
        return tape.length();
    }

    boolean end(int n) {
        if (n < 0 || n > tape.length()) {
            return false;
        }
        tape.setLength(n);
        return true;
    }

    int text(int k) {
        String t = tape.toString();
        tape.setLength(0);
        faultKind = 0;
        faultPlace = NONE;
        if (k < 0 || k > 3) {
            return NONE;
        }
        try {
            if (k < 3) {
                List<Line> rule = new Reader(t, true).rule();
                all.rules.set(k, rule);
                return rule.size();
            }
            All fresh = new Reader(t, false).tower();
            fresh.rules = all.rules;
            fresh.inForce = all.inForce;
            fresh.weights = new int[fresh.floors];
            Arrays.fill(fresh.weights, 1);
            all = fresh;
            return fresh.towerLines;
        } catch (Fault f) {
            faultKind = f.kind;
            faultPlace = f.place;
            return NONE;
        }
    }

    int fault(int what) {
        return what == 0 ? faultKind : what == 1 ? faultPlace : NONE;
    }

    private boolean floor(int f) {
        return f >= 0 && f < all.floors;
    }

    private boolean isCar(int c) {
        return c >= 0 && c < all.cars.size();
    }

    private boolean isPerson(int p) {
        return p >= 0 && p < all.people.size();
    }

    private static boolean rule(int r) {
        return r >= 0 && r <= 2;
    }

    int one(int second, int from, int to) {
        if (second < all.now || second > 9999 || !floor(from) || !floor(to) || from == to || all.people.size() == 60) {
            return NONE;
        }
        Person p = new Person();
        p.second = second;
        p.from = from;
        p.to = to;
        all.people.add(p);
        return all.people.size() - 1;
    }

    boolean set(int what, int i, int v) {
        if (what == 0 && rule(v)) {
            all.inForce = v;
            return true;
        }
        if (what == 1 && isCar(i) && (v == 0 || v == 1)) {
            Car car = all.cars.get(i);
            car.out = v == 1;
            if (v == 1) {
                car.state = 0;
                car.left = 0;
                car.way = 0;
                for (Person p : all.people) {
                    if (p.state == 1 && p.car == i) {
                        p.car = NONE;
                    }
                }
            }
            return true;
        }
        if (what == 2 && isCar(i) && (v == NONE || floor(v))) {
            all.cars.get(i).home = v;
            return true;
        }
        if (what == 3 && floor(i) && v >= 0 && v <= 99) {
            all.weights[i] = v;
            return true;
        }
        return false;
    }

    int seconds(int n) {
        if (n < 1 || n > 600 || all.now + n > 19999) {
            return NONE;
        }
        long before = all.count(3);
        for (int i = 0; i < n; i++) {
            all.second();
        }
        return (int) (all.count(3) - before);
    }

    int car(int c, int what) {
        if (!isCar(c)) {
            return -2;
        }
        Car car = all.cars.get(c);
        if (what >= 100 && floor(what - 100)) {
            return car.skips.contains(what - 100) ? 0 : 1;
        }
        return switch (what) {
            case 0 -> car.floor;
            case 1 -> car.way;
            case 2 -> car.state;
            case 3 -> car.left;
            case 4 -> (int) all.people.stream().filter(p -> p.state == 2 && p.car == c).count();
            case 5 -> (int) all.people.stream().filter(p -> p.state == 1 && p.car == c).count();
            case 6 -> car.out ? 1 : 0;
            case 7 -> car.home;
            case 8 -> car.room;
            case 9 -> car.speed;
            case 10 -> car.door;
            case 11 -> car.load;
            default -> -2;
        };
    }

    int person(int p, int what) {
        if (!isPerson(p)) {
            return -2;
        }
        Person q = all.people.get(p);
        return switch (what) {
            case 0 -> q.second;
            case 1 -> q.from;
            case 2 -> q.to;
            case 3 -> q.state;
            case 4 -> q.car;
            case 5 -> q.wait;
            case 6 -> q.ride;
            default -> -2;
        };
    }

    int cost(int p, int c, int rule) {
        if (!isPerson(p) || !isCar(c) || !rule(rule) || all.people.get(p).state != 1) {
            return -100000000;
        }
        Integer cost = all.cost(all.people.get(p), c, rule);
        return cost == null ? -100000000 : cost;
    }

    int sums(int what) {
        return switch (what) {
            case 0 -> all.people.stream().filter(p -> p.state >= 2).mapToInt(p -> p.wait).sum();
            case 1 -> all.people.stream().filter(p -> p.state == 3).mapToInt(p -> p.ride).sum();
            case 2 -> all.people.stream().filter(p -> p.state >= 2).mapToInt(p -> p.wait).max().orElse(0);
            case 3 -> (int) all.count(3);
            default -> NONE;
        };
    }

    int thought(int rule, int what) {
        if (!rule(rule) || what < 0 || what > 2) {
            return NONE;
        }
        All idea = all.copy();
        idea.inForce = rule;
        int gone = idea.toTheEnd(3000);
        if (gone == NONE || what == 2) {
            return gone;
        }
        return what == 0 ? idea.over() : idea.people.stream().mapToInt(p -> p.wait + p.ride).max().orElse(0);
    }

    int better(int a, int b) {
        if (!rule(a) || !rule(b)) {
            return NONE;
        }
        int overA = thought(a, 0);
        int overB = thought(b, 0);
        if (overA == overB) {
            return Math.min(a, b);
        }
        if (overA == NONE || overB == NONE) {
            return overA == NONE ? b : a;
        }
        return overA < overB ? a : b;
    }

    int best(int what) {
        int n = all.people.size();
        if (n < 1 || n > 6 || all.cars.isEmpty() || all.cars.size() > 3) {
            return NONE;
        }
        if (all.cars.stream().anyMatch(c -> c.out) || all.people.stream().anyMatch(p -> p.state > 1 || p.car != NONE)) {
            return NONE;
        }
        if (what != 0 && (what < 10 || what > 9 + n)) {
            return NONE;
        }
        int least = NONE;
        int[] found = null;
        int[] way = new int[n];
        for (boolean more = true; more;) {
            int over = overOfWay(way);
            if (over != NONE && (least == NONE || over < least)) {
                least = over;
                found = way.clone();
            }
            int p = n - 1;
            while (p >= 0 && way[p] == all.cars.size() - 1) {
                way[p] = 0;
                p--;
            }
            more = p >= 0;
            if (more) {
                way[p]++;
            }
        }
        return found == null ? NONE : what == 0 ? least : found[what - 10];
    }

    private int overOfWay(int[] way) {
        for (int p = 0; p < way.length; p++) {
            if (!all.cars.get(way[p]).serves(all.people.get(p))) {
                return NONE;
            }
        }
        All idea = all.copy();
        idea.forced = way;
        return idea.toTheEnd(3000) == NONE ? NONE : idea.over();
    }

    int mornings(int a, int b, int m, int what) {
        if (!rule(a) || !rule(b) || m < 1 || m > 2 || what < 0 || what > 1 || all.floors < 2 || all.floors > 8) {
            return NONE;
        }
        List<int[]> calls = new ArrayList<>();
        for (int from = 0; from < all.floors; from++) {
            for (int to = 0; to < all.floors; to++) {
                if (from != to) {
                    calls.add(new int[] {from, to});
                }
            }
        }
        int number = 0;
        for (int[] first : calls) {
            if (m == 1) {
                if (what == 0 && over(a, first) > over(b, first)) {
                    return number;
                }
                number++;
                continue;
            }
            for (int[] second : calls) {
                if (what == 0 && over(a, first, second) > over(b, first, second)) {
                    return number;
                }
                number++;
            }
        }
        return what == 1 ? number : NONE;
    }

    private int over(int rule, int[]... calls) {
        All idea = all.copy();
        idea.inForce = rule;
        idea.now = 0;
        idea.people.clear();
        for (int[] call : calls) {
            Person p = new Person();
            p.from = call[0];
            p.to = call[1];
            idea.people.add(p);
        }
        for (Car c : idea.cars) {
            c.floor = c.told;
            c.way = 0;
            c.state = 0;
            c.left = 0;
            c.home = NONE;
            c.out = false;
        }
        return idea.toTheEnd(1000) == NONE ? 999999 : idea.over();
    }

    int fun(int p, int floor) {
        if (!isPerson(p) || all.people.get(p).state != 1 || !floor(floor)) {
            return -100000;
        }
        Person q = all.people.get(p);
        if (floor == q.from || floor == q.to) {
            return -100000;
        }
        int[] over = new int[2];
        for (int i = 0; i < 2; i++) {
            All idea = all.copy();
            if (i == 1) {
                idea.funPerson = p;
                idea.funFloor = floor;
            }
            if (idea.toTheEnd(3000) == NONE) {
                return -100000;
            }
            over[i] = idea.over() - idea.people.get(p).wait - idea.people.get(p).ride;
        }
        return over[1] - over[0];
    }

    private interface Sum {
        int of(int[] points);
    }

    private static int[] least(int low, int high, int k, Sum sum) {
        int[] points = new int[k];
        for (int i = 0; i < k; i++) {
            points[i] = low + i;
        }
        int[] found = null;
        int least = 0;
        while (true) {
            int here = sum.of(points);
            if (found == null || here < least) {
                least = here;
                found = points.clone();
            }
            int i = k - 1;
            while (i >= 0 && points[i] == high - (k - 1 - i)) {
                i--;
            }
            if (i < 0) {
                return found;
            }
            points[i]++;
            for (int j = i + 1; j < k; j++) {
                points[j] = points[j - 1] + 1;
            }
        }
    }

    int places(int k, int what) {
        if (k < 1 || k > 4 || k > all.floors || what != 0 && (what < 10 || what > 9 + k)) {
            return NONE;
        }
        Sum sum = points -> {
            int added = 0;
            for (int f = 0; f < all.floors; f++) {
                int near = 999;
                for (int p : points) {
                    near = Math.min(near, Math.abs(p - f));
                }
                added += near * all.weights[f];
            }
            return added;
        };
        int[] found = least(0, all.floors - 1, k, sum);
        return what == 0 ? sum.of(found) : found[what - 10];
    }

    int zones(int k, int what) {
        if (k < 1 || k > 3 || all.floors < k + 2 || all.cars.isEmpty() || what != 0 && (what < 10 || what > 9 + k)) {
            return NONE;
        }
        Sum sum = cuts -> {
            int added = 0;
            for (int z = 0; z <= cuts.length; z++) {
                int a = z == 0 ? 1 : cuts[z - 1];
                int b = z == cuts.length ? all.floors - 1 : cuts[z] - 1;
                int round = 2 * b * all.cars.get(0).speed + (b - a + 1) * all.cars.get(0).door;
                for (int f = a; f <= b; f++) {
                    added += all.weights[f] * round;
                }
            }
            return added;
        };
        int[] found = least(2, all.floors - 1, k, sum);
        return what == 0 ? sum.of(found) : found[what - 10];
    }

    boolean image(boolean taken) {
        if (taken) {
            image = all.copy();
        } else if (image != null) {
            all = image.copy();
        }
        return image != null;
    }

    int look(int what) {
        if (what >= 10 && what <= 12) {
            return all.rules.get(what - 10).size();
        }
        if (what >= 100 && floor(what - 100)) {
            return all.weights[what - 100];
        }
        return switch (what) {
            case 0 -> all.floors;
            case 1 -> all.cars.size();
            case 2 -> all.people.size();
            case 3 -> all.now;
            case 4 -> all.inForce;
            case 5 -> (int) all.count(1);
            case 6 -> (int) all.count(2);
            case 13 -> all.towerLines;
            default -> NONE;
        };
    }
}
