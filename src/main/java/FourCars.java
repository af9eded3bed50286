/**
 * A tower of lifts: its people, its cars, and the rules that give a call to a car.
 * What each method promises stands in the document that README.md names.
 */
public final class FourCars {
    public static final int NONE = -1;

    private static final int NO_SUCH = NONE - 1;
    private static final int NO_COST = NONE - 99999999;
    private static final int NO_FUN = NONE - 99999;
    private static final int NO_END = 999999;
    private static final int BEYOND_ALL = 0x7fffffff;

    private static final int RULES = 3;
    private static final int TOWER_TEXT = 3;
    private static final int MOST_BYTES = 400;
    private static final int MOST_FLOORS = 80;
    private static final int MOST_CARS = 4;
    private static final int MOST_PEOPLE = 60;

    private static final int LAST_COMING = 9999;
    private static final int LAST_NOW = 19999;
    private static final int MOST_SECONDS = 600;
    private static final int THOUGHT_SECONDS = 3000;
    private static final int MORNING_SECONDS = 1000;
    private static final int MORNING_FLOORS = 8;

    private static final int BEST_PEOPLE = 6;
    private static final int BEST_CARS = 3;
    private static final int GROUPS = 1 << BEST_PEOPLE;

    private final byte[] tape = new byte[MOST_BYTES];
    private int tapeLength = 0;
    private final Tokens tokens = new Tokens();
    private final Rule spareRule = new Rule();
    private final Tower spareTower = new Tower();
    private final World world = new World();
    private final World kept = new World();
    private boolean isKept = false;
    private final Scene idea = new Scene(world.tower);
    private final int[] groupOver = new int[BEST_CARS * GROUPS];
    private final int[] groupOf = new int[BEST_CARS];
    private final Gaps gaps = new Gaps();
    private final Parts parts = new Parts();

    public FourCars() {
    }

    public int feed(int a, int b, int c, int d, int e) {
        if (tapeLength + 20 > MOST_BYTES) {
            return NONE;
        }
        putBytes(a);
        putBytes(b);
        putBytes(c);
        putBytes(d);
        putBytes(e);
        return tapeLength;
    }

    private void putBytes(int number) {
        for (int shift = 24; shift >= 0; shift -= 8) {
            tape[tapeLength] = (byte) (number >> shift);
            tapeLength++;
        }
    }

    public boolean end(int n) {
        if (n < 0 || n > tapeLength) {
            return false;
        }
        tapeLength = n;
        return true;
    }

    public int text(int k) {
        int length = tapeLength;
        tapeLength = 0;
        tokens.faultKind = 0;
        tokens.faultPlace = NONE;
        if (k < 0 || k > TOWER_TEXT) {
            return NONE;
        }
        tokens.scan(tape, length);
        if (k == TOWER_TEXT) {
            return spareTower.read(tokens) ? takeTower() : NONE;
        }
        return spareRule.read(tokens) ? takeRule(k) : NONE;
    }

    private int takeRule(int k) {
        world.rules[k].become(spareRule);
        return spareRule.lines;
    }

    private int takeTower() {
        world.tower.become(spareTower);
        world.begin();
        return spareTower.lines;
    }

    public int fault(int what) {
        if (what == 0) {
            return tokens.faultKind;
        }
        return what == 1 ? tokens.faultPlace : NONE;
    }

    public int one(int second, int from, int to) {
        People people = world.scene.people;
        if (second < world.scene.now || second > LAST_COMING || people.count >= MOST_PEOPLE) {
            return NONE;
        }
        if (!world.tower.hasFloor(from) || !world.tower.hasFloor(to) || from == to) {
            return NONE;
        }
        people.add(second, from, to);
        return people.count - 1;
    }

    public boolean set(int what, int i, int v) {
        switch (what) {
            case 0:
                return putInForce(v);
            case 1:
                return putOut(i, v);
            case 2:
                return putHome(i, v);
            case 3:
                return putWeight(i, v);
            default:
                return false;
        }
    }

    private boolean putInForce(int rule) {
        if (!isRule(rule)) {
            return false;
        }
        world.inForce = rule;
        return true;
    }

    private boolean putOut(int c, int v) {
        if (!world.tower.hasCar(c) || v < 0 || v > 1) {
            return false;
        }
        // a car that is in order already must not lose its way by being set right
        if (v == 1) {
            world.scene.takeOut(c);
        } else {
            world.scene.cars.out[c] = false;
        }
        return true;
    }

    private boolean putHome(int c, int floor) {
        if (!world.tower.hasCar(c) || floor != NONE && !world.tower.hasFloor(floor)) {
            return false;
        }
        world.scene.cars.home[c] = floor;
        return true;
    }

    private boolean putWeight(int floor, int weight) {
        if (!world.tower.hasFloor(floor) || weight < 0 || weight > 99) {
            return false;
        }
        world.weights[floor] = weight;
        return true;
    }

    private static boolean isRule(int rule) {
        return rule >= 0 && rule < RULES;
    }

    public int seconds(int n) {
        if (n < 1 || n > MOST_SECONDS || world.scene.now + n > LAST_NOW) {
            return NONE;
        }
        int before = world.scene.people.there;
        world.scene.pass(world.rules[world.inForce], n);
        return world.scene.people.there - before;
    }

    public int car(int c, int what) {
        if (!world.tower.hasCar(c)) {
            return NO_SUCH;
        }
        if (what >= 0 && what <= 7) {
            return world.scene.cars.tell(c, what);
        }
        if (what >= 8 && what <= 11) {
            return world.tower.tell(c, what);
        }
        if (what >= 100 && world.tower.hasFloor(what - 100)) {
            return world.tower.serves(c, what - 100) ? 1 : 0;
        }
        return NO_SUCH;
    }

    public int person(int p, int what) {
        People people = world.scene.people;
        return people.has(p) ? people.tell(p, what) : NO_SUCH;
    }

    public int cost(int p, int c, int rule) {
        Scene scene = world.scene;
        if (!scene.people.waits(p) || !world.tower.hasCar(c) || !isRule(rule)) {
            return NO_COST;
        }
        scene.gather(p, c);
        return world.rules[rule].allows(scene.facts) ? world.rules[rule].price : NO_COST;
    }

    public int sums(int what) {
        People people = world.scene.people;
        switch (what) {
            case 0:
                return people.waitAdded();
            case 1:
                return people.rideAdded();
            case 2:
                return people.greatestWait();
            case 3:
                return people.there;
            default:
                return NONE;
        }
    }

    public int thought(int rule, int what) {
        if (!isRule(rule) || what < 0 || what > 2) {
            return NONE;
        }
        int gone = think(rule);
        if (gone == NONE || what == 2) {
            return gone;
        }
        return what == 0 ? idea.people.overAdded() : idea.people.greatestOver();
    }

    /** All that is goes on in the idea to the end: the seconds it took, or NONE. */
    private int think(int rule) {
        idea.become(world.scene);
        return idea.toTheEnd(world.rules[rule], THOUGHT_SECONDS);
    }

    public int better(int a, int b) {
        if (!isRule(a) || !isRule(b)) {
            return NONE;
        }
        int lesser = Math.min(a, b);
        int greater = Math.max(a, b);
        return overOf(greater) < overOf(lesser) ? greater : lesser;
    }

    private int overOf(int rule) {
        return think(rule) == NONE ? BEYOND_ALL : idea.people.overAdded();
    }

    public int best(int what) {
        int count = world.scene.people.count;
        if (what != 0 && (what < 10 || what - 10 >= count) || !hasBest()) {
            return NONE;
        }
        int carCount = world.tower.cars;
        weighGroups(count, carCount);
        int way = bestWay(count, carCount);
        if (way == NONE) {
            return NONE;
        }
        return what == 0 ? overOfWay(way, count, carCount) : carInWay(way, what - 10, count, carCount);
    }

    private boolean hasBest() {
        People people = world.scene.people;
        if (people.count < 1 || people.count > BEST_PEOPLE || people.coming + people.loose != people.count) {
            return false;
        }
        if (world.tower.cars < 1 || world.tower.cars > BEST_CARS) {
            return false;
        }
        for (int c = 0; c < world.tower.cars; c++) {
            if (world.scene.cars.out[c]) {
                return false;
            }
        }
        return true;
    }

    /** Cars do not touch each other once all is given: so each group of people is weighed with each car alone. */
    private void weighGroups(int count, int carCount) {
        for (int c = 0; c < carCount; c++) {
            groupOver[c * GROUPS] = 0;
            for (int group = 1; group < 1 << count; group++) {
                groupOver[c * GROUPS + group] = weighGroup(c, group);
            }
        }
    }

    private int weighGroup(int c, int group) {
        if (!servesGroup(c, group)) {
            return NONE;
        }
        idea.becomePart(world.scene, c, group);
        // with one car in order every rule that bars nothing gives all calls to it: one without lines will do
        spareRule.clear();
        int gone = idea.toTheEnd(spareRule, THOUGHT_SECONDS);
        return gone == NONE ? NONE : idea.people.overAdded();
    }

    private boolean servesGroup(int c, int group) {
        People people = world.scene.people;
        for (int p = 0; p < people.count; p++) {
            if ((group >> p & 1) == 1 && !world.tower.servesBoth(c, people.from[p], people.to[p])) {
                return false;
            }
        }
        return true;
    }

    /** A way is a number whose digits are the cars of the people, the first one's digit the highest. */
    private int bestWay(int count, int carCount) {
        int ways = 1;
        for (int p = 0; p < count; p++) {
            ways *= carCount;
        }
        int found = NONE;
        int least = 0;
        for (int way = 0; way < ways; way++) {
            int over = overOfWay(way, count, carCount);
            if (over != NONE && (found == NONE || over < least)) {
                found = way;
                least = over;
            }
        }
        return found;
    }

    private int overOfWay(int way, int count, int carCount) {
        for (int c = 0; c < carCount; c++) {
            groupOf[c] = 0;
        }
        int rest = way;
        for (int p = count - 1; p >= 0; p--) {
            groupOf[rest % carCount] |= 1 << p;
            rest /= carCount;
        }
        int over = 0;
        for (int c = 0; c < carCount; c++) {
            int part = groupOver[c * GROUPS + groupOf[c]];
            if (part == NONE) {
                return NONE;
            }
            over += part;
        }
        return over;
    }

    private static int carInWay(int way, int p, int count, int carCount) {
        int rest = way;
        for (int behind = count - 1; behind > p; behind--) {
            rest /= carCount;
        }
        return rest % carCount;
    }

    public int mornings(int a, int b, int m, int what) {
        if (!isRule(a) || !isRule(b) || m < 1 || m > 2 || what < 0 || what > 1 || !hasMornings()) {
            return NONE;
        }
        int calls = world.tower.floors * (world.tower.floors - 1);
        int count = m == 1 ? calls : calls * calls;
        if (what == 1) {
            return count;
        }
        for (int number = 0; number < count && a != b; number++) {
            if (isWorse(a, b, m, number)) {
                return number;
            }
        }
        return NONE;
    }

    /** Without floors there is no call that a morning could be made of. */
    private boolean hasMornings() {
        return world.tower.floors > 0 && world.tower.floors <= MORNING_FLOORS;
    }

    private boolean isWorse(int a, int b, int m, int number) {
        int givenByA = firstGiving(a, m, number);
        int givenByB = firstGiving(b, m, number);
        // once all calls are given alike the rules have no more to say
        if (givenByA != NONE && givenByA == givenByB) {
            return false;
        }
        return overOfMorning(a, m, number) > overOfMorning(b, m, number);
    }

    /** How a rule gives the calls of a morning in its first second, as one number; NONE if it leaves one. */
    private int firstGiving(int rule, int m, int number) {
        beginMorning(m, number);
        idea.goOn(world.rules[rule]);
        if (idea.people.loose > 0) {
            return NONE;
        }
        int giving = 0;
        for (int p = 0; p < m; p++) {
            giving = giving * MOST_CARS + idea.people.by[p];
        }
        return giving;
    }

    private int overOfMorning(int rule, int m, int number) {
        beginMorning(m, number);
        int gone = idea.toTheEnd(world.rules[rule], MORNING_SECONDS);
        return gone == NONE ? NO_END : idea.people.overAdded();
    }

    private void beginMorning(int m, int number) {
        int others = world.tower.floors - 1;
        int calls = (others + 1) * others;
        idea.begin();
        if (calls < 1) {
            return;
        }
        if (m == 2) {
            addCall(number / calls, others);
        }
        addCall(number % calls, others);
    }

    private void addCall(int call, int others) {
        int from = call / others;
        int to = call % others;
        idea.people.add(0, from, to < from ? to : to + 1);
    }

    public int fun(int p, int floor) {
        People people = world.scene.people;
        if (!people.waits(p) || !world.tower.hasFloor(floor) || floor == people.from[p] || floor == people.to[p]) {
            return NO_FUN;
        }
        if (think(world.inForce) == NONE) {
            return NO_FUN;
        }
        int without = idea.people.overAdded() - idea.people.overOf(p);
        idea.become(world.scene);
        idea.funPerson = p;
        idea.funFloor = floor;
        if (idea.toTheEnd(world.rules[world.inForce], THOUGHT_SECONDS) == NONE) {
            return NO_FUN;
        }
        return idea.people.overAdded() - idea.people.overOf(p) - without;
    }

    public int places(int k, int what) {
        if (k < 1 || k > Chain.MOST_POINTS || k > world.tower.floors || !asksChain(k, what)) {
            return NONE;
        }
        gaps.weigh(world.weights, world.tower.floors);
        int sum = gaps.solve(0, k);
        return what == 0 ? sum : gaps.points[what - 10];
    }

    public int zones(int k, int what) {
        Tower tower = world.tower;
        if (k < 1 || k > 3 || tower.floors < k + 2 || tower.cars < 1 || !asksChain(k, what)) {
            return NONE;
        }
        parts.weigh(world.weights, tower.floors);
        parts.speed = tower.speed[0];
        parts.door = tower.door[0];
        int sum = parts.solve(2, k);
        return what == 0 ? sum : parts.points[what - 10];
    }

    private static boolean asksChain(int k, int what) {
        return what == 0 || what >= 10 && what - 10 < k;
    }

    public boolean image(boolean taken) {
        if (taken) {
            kept.become(world);
            isKept = true;
        } else if (isKept) {
            world.become(kept);
        }
        return isKept;
    }

    public int look(int what) {
        switch (what) {
            case 0:
                return world.tower.floors;
            case 1:
                return world.tower.cars;
            case 2:
                return world.scene.people.count;
            case 3:
                return world.scene.now;
            case 4:
                return world.inForce;
            case 5:
                return world.scene.people.howMany(People.WAITS);
            case 6:
                return world.scene.people.howMany(People.RIDES);
            default:
                return lookFurther(what);
        }
    }

    private int lookFurther(int what) {
        if (what >= 10 && what < 10 + RULES) {
            return world.rules[what - 10].lines;
        }
        if (what == 10 + TOWER_TEXT) {
            return world.tower.lines;
        }
        if (what >= 100 && world.tower.hasFloor(what - 100)) {
            return world.weights[what - 100];
        }
        return NONE;
    }

    /** A text cut into tokens, the one that is read now, and the fault of the text. */
    private static final class Tokens {
        static final int END = 0;
        static final int NUMBER = 1;
        static final int BAD = 2;
        // all other signs are their own kind; words come behind all signs, in this order
        static final String WORDS =
            "cost never when or and not far same against load given idle up floor waits car floors skip ";
        static final int COST = 256;
        static final int NEVER = 257;
        static final int WHEN = 258;
        static final int OR = 259;
        static final int AND = 260;
        static final int NOT = 261;
        static final int FAR = 262;
        static final int WAITS = 270;
        static final int CAR = 271;
        static final int FLOORS = 272;
        static final int SKIP = 273;

        static final int CANNOT_STAND = 1;
        static final int BEYOND = 2;
        static final int TOO_MANY = 3;

        private final int[] kinds = new int[MOST_BYTES + 1];
        private final int[] values = new int[MOST_BYTES + 1];
        private final int[] starts = new int[MOST_BYTES + 1];
        private int count = 0;
        private int at = 0;
        int kind = END;
        int value = 0;
        int faultKind = 0;
        int faultPlace = NONE;

        void scan(byte[] bytes, int length) {
            count = 0;
            for (int i = 0; i < length; i++) {
                if (bytes[i] != ' ' && bytes[i] != '\n') {
                    i = Math.max(i, scanToken(bytes, i, length));
                }
            }
            put(END, 0, length);
            at = 0;
            kind = kinds[0];
            value = values[0];
        }

        /** Puts the token that starts there: the place of its last byte. */
        private int scanToken(byte[] bytes, int from, int length) {
            int to = from + 1;
            if (isLetter(bytes[from])) {
                while (to < length && isLetter(bytes[to])) {
                    to++;
                }
                put(wordKind(bytes, from, to), 0, from);
            } else if (isDigit(bytes[from])) {
                while (to < length && isDigit(bytes[to])) {
                    to++;
                }
                putNumber(bytes, from, to);
            } else {
                put(signKind(bytes[from]), 0, from);
            }
            return to - 1;
        }

        private static boolean isLetter(byte sign) {
            return sign >= 'a' && sign <= 'z' || sign >= 'A' && sign <= 'Z';
        }

        private static boolean isDigit(byte sign) {
            return sign >= '0' && sign <= '9';
        }

        private static int signKind(byte sign) {
            switch (sign) {
                case ';':
                case '+':
                case '-':
                case '*':
                case '/':
                case '(':
                case ')':
                case '<':
                case '=':
                case '>':
                    return sign;
                default:
                    return BAD;
            }
        }

        private void putNumber(byte[] bytes, int from, int to) {
            int number = 0;
            for (int i = from; i < to && i < from + 4; i++) {
                number = number * 10 + bytes[i] - '0';
            }
            put(to - from > 4 ? BAD : NUMBER, number, from);
        }

        private static int wordKind(byte[] bytes, int from, int to) {
            int found = COST;
            int start = 0;
            for (int i = 0; i < WORDS.length(); i++) {
                if (WORDS.charAt(i) == ' ') {
                    if (i - start == to - from && isSpelt(bytes, from, start, i)) {
                        return found;
                    }
                    found++;
                    start = i + 1;
                }
            }
            return BAD;
        }

        private static boolean isSpelt(byte[] bytes, int from, int start, int end) {
            for (int i = start; i < end; i++) {
                if (WORDS.charAt(i) != bytes[from + i - start]) {
                    return false;
                }
            }
            return true;
        }

        private void put(int tokenKind, int number, int start) {
            kinds[count] = tokenKind;
            values[count] = number;
            starts[count] = start;
            count++;
        }

        void next() {
            if (kind != END) {
                at++;
                kind = kinds[at];
                value = values[at];
            }
        }

        boolean take(int wanted) {
            if (kind != wanted) {
                return refuse(CANNOT_STAND);
            }
            next();
            return true;
        }

        boolean isNumber(int low, int high) {
            if (kind != NUMBER) {
                return refuse(CANNOT_STAND);
            }
            return value >= low && value <= high || refuse(BEYOND);
        }

        /** Always false, so that a reader can answer with it. */
        boolean refuse(int fault) {
            faultKind = fault;
            faultPlace = starts[at];
            return false;
        }
    }

    /** A rule's lines as code for a stack: of each line what it costs, then when it holds. */
    private static final class Rule {
        static final int MOST_LINES = 16;
        static final int MOST_OPEN = 8;

        private static final int PUSH = 0;
        private static final int ASK = 1;
        private static final int PART = 2;
        private static final int NEGATE = 3;
        private static final int PLUS = 4;
        private static final int MINUS = 5;
        private static final int TIMES = 6;
        private static final int LESS = 7;
        private static final int EQUAL = 8;
        private static final int MORE = 9;
        private static final int BOTH = 10;
        private static final int EITHER = 11;
        private static final int OPERATION_BITS = 4;
        private static final int OPERATION_MASK = 15;

        int lines = 0;
        int price = 0;
        boolean asksWaits = false;
        private int size = 0;
        private final int[] starts = new int[MOST_LINES + 1];
        private final int[] middles = new int[MOST_LINES];
        private final int[] code = new int[MOST_BYTES];
        // a comparison needs four at most, what stands ahead of it two, and each ( that is open two more
        private final int[] stack = new int[2 * MOST_OPEN + 8];

        void clear() {
            lines = 0;
            size = 0;
            asksWaits = false;
        }

        void become(Rule other) {
            lines = other.lines;
            size = other.size;
            asksWaits = other.asksWaits;
            System.arraycopy(other.starts, 0, starts, 0, lines + 1);
            System.arraycopy(other.middles, 0, middles, 0, lines);
            System.arraycopy(other.code, 0, code, 0, size);
        }

        boolean read(Tokens tokens) {
            clear();
            for (int line = 0; line <= MOST_LINES && tokens.kind != Tokens.END; line++) {
                boolean costs = tokens.kind == Tokens.COST;
                if (!costs && tokens.kind != Tokens.NEVER) {
                    return tokens.refuse(Tokens.CANNOT_STAND);
                }
                if (line == MOST_LINES) {
                    return tokens.refuse(Tokens.TOO_MANY);
                }
                tokens.next();
                if (costs && !readSum(tokens)) {
                    return false;
                }
                middles[line] = size;
                if (tokens.kind == Tokens.WHEN) {
                    tokens.next();
                    if (!readCondition(tokens, 0)) {
                        return false;
                    }
                }
                if (!tokens.take(';')) {
                    return false;
                }
                lines++;
                starts[lines] = size;
            }
            return true;
        }

        private boolean readCondition(Tokens tokens, int open) {
            boolean isAnd = false;
            boolean isOr = false;
            for (int i = 0; i < MOST_BYTES; i++) {
                if (!readTest(tokens, open)) {
                    return false;
                }
                if (isAnd) {
                    put(BOTH, 0);
                }
                isAnd = tokens.kind == Tokens.AND;
                // what stands around an or is joined when the tests behind it are
                if (isOr && !isAnd) {
                    put(EITHER, 0);
                }
                if (!isAnd && tokens.kind != Tokens.OR) {
                    return true;
                }
                isOr |= !isAnd;
                tokens.next();
            }
            return false;
        }

        private boolean readTest(Tokens tokens, int open) {
            int first = tokens.kind;
            if (first == Tokens.NOT || first == '(') {
                if (open >= MOST_OPEN) {
                    return tokens.refuse(Tokens.TOO_MANY);
                }
                tokens.next();
                if (first == '(') {
                    return readCondition(tokens, open + 1) && tokens.take(')');
                }
                boolean isFine = readTest(tokens, open + 1);
                put(NEGATE, 0);
                return isFine;
            }
            if (!readSum(tokens)) {
                return false;
            }
            int operation = tokens.kind == '<' ? LESS : tokens.kind == '>' ? MORE : EQUAL;
            if (operation == EQUAL && tokens.kind != '=') {
                return tokens.refuse(Tokens.CANNOT_STAND);
            }
            tokens.next();
            boolean isFine = readSum(tokens);
            put(operation, 0);
            return isFine;
        }

        private boolean readSum(Tokens tokens) {
            int pending = PUSH;
            for (int i = 0; i < MOST_BYTES; i++) {
                if (!readProduct(tokens)) {
                    return false;
                }
                if (pending != PUSH) {
                    put(pending, 0);
                }
                if (tokens.kind != '+' && tokens.kind != '-') {
                    return true;
                }
                pending = tokens.kind == '+' ? PLUS : MINUS;
                tokens.next();
            }
            return false;
        }

        private boolean readProduct(Tokens tokens) {
            boolean isFine = readUnit(tokens);
            for (int i = 0; i < MOST_BYTES && isFine && (tokens.kind == '*' || tokens.kind == '/'); i++) {
                boolean isPart = tokens.kind == '/';
                tokens.next();
                if (isPart) {
                    isFine = tokens.isNumber(1, 9999);
                    put(PART, tokens.value);
                    tokens.next();
                } else {
                    isFine = readUnit(tokens);
                    put(TIMES, 0);
                }
            }
            return isFine;
        }

        private boolean readUnit(Tokens tokens) {
            if (tokens.kind == Tokens.NUMBER) {
                put(PUSH, tokens.value);
            } else if (tokens.kind >= Tokens.FAR && tokens.kind <= Tokens.CAR) {
                put(ASK, tokens.kind - Tokens.FAR);
                asksWaits |= tokens.kind == Tokens.WAITS;
            } else {
                return tokens.refuse(Tokens.CANNOT_STAND);
            }
            tokens.next();
            return true;
        }

        private void put(int operation, int argument) {
            if (size < code.length) {
                code[size] = operation | argument << OPERATION_BITS;
                size++;
            }
        }

        /** True with the price that the first line that holds tells; false if that line says never. */
        boolean allows(int[] facts) {
            price = 0;
            for (int line = 0; line < lines; line++) {
                int end = starts[line + 1];
                if (middles[line] == end || worth(middles[line], end, facts) != 0) {
                    if (starts[line] == middles[line]) {
                        return false;
                    }
                    price = worth(starts[line], middles[line], facts);
                    return true;
                }
            }
            return true;
        }

        private int worth(int from, int to, int[] facts) {
            int top = -1;
            for (int i = from; i < to; i++) {
                int operation = code[i] & OPERATION_MASK;
                int argument = code[i] >> OPERATION_BITS;
                if (operation <= ASK) {
                    top++;
                    stack[top] = operation == PUSH ? argument : facts[argument];
                    continue;
                }
                if (operation >= PLUS) {
                    top--;
                }
                int left = stack[top];
                int right = stack[top + 1];
                switch (operation) {
                    case PART:
                        stack[top] = argument == 0 ? 0 : left / argument;
                        break;
                    case NEGATE:
                        stack[top] = 1 - left;
                        break;
                    case PLUS:
                        stack[top] = left + right;
                        break;
                    case MINUS:
                        stack[top] = left - right;
                        break;
                    case TIMES:
                        stack[top] = left * right;
                        break;
                    case LESS:
                        stack[top] = left < right ? 1 : 0;
                        break;
                    case EQUAL:
                        stack[top] = left == right ? 1 : 0;
                        break;
                    case MORE:
                        stack[top] = left > right ? 1 : 0;
                        break;
                    case BOTH:
                        stack[top] = left & right;
                        break;
                    default:
                        stack[top] = left | right;
                        break;
                }
            }
            return top < 0 ? 0 : stack[top];
        }
    }

    /** The tower as it was told. */
    private static final class Tower {
        static final int MOST_LINES = 40;

        int lines = 0;
        int floors = 0;
        int cars = 0;
        final int[] room = new int[MOST_CARS];
        final int[] speed = new int[MOST_CARS];
        final int[] door = new int[MOST_CARS];
        final int[] load = new int[MOST_CARS];
        final int[] start = new int[MOST_CARS];
        private final boolean[] skips = new boolean[MOST_CARS * MOST_FLOORS];

        void become(Tower other) {
            lines = other.lines;
            floors = other.floors;
            cars = other.cars;
            System.arraycopy(other.room, 0, room, 0, MOST_CARS);
            System.arraycopy(other.speed, 0, speed, 0, MOST_CARS);
            System.arraycopy(other.door, 0, door, 0, MOST_CARS);
            System.arraycopy(other.load, 0, load, 0, MOST_CARS);
            System.arraycopy(other.start, 0, start, 0, MOST_CARS);
            System.arraycopy(other.skips, 0, skips, 0, skips.length);
        }

        boolean hasFloor(int floor) {
            return floor >= 0 && floor < floors;
        }

        boolean hasCar(int c) {
            return c >= 0 && c < cars;
        }

        boolean serves(int c, int floor) {
            return !skips[c * MOST_FLOORS + floor];
        }

        boolean servesBoth(int c, int from, int to) {
            return serves(c, from) && serves(c, to);
        }

        int tell(int c, int what) {
            switch (what) {
                case 8:
                    return room[c];
                case 9:
                    return speed[c];
                case 10:
                    return door[c];
                default:
                    return load[c];
            }
        }

        boolean read(Tokens tokens) {
            lines = 0;
            floors = 0;
            cars = 0;
            for (int i = 0; i < skips.length; i++) {
                skips[i] = false;
            }
            for (int line = 0; line <= MOST_LINES && tokens.kind != Tokens.END; line++) {
                if (!mayStart(tokens) || !readLine(tokens) || !tokens.take(';')) {
                    return false;
                }
                lines++;
            }
            return true;
        }

        private boolean mayStart(Tokens tokens) {
            boolean isCar = tokens.kind == Tokens.CAR;
            boolean isLine = floors == 0 ? tokens.kind == Tokens.FLOORS : isCar || tokens.kind == Tokens.SKIP;
            if (!isLine) {
                return tokens.refuse(Tokens.CANNOT_STAND);
            }
            if (lines == MOST_LINES || isCar && cars == MOST_CARS) {
                return tokens.refuse(Tokens.TOO_MANY);
            }
            return true;
        }

        private boolean readLine(Tokens tokens) {
            int word = tokens.kind;
            tokens.next();
            if (word == Tokens.CAR) {
                return readCar(tokens);
            }
            if (word == Tokens.SKIP) {
                return readSkip(tokens);
            }
            if (!tokens.isNumber(2, MOST_FLOORS)) {
                return false;
            }
            floors = tokens.value;
            tokens.next();
            return true;
        }

        private boolean readCar(Tokens tokens) {
            if (!readInto(room, 1, 12, tokens) || !readInto(speed, 1, 9, tokens) || !readInto(door, 1, 9, tokens)) {
                return false;
            }
            if (!readInto(load, 0, 9, tokens) || !readInto(start, 0, floors - 1, tokens)) {
                return false;
            }
            cars++;
            return true;
        }

        private boolean readInto(int[] row, int low, int high, Tokens tokens) {
            if (!tokens.isNumber(low, high)) {
                return false;
            }
            row[cars] = tokens.value;
            tokens.next();
            return true;
        }

        private boolean readSkip(Tokens tokens) {
            if (!tokens.isNumber(0, cars - 1)) {
                return false;
            }
            int c = tokens.value;
            tokens.next();
            if (!tokens.isNumber(0, floors - 1)) {
                return false;
            }
            skips[c * MOST_FLOORS + tokens.value] = true;
            tokens.next();
            return true;
        }
    }

    /** Who was told, in rows by their number. */
    private static final class People {
        static final int NOT_YET = 0;
        static final int WAITS = 1;
        static final int RIDES = 2;
        static final int THERE = 3;

        int count = 0;
        int coming = 0;
        int loose = 0;
        int there = 0;
        final int[] second = new int[MOST_PEOPLE];
        final int[] from = new int[MOST_PEOPLE];
        final int[] to = new int[MOST_PEOPLE];
        final int[] state = new int[MOST_PEOPLE];
        final int[] by = new int[MOST_PEOPLE];
        final int[] wait = new int[MOST_PEOPLE];
        final int[] ride = new int[MOST_PEOPLE];

        void clear() {
            count = 0;
            coming = 0;
            loose = 0;
            there = 0;
        }

        void add(int comes, int floor, int goal) {
            if (count >= MOST_PEOPLE) {
                return;
            }
            second[count] = comes;
            from[count] = floor;
            to[count] = goal;
            state[count] = NOT_YET;
            by[count] = NONE;
            wait[count] = NONE;
            ride[count] = NONE;
            count++;
            coming++;
        }

        void become(People other) {
            count = other.count;
            coming = other.coming;
            loose = other.loose;
            there = other.there;
            System.arraycopy(other.second, 0, second, 0, count);
            System.arraycopy(other.from, 0, from, 0, count);
            System.arraycopy(other.to, 0, to, 0, count);
            System.arraycopy(other.state, 0, state, 0, count);
            System.arraycopy(other.by, 0, by, 0, count);
            System.arraycopy(other.wait, 0, wait, 0, count);
            System.arraycopy(other.ride, 0, ride, 0, count);
        }

        /** Those of others whose bit the group has; none of them may be given yet. */
        void becomePart(People others, int group) {
            clear();
            for (int p = 0; p < others.count; p++) {
                if ((group >> p & 1) == 1) {
                    add(others.second[p], others.from[p], others.to[p]);
                    if (others.state[p] == WAITS) {
                        come(count - 1);
                    }
                }
            }
        }

        void come(int p) {
            state[p] = WAITS;
            coming--;
            loose++;
        }

        boolean has(int p) {
            return p >= 0 && p < count;
        }

        boolean waits(int p) {
            return has(p) && state[p] == WAITS;
        }

        int way(int p) {
            return to[p] > from[p] ? 1 : -1;
        }

        int tell(int p, int what) {
            switch (what) {
                case 0:
                    return second[p];
                case 1:
                    return from[p];
                case 2:
                    return to[p];
                case 3:
                    return state[p];
                case 4:
                    return by[p];
                case 5:
                    return wait[p];
                case 6:
                    return ride[p];
                default:
                    return NO_SUCH;
            }
        }

        int howMany(int wanted) {
            int found = 0;
            for (int p = 0; p < count; p++) {
                if (state[p] == wanted) {
                    found++;
                }
            }
            return found;
        }

        int waitAdded() {
            int sum = 0;
            for (int p = 0; p < count; p++) {
                sum += Math.max(wait[p], 0);
            }
            return sum;
        }

        int rideAdded() {
            int sum = 0;
            for (int p = 0; p < count; p++) {
                sum += Math.max(ride[p], 0);
            }
            return sum;
        }

        int greatestWait() {
            int greatest = 0;
            for (int p = 0; p < count; p++) {
                greatest = Math.max(greatest, wait[p]);
            }
            return greatest;
        }

        int overOf(int p) {
            return wait[p] + ride[p];
        }

        int overAdded() {
            return waitAdded() + rideAdded();
        }

        int greatestOver() {
            int greatest = 0;
            for (int p = 0; p < count; p++) {
                greatest = Math.max(greatest, overOf(p));
            }
            return greatest;
        }
    }

    /** Where the cars are and what they do, in rows by their number. */
    private static final class Cars {
        static final int IDLE = 0;
        static final int GOES = 1;
        static final int STOPS = 2;

        final int[] floor = new int[MOST_CARS];
        final int[] way = new int[MOST_CARS];
        final int[] state = new int[MOST_CARS];
        final int[] left = new int[MOST_CARS];
        final int[] riding = new int[MOST_CARS];
        final int[] given = new int[MOST_CARS];
        final int[] home = new int[MOST_CARS];
        final boolean[] out = new boolean[MOST_CARS];

        void begin(int c, int start) {
            floor[c] = start;
            riding[c] = 0;
            given[c] = 0;
            home[c] = NONE;
            out[c] = false;
            rest(c);
        }

        void rest(int c) {
            way[c] = 0;
            state[c] = IDLE;
            left[c] = 0;
        }

        void become(Cars other) {
            for (int c = 0; c < MOST_CARS; c++) {
                floor[c] = other.floor[c];
                way[c] = other.way[c];
                state[c] = other.state[c];
                left[c] = other.left[c];
                riding[c] = other.riding[c];
                given[c] = other.given[c];
                home[c] = other.home[c];
                out[c] = other.out[c];
            }
        }

        int tell(int c, int what) {
            switch (what) {
                case 0:
                    return floor[c];
                case 1:
                    return way[c];
                case 2:
                    return state[c];
                case 3:
                    return left[c];
                case 4:
                    return riding[c];
                case 5:
                    return given[c];
                case 6:
                    return out[c] ? 1 : 0;
                default:
                    return home[c];
            }
        }
    }

    /** People and cars at one second, and how they go on. */
    private static final class Scene {
        private static final int NOWHERE = 1000;
        private static final int EVER = 1000000;
        // a rule's words from far to car, in the order in which the tokens number them
        private static final int FACTS = 10;

        private final Tower tower;
        final People people = new People();
        final Cars cars = new Cars();
        final int[] facts = new int[FACTS];
        int now = 0;
        int funPerson = NONE;
        int funFloor = NONE;
        private int funCar = NONE;
        private boolean isStirred = false;

        Scene(Tower tower) {
            this.tower = tower;
        }

        void begin() {
            now = 0;
            forgetFun();
            people.clear();
            for (int c = 0; c < MOST_CARS; c++) {
                cars.begin(c, tower.start[c]);
            }
        }

        void become(Scene other) {
            now = other.now;
            forgetFun();
            people.become(other.people);
            cars.become(other.cars);
        }

        /** A scene with some of the people alone, and one car that is in order. */
        void becomePart(Scene other, int c, int group) {
            now = other.now;
            forgetFun();
            people.becomePart(other.people, group);
            cars.become(other.cars);
            for (int i = 0; i < MOST_CARS; i++) {
                cars.out[i] = i != c;
            }
        }

        private void forgetFun() {
            funPerson = NONE;
            funFloor = NONE;
            funCar = NONE;
        }

        void takeOut(int c) {
            cars.out[c] = true;
            cars.rest(c);
            cars.given[c] = 0;
            for (int p = 0; p < people.count; p++) {
                if (people.state[p] == People.WAITS && people.by[p] == c) {
                    people.by[p] = NONE;
                    people.loose++;
                }
            }
        }

        /** The seconds till all are there; NONE if the limit comes first. */
        int toTheEnd(Rule rule, int limit) {
            int gone = 0;
            while (gone < limit && people.there < people.count) {
                goOn(rule);
                gone++;
                if (people.there < people.count) {
                    gone += leap(rule, limit - gone);
                }
            }
            return people.there < people.count ? NONE : gone;
        }

        void pass(Rule rule, int n) {
            int gone = 0;
            while (gone < n) {
                goOn(rule);
                gone++;
                gone += leap(rule, n - gone);
            }
        }

        /** One second. */
        void goOn(Rule rule) {
            isStirred = false;
            for (int p = 0; people.coming > 0 && p < people.count; p++) {
                if (people.state[p] == People.NOT_YET && people.second[p] == now) {
                    people.come(p);
                }
            }
            for (int p = 0; people.loose > 0 && p < people.count; p++) {
                if (people.state[p] == People.WAITS && people.by[p] == NONE) {
                    giveCall(p, rule);
                }
            }
            for (int c = 0; c < tower.cars; c++) {
                if (!cars.out[c] && mayLook(c)) {
                    lookAround(c);
                }
            }
            now++;
        }

        /** Seconds in which nothing could happen but that the cars count go by at once: how many. */
        private int leap(Rule rule, int most) {
            int quiet = Math.max(0, Math.min(most, quietSeconds(rule)));
            for (int c = 0; c < tower.cars; c++) {
                if (!cars.out[c] && cars.state[c] != Cars.IDLE) {
                    cars.left[c] -= quiet;
                }
            }
            now += quiet;
            return quiet;
        }

        private int quietSeconds(Rule rule) {
            // a call that was not given may be given now if a car did something, or by waiting alone
            if (people.loose > 0 && (isStirred || rule.asksWaits)) {
                return 0;
            }
            int quiet = EVER;
            for (int c = 0; c < tower.cars; c++) {
                if (!cars.out[c] && cars.state[c] != Cars.IDLE) {
                    quiet = Math.min(quiet, cars.left[c] - 1);
                }
            }
            for (int p = 0; people.coming > 0 && p < people.count; p++) {
                if (people.state[p] == People.NOT_YET) {
                    quiet = Math.min(quiet, people.second[p] - now);
                }
            }
            return quiet;
        }

        private void giveCall(int p, Rule rule) {
            int found = NONE;
            int least = 0;
            for (int c = 0; c < tower.cars; c++) {
                if (!cars.out[c] && tower.servesBoth(c, people.from[p], people.to[p])) {
                    gather(p, c);
                    if (rule.allows(facts) && (found == NONE || rule.price < least)) {
                        found = c;
                        least = rule.price;
                    }
                }
            }
            if (found != NONE) {
                people.by[p] = found;
                people.loose--;
                cars.given[found]++;
                isStirred = true;
            }
        }

        /** What a rule may ask of a call and a car. */
        void gather(int p, int c) {
            int ahead = people.from[p] - cars.floor[c];
            int callWay = people.way(p);
            boolean isSame = cars.way[c] == callWay && ahead * callWay >= 0;
            facts[0] = Math.abs(ahead);
            facts[1] = isSame ? 1 : 0;
            facts[2] = cars.way[c] == -callWay ? 1 : 0;
            facts[3] = cars.riding[c];
            facts[4] = cars.given[c];
            facts[5] = cars.state[c] == Cars.IDLE ? 1 : 0;
            facts[6] = callWay == 1 ? 1 : 0;
            facts[7] = people.from[p];
            facts[8] = now - people.second[p];
            facts[9] = c;
        }

        /** A second less for a car that goes or stops: whether none is left. */
        private boolean mayLook(int c) {
            if (cars.state[c] == Cars.IDLE) {
                return true;
            }
            cars.left[c]--;
            if (cars.left[c] > 0) {
                return false;
            }
            if (cars.state[c] == Cars.GOES) {
                cars.floor[c] += cars.way[c];
            }
            isStirred = true;
            return true;
        }

        private void lookAround(int c) {
            int here = cars.floor[c];
            int moved = letOut(c, here);
            cars.way[c] = nextWay(c, here);
            moved += letIn(c, here);
            boolean isFun = funCar == c && funFloor == here;
            if (isFun) {
                funCar = NONE;
            }
            if (moved > 0 || isFun) {
                cars.state[c] = Cars.STOPS;
                cars.left[c] = tower.door[c] + tower.load[c] * moved;
            } else if (cars.way[c] != 0) {
                cars.state[c] = Cars.GOES;
                cars.left[c] = tower.speed[c];
            } else {
                cars.state[c] = Cars.IDLE;
                cars.left[c] = 0;
            }
            isStirred |= cars.state[c] != Cars.IDLE;
        }

        private int letOut(int c, int here) {
            int gone = 0;
            for (int p = 0; cars.riding[c] > 0 && p < people.count; p++) {
                if (people.state[p] == People.RIDES && people.by[p] == c && people.to[p] == here) {
                    people.state[p] = People.THERE;
                    people.ride[p] = now - people.second[p] - people.wait[p];
                    people.there++;
                    cars.riding[c]--;
                    gone++;
                }
            }
            return gone;
        }

        private int nextWay(int c, int here) {
            int up = NOWHERE;
            int down = NOWHERE;
            int first = NONE;
            boolean isAsked = cars.riding[c] + cars.given[c] > 0;
            for (int p = 0; isAsked && p < people.count; p++) {
                if (people.by[p] == c && people.state[p] != People.THERE) {
                    int ahead = (people.state[p] == People.RIDES ? people.to[p] : people.from[p]) - here;
                    if (ahead > 0) {
                        up = Math.min(up, ahead);
                    } else if (ahead < 0) {
                        down = Math.min(down, -ahead);
                    } else if (first == NONE) {
                        first = p;
                    }
                }
            }
            if (funCar == c && funFloor > here) {
                up = Math.min(up, funFloor - here);
            } else if (funCar == c && funFloor < here) {
                down = Math.min(down, here - funFloor);
            }
            int way = cars.way[c];
            if (way == 1 && up < NOWHERE || way == -1 && down < NOWHERE) {
                return way;
            }
            if (first != NONE) {
                return people.way(first);
            }
            if (up == NOWHERE && down == NOWHERE) {
                return cars.home[c] == NONE ? 0 : Integer.compare(cars.home[c], here);
            }
            return up <= down ? 1 : -1;
        }

        private int letIn(int c, int here) {
            int gone = 0;
            for (int p = 0; cars.given[c] > 0 && cars.riding[c] < tower.room[c] && p < people.count; p++) {
                if (people.state[p] == People.WAITS && people.by[p] == c && people.from[p] == here
                    && people.way(p) == cars.way[c]) {
                    people.state[p] = People.RIDES;
                    people.wait[p] = now - people.second[p];
                    cars.given[c]--;
                    cars.riding[c]++;
                    gone++;
                    if (p == funPerson) {
                        funCar = c;
                    }
                }
            }
            return gone;
        }
    }

    /** All that an image keeps. */
    private static final class World {
        final Tower tower = new Tower();
        final Rule[] rules = {new Rule(), new Rule(), new Rule()};
        final int[] weights = new int[MOST_FLOORS];
        final Scene scene = new Scene(tower);
        int inForce = 0;

        void begin() {
            for (int floor = 0; floor < MOST_FLOORS; floor++) {
                weights[floor] = 1;
            }
            scene.begin();
        }

        void become(World other) {
            tower.become(other.tower);
            for (int k = 0; k < RULES; k++) {
                rules[k].become(other.rules[k]);
            }
            System.arraycopy(other.weights, 0, weights, 0, MOST_FLOORS);
            scene.become(other.scene);
            inForce = other.inForce;
        }
    }

    /** The cheapest points on the line of floors, where only neighbours among them matter to each other. */
    private abstract static class Chain {
        static final int MOST_POINTS = 4;
        private static final int ROW = MOST_FLOORS + 1;

        final int[] points = new int[MOST_POINTS];
        private final int[] weightBelow = new int[ROW];
        private final int[] momentBelow = new int[ROW];
        private final int[] least = new int[MOST_POINTS * ROW];
        private final int[] follower = new int[MOST_POINTS * ROW];
        int floors = 0;

        /** What the floors between two neighbours cost; from is NONE ahead of the first, to is floors behind the last. */
        abstract int piece(int from, int to);

        void weigh(int[] weights, int floorCount) {
            floors = floorCount;
            for (int floor = 0; floor < floors; floor++) {
                weightBelow[floor + 1] = weightBelow[floor] + weights[floor];
                momentBelow[floor + 1] = momentBelow[floor] + weights[floor] * floor;
            }
        }

        int weightOf(int from, int to) {
            return weightBelow[to + 1] - weightBelow[from];
        }

        /** The weights of some floors times the floors up to them from another one (below 0 if it is above). */
        int distanceOf(int from, int to, int floor) {
            return momentBelow[to + 1] - momentBelow[from] - floor * weightOf(from, to);
        }

        /** The least sum for so many points from the lowest floor on; there must be so many floors. */
        int solve(int lowest, int count) {
            for (int floor = lowest; floor < floors; floor++) {
                least[floor] = piece(floor, floors);
            }
            for (int behind = 1; behind < count; behind++) {
                for (int floor = lowest; floor < floors - behind; floor++) {
                    int next = bestNext(floor, floor + 1, behind);
                    follower[behind * ROW + floor] = next;
                    least[behind * ROW + floor] = piece(floor, next) + least[(behind - 1) * ROW + next];
                }
            }
            int point = bestNext(NONE, lowest, count);
            int sum = piece(NONE, point) + least[(count - 1) * ROW + point];
            for (int i = 0; i < count; i++) {
                points[i] = point;
                point = follower[(count - 1 - i) * ROW + point];
            }
            return sum;
        }

        /** The lowest of the best floors behind a floor, with so many points from it on. */
        private int bestNext(int floor, int lowest, int count) {
            int found = lowest;
            int sum = BEYOND_ALL;
            for (int next = lowest; next <= floors - count; next++) {
                int here = piece(floor, next) + least[(count - 1) * ROW + next];
                if (here < sum) {
                    sum = here;
                    found = next;
                }
            }
            return found;
        }
    }

    /** Waiting places: each floor goes to the nearer one of its two neighbours among them. */
    private static final class Gaps extends Chain {
        int piece(int from, int to) {
            if (from == NONE) {
                return -distanceOf(0, to, to);
            }
            if (to == floors) {
                return distanceOf(from, floors - 1, from);
            }
            int middle = (from + to) / 2;
            return distanceOf(from, middle, from) - distanceOf(middle + 1, to, to);
        }
    }

    /** Zones: the floors from one cut to the next one have a car of their own. */
    private static final class Parts extends Chain {
        int speed = 0;
        int door = 0;

        int piece(int from, int to) {
            int low = from == NONE ? 1 : from;
            int high = to - 1;
            return weightOf(low, high) * (2 * high * speed + (high - low + 1) * door);
        }
    }
}
