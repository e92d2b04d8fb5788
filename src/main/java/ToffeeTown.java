import java.util.Arrays;

/** A town of toffee poured on a hill: DOC.md says what it must do, by promises. */
public final class ToffeeTown {
    public static final int NONE = -1;

    private static final int MOST_BYTES = 400;
    private static final int FED_BYTES = 20;
    private static final int MOST_DIGITS = 5;
    private static final int MOST_TOWN_CLAUSES = 40;
    private static final int MOST_RULE_CLAUSES = 12;
    private static final int MOST_HOUSES = 6;
    private static final int MOST_HEATS = 12;
    private static final int MOST_RULES = 6;
    private static final int MOST_NOTES = 10;
    private static final int MOST_ACTS = 20;
    private static final int MOST_IMAGES = 4;
    private static final int MOST_DEEP = 10;
    private static final int MOST_PARTS = 60;
    private static final int HARDEST = 9;
    private static final int ICE_COOLS = 3;
    private static final int LAST_DAY = 999;
    private static final int DAYS_AHEAD = 100;
    private static final int DAYS_LONG = 60;
    private static final int DAYS_STOOD = 30;
    private static final int DAYS_RESTS = 20;
    private static final int DAYS_ROW = 3;
    private static final int BEYOND_ALL = 1000000;

    // What a FAULT adds to 1 + 8 * its place.
    private static final int WRONG = 0;
    private static final int NOT_AS_TOLD = 1;
    private static final int TOO_DEEP = 2;
    private static final int PART_TOO_MANY = 3;
    private static final int CLAUSE_TOO_MANY = 4;

    // What stands in a text; a RULE's steps bear the numbers of their signs and words.
    private static final int END = 0;
    private static final int NUMBER = 1;
    private static final int LONG_NUMBER = 2;
    private static final int UNKNOWN = 3;
    private static final int SEMICOLON = 4;
    private static final int OPEN = 5;
    private static final int CLOSE = 6;
    private static final int PLUS = 7;
    private static final int MINUS = 8;
    private static final int TIMES = 9;
    private static final int OVER = 10;
    private static final int REST = 11;
    private static final int LESS = 12;
    private static final int LESS_OR_EQUAL = 13;
    private static final int EQUAL = 14;
    private static final int MORE_OR_EQUAL = 15;
    private static final int MORE = 16;
    private static final int ONE = 17;
    private static final int OTHER = 18;
    private static final int HARD = 19;
    private static final int PLACE = 20;
    private static final int PLACEO = 21;
    private static final int APART = 22;
    private static final int ROCK = 23;
    private static final int ROCKO = 24;
    private static final int HEAT = 25;
    private static final int NEXT = 26;
    private static final int SUGAR = 27;
    private static final int DAY = 28;
    private static final int TOWN = 29;
    private static final int HOUSE = 30;
    private static final int JOIN = 31;
    private static final int POUR = 32;
    private static final int IF = 33;
    private static final int OR = 34;
    private static final int AND = 35;
    private static final int NOT = 36;
    // Steps of a RULE that no sign bears: the CLAUSE gives its SUM, always or by its TEST.
    private static final int GIVE = 37;
    private static final int GIVE_IF = 38;

    private static final int FIRST_WORD = ONE;
    private static final int LAST_WORD = NOT;
    private static final int VALUE_WORDS = DAY - ONE + 1;

    private final Text text = new Text();
    private final TownReader townReader = new TownReader(text);
    private final RuleReader ruleReader = new RuleReader(text);
    private final Rule[] rules = new Rule[MOST_RULES];
    private int ruleCount;
    private final Scene scene = new Scene();
    // Made when first asked for: most objects never need them.
    private final Scene[] images = new Scene[MOST_IMAGES];
    private final Days days = new Days(scene.town);
    private final Standing spare = new Standing();
    private final int[] comesDown = new int[MOST_HOUSES];
    private final Rows rows = new Rows(days);
    private final Rests resting = new Rests(days);
    private final Candidates candidates = new Candidates(days);

    public ToffeeTown() {
    }

    public int feed(int a, int b, int c, int d, int e) {
        if (text.size + FED_BYTES > MOST_BYTES) {
            return NONE;
        }
        text.append(a);
        text.append(b);
        text.append(c);
        text.append(d);
        text.append(e);
        return text.size;
    }

    public int end(int n) {
        if (n < 0 || n > text.size) {
            return NONE;
        }
        text.size = n;
        return n;
    }

    public int town() {
        boolean read = townReader.readText();
        text.size = 0;
        if (!read) {
            return -2 - text.fault;
        }
        scene.open(townReader.draft);
        return scene.town.houseCount;
    }

    public int rule() {
        if (ruleCount >= MOST_RULES) {
            return NONE;
        }
        boolean read = ruleReader.readText();
        text.size = 0;
        if (!read) {
            return -2 - text.fault;
        }
        rules[ruleCount] = new Rule(ruleReader.writtenSteps());
        ruleCount++;
        return ruleCount - 1;
    }

    public int force(int rule) {
        if (rule < NONE || rule >= ruleCount) {
            return -2;
        }
        int was = scene.inForce;
        scene.inForce = rule;
        return was;
    }

    public int house(int house, int what) {
        if (!isHouse(house)) {
            return NONE;
        }
        switch (what) {
            case 0:
                return scene.now.places[house];
            case 1:
                return scene.now.rocks[house];
            case 2:
                return scene.now.pouredTo(house);
            case 3:
                return blockNow(house);
            case 4:
                return isFastNow(house) ? 1 : 0;
            default:
                return NONE;
        }
    }

    public int pourOf(int one, int other) {
        return areTwo(one, other) ? scene.now.hardOf(one, other) : NONE;
    }

    public int day() {
        if (!isTold() || scene.now.day >= LAST_DAY) {
            return NONE;
        }
        scene.remember();
        return days.pass(scene.now, ruleInForce(), scene.town.heatOf(scene.now));
    }

    public int crack(int one, int other) {
        if (!areTwo(one, other) || scene.now.hardOf(one, other) == 0) {
            return NONE;
        }
        int was = scene.now.hardOf(one, other);
        scene.remember();
        scene.now.setHard(one, other, 0);
        return was;
    }

    public int pour(int one, int other, int hard) {
        if (!areTwo(one, other) || !isWithin(hard, 1, HARDEST) || !canPour(one, other) || scene.now.sugar < hard) {
            return NONE;
        }
        scene.remember();
        scene.now.setHard(one, other, hard);
        scene.now.sugar -= hard;
        return scene.now.sugar;
    }

    public int rock(int house, int hard) {
        if (!isHouse(house) || scene.now.places[house] >= scene.town.hill) {
            return NONE;
        }
        int was = scene.now.rocks[house];
        if (!isWithin(hard, was + 1, HARDEST) || scene.now.sugar < hard - was) {
            return NONE;
        }
        scene.remember();
        scene.now.rocks[house] = hard;
        scene.now.sugar -= hard - was;
        return scene.now.sugar;
    }

    public int ice(int days) {
        if (!isTold() || !isWithin(days, 1, 9)) {
            return NONE;
        }
        int was = scene.now.ice;
        scene.remember();
        scene.now.ice = days;
        return was;
    }

    public int undo() {
        return scene.goBackAnAct() ? scene.pastCount : -2;
    }

    public int ahead(int house, int n, int what) {
        if (!isTold() || !isWithin(n, 0, DAYS_AHEAD) || !isWithin(what, 0, 2) || (what == 0 && !isHouse(house))) {
            return NONE;
        }
        spare.copy(scene.now);
        days.passAll(spare, ruleInForce(), n);
        if (what == 0) {
            return spare.places[house];
        }
        return what == 1 ? Integer.bitCount(scene.town.riverBits(spare)) : spare.sugar;
    }

    public int down(int house) {
        if (!isHouse(house)) {
            return NONE;
        }
        findComesDown();
        return comesDown[house] < DAYS_AHEAD ? scene.now.day + comesDown[house] : -2;
    }

    public int part(int one, int other, int what) {
        if (!areTwo(one, other) || !isWithin(what, 0, 1)) {
            return NONE;
        }
        int fewest = BEYOND_ALL;
        int side = 0;
        for (int bits = 0; bits < 1 << scene.town.houseCount; bits++) {
            if (hasBit(bits, one) && !hasBit(bits, other) && poursAcross(bits) < fewest) {
                fewest = poursAcross(bits);
                side = bits;
            }
        }
        return what == 0 ? fewest : side;
    }

    public int blocks(int what) {
        if (!isTold() || !isWithin(what, 0, 1)) {
            return NONE;
        }
        days.findHolds(scene.now, scene.town.heatOf(scene.now));
        int seen = scene.town.riverBits(scene.now);
        int many = 0;
        int largest = 0;
        for (int house = 0; house < scene.town.houseCount; house++) {
            if (!hasBit(seen, house)) {
                int block = days.blockOf(house);
                seen |= block;
                many++;
                largest = Integer.bitCount(block) > Integer.bitCount(largest) ? block : largest;
            }
        }
        return what == 0 ? many : largest;
    }

    public int stay(int house, int n) {
        if (!isHouse(house) || !isWithin(n, 1, DAYS_LONG)) {
            return NONE;
        }
        for (int hard = 0; hard <= HARDEST; hard++) {
            spare.copy(scene.now);
            spare.rocks[house] = hard;
            days.passAll(spare, ruleInForce(), n);
            if (spare.places[house] == scene.now.places[house]) {
                return hard;
            }
        }
        return -2;
    }

    public int iced(int n) {
        if (!isTold() || !isWithin(n, 1, DAYS_LONG)) {
            return NONE;
        }
        for (int ice = 0; ice <= 9; ice++) {
            spare.copy(scene.now);
            spare.ice = ice;
            days.passAll(spare, ruleInForce(), n);
            if (scene.town.riverBits(spare) == scene.town.riverBits(scene.now)) {
                return ice;
            }
        }
        return -2;
    }

    public int stood(int house, int place, int n, int what) {
        if (!isHouse(house) || !isWithin(place, 0, scene.town.hill)
                || !isWithin(n, 1, DAYS_STOOD) || !isWithin(what, 0, 1)) {
            return NONE;
        }
        int many = 0;
        int least = -2;
        // Nothing goes up the hill, so what stands below the PLACE need not be tried.
        for (int from = 0; from <= place && from < scene.town.hill; from++) {
            spare.copy(scene.now);
            spare.places[house] = from;
            days.passAll(spare, ruleInForce(), n);
            if (spare.places[house] == place) {
                least = many == 0 ? from : least;
                many++;
            }
        }
        return what == 0 ? many : least;
    }

    public int row(int n, int what) {
        if (!isTold() || !isWithin(n, 1, DAYS_ROW) || !isWithin(what, 0, DAYS_ROW)) {
            return -3;
        }
        if (what > n) {
            return -2;
        }
        rows.find(scene.now, n);
        return what == 0 ? rows.least : rows.best[what - 1];
    }

    public int order(int house) {
        if (!isHouse(house)) {
            return NONE;
        }
        findComesDown();
        int many = 0;
        for (int other = 0; other < scene.town.houseCount; other++) {
            boolean sooner = comesDown[other] < comesDown[house];
            if (sooner || (comesDown[other] == comesDown[house] && other < house)) {
                many++;
            }
        }
        return many;
    }

    public int rests(int one, int other, int n, int what) {
        if (!areTwo(one, other) || !isWithin(n, 1, DAYS_RESTS) || !isWithin(what, 0, 2)) {
            return NONE;
        }
        resting.play(scene.now, ruleInForce(), one, other, n);
        resting.find();
        if (what == 0) {
            return resting.many;
        }
        return what == 1 ? resting.firstOne : resting.firstOther;
    }

    public int parts(int treacle, int house) {
        if (!isHouse(house) || !isWithin(treacle, 0, 9999)) {
            return NONE;
        }
        int total = 0;
        for (int each = 0; each < scene.town.houseCount; each++) {
            total += scene.now.hardnessOf(each);
        }
        if (total <= 0) {
            return 0;
        }
        int left = treacle;
        int sooner = 0;
        int lost = treacle * scene.now.hardnessOf(house) % total;
        for (int each = 0; each < scene.town.houseCount; each++) {
            int due = treacle * scene.now.hardnessOf(each);
            left -= due / total;
            if (due % total > lost || (due % total == lost && each < house)) {
                sooner++;
            }
        }
        return treacle * scene.now.hardnessOf(house) / total + (sooner < left ? 1 : 0);
    }

    public int note(int n, int house, int place) {
        if (n == NONE) {
            scene.noteCount = 0;
            return 0;
        }
        if (!isWithin(n, 0, DAYS_LONG) || !isHouse(house) || !isWithin(place, 0, scene.town.hill)
                || scene.noteCount >= MOST_NOTES) {
            return -2;
        }
        scene.addNote(n, house, place);
        return scene.noteCount;
    }

    public int ruled(int what) {
        if (!isTold() || !isWithin(what, 0, 1)) {
            return -3;
        }
        candidates.find(scene, rules, ruleCount, 0);
        if (what == 0) {
            return candidates.many;
        }
        return candidates.many > 0 ? candidates.which[0] : -2;
    }

    public int look(int n, int what) {
        if (!isTold() || !isWithin(n, 0, DAYS_LONG) || !isWithin(what, 0, 1)) {
            return NONE;
        }
        candidates.find(scene, rules, ruleCount, n);
        if (candidates.many == 0 || scene.town.houseCount == 0) {
            return -2;
        }
        int best = 0;
        for (int house = 1; house < scene.town.houseCount; house++) {
            if (candidates.mostAlike(house) < candidates.mostAlike(best)) {
                best = house;
            }
        }
        return what == 0 ? best : candidates.mostAlike(best);
    }

    public int seed(int x) {
        if (x < 0) {
            return NONE;
        }
        int was = scene.x;
        scene.x = x;
        return was;
    }

    public int summers(int m, int n, int p, int what) {
        if (!isTold() || !isWithin(m, 1, 10) || !isWithin(n, 1, DAYS_LONG)
                || !isWithin(p, 0, 100) || !isWithin(what, 0, 1)) {
            return NONE;
        }
        int sum = 0;
        int x = scene.x;
        for (int summer = 0; summer < m; summer++) {
            x = passSummer(x, n, p);
            sum += what == 0 ? Integer.bitCount(scene.town.riverBits(spare)) : scene.town.placesOf(spare);
        }
        return sum;
    }

    public int count(int what) {
        if (isWithin(what, 0, 5)) {
            return countTold(what);
        }
        return isWithin(what, 6, 15) ? countNow(what) : NONE;
    }

    public int image(int k) {
        if (!isWithin(k, 0, MOST_IMAGES - 1)) {
            return NONE;
        }
        if (images[k] == null) {
            images[k] = new Scene();
        }
        images[k].copy(scene);
        return scene.now.day;
    }

    public int back(int k) {
        if (!isWithin(k, 0, MOST_IMAGES - 1) || images[k] == null) {
            return NONE;
        }
        scene.copy(images[k]);
        return scene.now.day;
    }

    private int countTold(int what) {
        switch (what) {
            case 0:
                return scene.town.hill;
            case 1:
                return scene.town.stick;
            case 2:
                return scene.town.heatCount;
            case 3:
                return scene.town.houseCount;
            case 4:
                return ruleCount;
            default:
                return scene.inForce;
        }
    }

    private int countNow(int what) {
        switch (what) {
            case 6:
                return scene.now.day;
            case 7:
                return scene.town.heatOf(scene.now);
            case 8:
                return scene.now.sugar;
            case 9:
                return scene.now.ice;
            case 10:
                return scene.town.riverBits(scene.now);
            case 11:
                return scene.town.placesOf(scene.now);
            case 12:
                return scene.noteCount;
            case 13:
                return scene.pastCount;
            case 14:
                return scene.x;
            default:
                return text.size;
        }
    }

    private boolean isTold() {
        return scene.town.hill > 0;
    }

    private boolean isHouse(int house) {
        return house >= 0 && house < scene.town.houseCount;
    }

    private boolean areTwo(int one, int other) {
        return isHouse(one) && isHouse(other) && one != other;
    }

    private static boolean isWithin(int number, int least, int most) {
        return number >= least && number <= most;
    }

    private static boolean hasBit(int bits, int house) {
        return (bits >> house & 1) == 1;
    }

    private Rule ruleInForce() {
        return isWithin(scene.inForce, 0, ruleCount - 1) ? rules[scene.inForce] : null;
    }

    private int blockNow(int house) {
        days.findHolds(scene.now, scene.town.heatOf(scene.now));
        return days.blockOf(house);
    }

    private boolean isFastNow(int house) {
        return days.isFast(scene.now, blockNow(house), scene.town.heatOf(scene.now));
    }

    private boolean canPour(int one, int other) {
        int placeOne = scene.now.places[one];
        int placeOther = scene.now.places[other];
        return scene.now.hardOf(one, other) == 0 && placeOne < scene.town.hill && placeOther < scene.town.hill
                && Math.abs(placeOne - placeOther) <= 3;
    }

    private int poursAcross(int bits) {
        int many = 0;
        for (int one = 0; one < scene.town.houseCount; one++) {
            if (hasBit(bits, one)) {
                many += Integer.bitCount(scene.now.pouredTo(one) & ~bits);
            }
        }
        return many;
    }

    /** On which of the DAYS ahead each HOUSE is first in the RIVER; DAYS_AHEAD if on none. */
    private void findComesDown() {
        Arrays.fill(comesDown, DAYS_AHEAD);
        spare.copy(scene.now);
        for (int ahead = 0; ahead < DAYS_AHEAD; ahead++) {
            for (int house = 0; house < scene.town.houseCount; house++) {
                if (comesDown[house] == DAYS_AHEAD && spare.places[house] >= scene.town.hill) {
                    comesDown[house] = ahead;
                }
            }
            days.pass(spare, ruleInForce(), scene.town.heatOf(spare));
        }
    }

    /** What is behind the DAYS stands in spare; answers x behind its DRAWS. */
    private int passSummer(int x, int n, int p) {
        int drawn = x;
        spare.copy(scene.now);
        for (int day = 0; day < n; day++) {
            int heat = scene.town.heatOf(spare);
            drawn = behindDraw(drawn);
            if (drawn / 65536 % 100 < p) {
                drawn = behindDraw(drawn);
                heat = drawn / 65536 % 10;
            }
            days.pass(spare, ruleInForce(), heat);
        }
        return drawn;
    }

    private static int behindDraw(int x) {
        return (int) ((x * 1103515245L + 12345L) % 2147483648L);
    }

    /** The TAPE, and what stands on it, one sign, word or number behind the other. */
    private static final class Text {
        private final byte[] bytes = new byte[MOST_BYTES];
        int size;
        private final int[] codes = new int[MOST_BYTES + 1];
        private final int[] starts = new int[MOST_BYTES + 1];
        private final int[] numbers = new int[MOST_BYTES + 1];
        private int count;
        private int at;
        int fault;

        void append(int four) {
            for (int shift = 24; shift >= 0 && size < MOST_BYTES; shift -= 8) {
                bytes[size] = (byte) (four >> shift);
                size++;
            }
        }

        void scan() {
            count = 0;
            int next = 0;
            for (int step = 0; step < MOST_BYTES && next < size; step++) {
                next = bytes[next] == ' ' ? next + 1 : scanOne(next);
            }
            add(END, size, 0);
            at = 0;
            fault = 0;
        }

        int code() {
            return at < count ? codes[at] : END;
        }

        int number() {
            return at < count ? numbers[at] : 0;
        }

        void skip() {
            at++;
        }

        boolean take(int code) {
            if (code() != code) {
                return fail(WRONG);
            }
            at++;
            return true;
        }

        boolean fail(int kind) {
            int place = at < count ? starts[at] : size;
            fault = 1 + 8 * place + kind;
            return false;
        }

        private void add(int code, int start, int number) {
            if (count < codes.length) {
                codes[count] = code;
                starts[count] = start;
                numbers[count] = number;
                count++;
            }
        }

        private int scanOne(int start) {
            int behind = behindRun(start, '0', '9');
            if (behind > start) {
                boolean fits = behind - start <= MOST_DIGITS;
                add(fits ? NUMBER : LONG_NUMBER, start, fits ? numberFrom(start, behind) : 0);
                return behind;
            }
            behind = behindRun(start, 'a', 'z');
            if (behind > start) {
                add(wordFrom(start, behind), start, 0);
                return behind;
            }
            int code = signAt(start);
            add(code, start, 0);
            return start + (code == LESS_OR_EQUAL || code == MORE_OR_EQUAL ? 2 : 1);
        }

        private int behindRun(int start, char least, char most) {
            int behind = start;
            while (behind < size && bytes[behind] >= least && bytes[behind] <= most) {
                behind++;
            }
            return behind;
        }

        private int numberFrom(int start, int behind) {
            int number = 0;
            for (int next = start; next < behind; next++) {
                number = number * 10 + bytes[next] - '0';
            }
            return number;
        }

        private int wordFrom(int start, int behind) {
            for (int code = FIRST_WORD; code <= LAST_WORD; code++) {
                if (isWord(wordOf(code), start, behind)) {
                    return code;
                }
            }
            return UNKNOWN;
        }

        private boolean isWord(String word, int start, int behind) {
            if (word.length() != behind - start) {
                return false;
            }
            for (int k = 0; k < word.length(); k++) {
                if (bytes[start + k] != word.charAt(k)) {
                    return false;
                }
            }
            return true;
        }

        private int signAt(int place) {
            boolean orEqual = place + 1 < size && bytes[place + 1] == '=';
            switch (bytes[place]) {
                case ';':
                    return SEMICOLON;
                case '[':
                    return OPEN;
                case ']':
                    return CLOSE;
                case '+':
                    return PLUS;
                case '-':
                    return MINUS;
                case '*':
                    return TIMES;
                case '/':
                    return OVER;
                case '%':
                    return REST;
                case '=':
                    return EQUAL;
                case '<':
                    return orEqual ? LESS_OR_EQUAL : LESS;
                case '>':
                    return orEqual ? MORE_OR_EQUAL : MORE;
                default:
                    return UNKNOWN;
            }
        }

        private static String wordOf(int code) {
            switch (code) {
                case ONE:
                    return "one";
                case OTHER:
                    return "other";
                case HARD:
                    return "hard";
                case PLACE:
                    return "place";
                case PLACEO:
                    return "placeo";
                case APART:
                    return "apart";
                case ROCK:
                    return "rock";
                case ROCKO:
                    return "rocko";
                case HEAT:
                    return "heat";
                case NEXT:
                    return "next";
                case SUGAR:
                    return "sugar";
                case DAY:
                    return "day";
                case TOWN:
                    return "town";
                case HOUSE:
                    return "house";
                case JOIN:
                    return "join";
                case POUR:
                    return "pour";
                case IF:
                    return "if";
                case OR:
                    return "or";
                case AND:
                    return "and";
                default:
                    return "not";
            }
        }
    }

    /** Reads a TOWN from the TAPE; each reading method answers false at the first FAULT. */
    private static final class TownReader {
        private final Text text;
        final Town draft = new Town();

        TownReader(Text text) {
            this.text = text;
        }

        boolean readText() {
            draft.clear();
            text.scan();
            for (int index = 0; index <= MOST_TOWN_CLAUSES; index++) {
                if (!readClause(index)) {
                    return false;
                }
                if (text.code() != SEMICOLON) {
                    return text.take(END);
                }
                text.skip();
            }
            return text.fail(CLAUSE_TOO_MANY);
        }

        private boolean readClause(int index) {
            int clause = text.code();
            if (clause != TOWN && clause != HEAT && clause != HOUSE && clause != JOIN && clause != ROCK) {
                return text.fail(WRONG);
            }
            if (index >= MOST_TOWN_CLAUSES || (clause == TOWN) != (index == 0) || isFull(clause)) {
                return text.fail(CLAUSE_TOO_MANY);
            }
            text.skip();
            switch (clause) {
                case TOWN:
                    return readHill();
                case HEAT:
                    return readHeat();
                case HOUSE:
                    return readHouse();
                case JOIN:
                    return readJoin();
                default:
                    return readRock();
            }
        }

        private boolean isFull(int clause) {
            return (clause == HEAT && draft.heatCount >= MOST_HEATS)
                    || (clause == HOUSE && draft.houseCount >= MOST_HOUSES);
        }

        private boolean readHill() {
            draft.hill = readNumber(5, 60);
            draft.begin.sugar = draft.hill < 0 ? NONE : readNumber(0, 99);
            draft.stick = draft.begin.sugar < 0 ? NONE : readNumber(0, 9);
            return draft.stick >= 0;
        }

        private boolean readHeat() {
            int heat = readNumber(0, 9);
            if (heat < 0 || draft.heatCount >= MOST_HEATS) {
                return false;
            }
            draft.heats[draft.heatCount] = heat;
            draft.heatCount++;
            return true;
        }

        private boolean readHouse() {
            int place = readNumber(0, draft.hill - 1);
            if (place < 0 || draft.houseCount >= MOST_HOUSES) {
                return false;
            }
            draft.begin.places[draft.houseCount] = place;
            draft.houseCount++;
            return true;
        }

        private boolean readJoin() {
            int one = readNumber(0, draft.houseCount - 1);
            if (one < 0) {
                return false;
            }
            if (text.code() == NUMBER && text.number() == one) {
                return text.fail(NOT_AS_TOLD);
            }
            int other = readNumber(0, draft.houseCount - 1);
            int hard = other < 0 ? NONE : readNumber(1, HARDEST);
            if (hard < 0) {
                return false;
            }
            draft.begin.setHard(one, other, hard);
            return true;
        }

        private boolean readRock() {
            int house = readNumber(0, draft.houseCount - 1);
            int hard = house < 0 ? NONE : readNumber(1, HARDEST);
            if (hard < 0) {
                return false;
            }
            draft.begin.rocks[house] = hard;
            return true;
        }

        /** NONE behind a FAULT. */
        private int readNumber(int least, int most) {
            if (text.code() != NUMBER && text.code() != LONG_NUMBER) {
                text.fail(WRONG);
                return NONE;
            }
            if (text.code() == LONG_NUMBER || !isWithin(text.number(), least, most)) {
                text.fail(NOT_AS_TOLD);
                return NONE;
            }
            int number = text.number();
            text.skip();
            return number;
        }
    }

    /** Reads a RULE from the TAPE into steps, what is joined ahead of what joins it. */
    private static final class RuleReader {
        private final Text text;
        // Each sign, word and number gives one step at most, and each CLAUSE one more.
        private final int[] steps = new int[MOST_BYTES + MOST_RULE_CLAUSES];
        private int stepCount;
        private int partCount;

        RuleReader(Text text) {
            this.text = text;
        }

        boolean readText() {
            stepCount = 0;
            partCount = 0;
            text.scan();
            for (int index = 0; index <= MOST_RULE_CLAUSES; index++) {
                if (!readClause(index)) {
                    return false;
                }
                if (text.code() != SEMICOLON) {
                    return text.take(END);
                }
                text.skip();
            }
            return text.fail(CLAUSE_TOO_MANY);
        }

        int[] writtenSteps() {
            return Arrays.copyOf(steps, stepCount);
        }

        private boolean readClause(int index) {
            if (text.code() != POUR) {
                return text.fail(WRONG);
            }
            if (index >= MOST_RULE_CLAUSES) {
                return text.fail(CLAUSE_TOO_MANY);
            }
            text.skip();
            if (!readSum()) {
                return false;
            }
            if (text.code() != IF) {
                return write(GIVE, 0);
            }
            text.skip();
            return readTest(0) && write(GIVE_IF, 0);
        }

        /** FACTS joined by and, these joined by or: what is open is written behind its second side. */
        private boolean readTest(int depth) {
            boolean openAnd = false;
            boolean openOr = false;
            for (int fact = 0; fact < MOST_BYTES; fact++) {
                if (!readFact(depth)) {
                    return false;
                }
                if (openAnd) {
                    write(AND, 0);
                }
                openAnd = text.code() == AND;
                if (!openAnd) {
                    if (openOr) {
                        write(OR, 0);
                    }
                    openOr = text.code() == OR;
                    if (!openOr) {
                        return true;
                    }
                }
                text.skip();
            }
            return text.fail(WRONG);
        }

        private boolean readFact(int depth) {
            int code = text.code();
            if (code == NOT || code == OPEN) {
                if (depth >= MOST_DEEP) {
                    return text.fail(TOO_DEEP);
                }
                text.skip();
                if (code == NOT) {
                    return readFact(depth + 1) && write(NOT, 0);
                }
                return readTest(depth + 1) && text.take(CLOSE);
            }
            if (!readSum()) {
                return false;
            }
            int sign = text.code();
            if (!isWithin(sign, LESS, MORE)) {
                return text.fail(WRONG);
            }
            if (partCount >= MOST_PARTS) {
                return text.fail(PART_TOO_MANY);
            }
            partCount++;
            text.skip();
            return readSum() && write(sign, 0);
        }

        /** VALUES joined by * / %, these joined by + -: what is open is written behind its second side. */
        private boolean readSum() {
            int openTimes = END;
            int openPlus = END;
            for (int value = 0; value < MOST_BYTES; value++) {
                if (!readValue()) {
                    return false;
                }
                if (openTimes != END) {
                    write(openTimes, 0);
                }
                openTimes = isWithin(text.code(), TIMES, REST) ? text.code() : END;
                if (openTimes == END) {
                    if (openPlus != END) {
                        write(openPlus, 0);
                    }
                    openPlus = isWithin(text.code(), PLUS, MINUS) ? text.code() : END;
                    if (openPlus == END) {
                        return true;
                    }
                }
                text.skip();
            }
            return text.fail(WRONG);
        }

        private boolean readValue() {
            int code = text.code();
            if (code == LONG_NUMBER) {
                return text.fail(NOT_AS_TOLD);
            }
            if (code != NUMBER && !isWithin(code, ONE, DAY)) {
                return text.fail(WRONG);
            }
            if (partCount >= MOST_PARTS) {
                return text.fail(PART_TOO_MANY);
            }
            partCount++;
            write(code, text.number());
            text.skip();
            return true;
        }

        private boolean write(int code, int number) {
            if (stepCount >= steps.length) {
                return false;
            }
            steps[stepCount] = number << 6 | code;
            stepCount++;
            return true;
        }
    }

    /** A RULE as steps over a stack of numbers; what is so is 1, what is not is 0. */
    private static final class Rule {
        // Two numbers wait in each of 11 depths at most, and five in the SUMS.
        private static final int STACK = 40;
        private final int[] steps;
        private final long[] stack = new long[STACK];

        Rule(int[] steps) {
            this.steps = steps;
        }

        long worth(long[] words) {
            int top = 0;
            for (int at = 0; at < steps.length; at++) {
                int code = steps[at] & 63;
                if (code == NUMBER || isWithin(code, ONE, DAY)) {
                    if (top >= STACK) {
                        return 0;
                    }
                    stack[top] = code == NUMBER ? steps[at] >> 6 : words[code - ONE];
                    top++;
                } else if (top >= 1 && code == NOT) {
                    stack[top - 1] = 1 - stack[top - 1];
                } else if (top >= 1 && code == GIVE) {
                    return stack[top - 1];
                } else if (top < 2) {
                    return 0;
                } else if (code != GIVE_IF) {
                    stack[top - 2] = joined(code, stack[top - 2], stack[top - 1]);
                    top--;
                } else if (stack[top - 1] == 1) {
                    return stack[top - 2];
                } else {
                    top -= 2;
                }
            }
            return 0;
        }

        private static long joined(int code, long left, long right) {
            switch (code) {
                case PLUS:
                    return left + right;
                case MINUS:
                    return left - right;
                case TIMES:
                    return left * right;
                case OVER:
                    return right == 0 ? 0 : left / right;
                case REST:
                    return right == 0 ? 0 : left % right;
                case LESS:
                    return left < right ? 1 : 0;
                case LESS_OR_EQUAL:
                    return left <= right ? 1 : 0;
                case EQUAL:
                    return left == right ? 1 : 0;
                case MORE_OR_EQUAL:
                    return left >= right ? 1 : 0;
                case MORE:
                    return left > right ? 1 : 0;
                case AND:
                    return left & right;
                default:
                    return left | right;
            }
        }
    }

    /** What DAYS and ACTS change. */
    private static final class Standing {
        int day;
        int sugar;
        int ice;
        final int[] places = new int[MOST_HOUSES];
        final int[] rocks = new int[MOST_HOUSES];
        // Both ways round, so that no caller has to put the less HOUSE first.
        private final int[] pours = new int[MOST_HOUSES * MOST_HOUSES];

        void clear() {
            day = 0;
            sugar = 0;
            ice = 0;
            Arrays.fill(places, 0);
            Arrays.fill(rocks, 0);
            Arrays.fill(pours, 0);
        }

        void copy(Standing from) {
            day = from.day;
            sugar = from.sugar;
            ice = from.ice;
            System.arraycopy(from.places, 0, places, 0, MOST_HOUSES);
            System.arraycopy(from.rocks, 0, rocks, 0, MOST_HOUSES);
            System.arraycopy(from.pours, 0, pours, 0, MOST_HOUSES * MOST_HOUSES);
        }

        int hardOf(int one, int other) {
            return pours[one * MOST_HOUSES + other];
        }

        void setHard(int one, int other, int hard) {
            pours[one * MOST_HOUSES + other] = hard;
            pours[other * MOST_HOUSES + one] = hard;
        }

        void harden(int one, int other) {
            setHard(one, other, hardOf(one, other) + 1);
            sugar--;
        }

        boolean canHarden(int one, int other) {
            return hardOf(one, other) > 0 && hardOf(one, other) < HARDEST;
        }

        /** HOUSES to which one has a pour harder than that, as bits. */
        int harderTo(int house, int than) {
            int bits = 0;
            for (int other = 0; other < MOST_HOUSES; other++) {
                if (pours[house * MOST_HOUSES + other] > than) {
                    bits |= 1 << other;
                }
            }
            return bits;
        }

        int pouredTo(int house) {
            return harderTo(house, 0);
        }

        int hardnessOf(int house) {
            int sum = rocks[house];
            for (int other = 0; other < MOST_HOUSES; other++) {
                sum += hardOf(house, other);
            }
            return sum;
        }

        void loosen(int house) {
            rocks[house] = 0;
            for (int other = 0; other < MOST_HOUSES; other++) {
                setHard(house, other, 0);
            }
        }
    }

    /** A TOWN as its text told it; without one HILL is 0. */
    private static final class Town {
        int hill;
        int stick;
        final int[] heats = new int[MOST_HEATS];
        int heatCount;
        int houseCount;
        final Standing begin = new Standing();

        void clear() {
            hill = 0;
            stick = 0;
            heatCount = 0;
            houseCount = 0;
            begin.clear();
        }

        void copy(Town from) {
            hill = from.hill;
            stick = from.stick;
            heatCount = from.heatCount;
            houseCount = from.houseCount;
            System.arraycopy(from.heats, 0, heats, 0, MOST_HEATS);
            begin.copy(from.begin);
        }

        int toldHeat(int day) {
            return heatCount > 0 && day >= 0 ? heats[day % heatCount] : 0;
        }

        int heatOf(Standing standing) {
            int told = toldHeat(standing.day);
            return standing.ice > 0 ? Math.max(0, told - ICE_COOLS) : told;
        }

        int riverBits(Standing standing) {
            int bits = 0;
            for (int house = 0; house < houseCount; house++) {
                if (standing.places[house] >= hill) {
                    bits |= 1 << house;
                }
            }
            return bits;
        }

        int placesOf(Standing standing) {
            int sum = 0;
            for (int house = 0; house < houseCount; house++) {
                sum += standing.places[house];
            }
            return sum;
        }
    }

    /** All that an IMAGE holds. */
    private static final class Scene {
        final Town town = new Town();
        final Standing now = new Standing();
        // What was ahead of each ACT; rows are made when first needed, and used again.
        private final Standing[] past = new Standing[MOST_ACTS];
        int pastCount;
        private final int[] noteDays = new int[MOST_NOTES];
        private final int[] noteHouses = new int[MOST_NOTES];
        private final int[] notePlaces = new int[MOST_NOTES];
        int noteCount;
        int inForce = NONE;
        int x;

        void open(Town told) {
            town.copy(told);
            now.copy(told.begin);
            pastCount = 0;
            noteCount = 0;
        }

        void copy(Scene from) {
            town.copy(from.town);
            now.copy(from.now);
            pastCount = from.pastCount;
            for (int act = 0; act < pastCount; act++) {
                pastAt(act).copy(from.pastAt(act));
            }
            noteCount = from.noteCount;
            System.arraycopy(from.noteDays, 0, noteDays, 0, MOST_NOTES);
            System.arraycopy(from.noteHouses, 0, noteHouses, 0, MOST_NOTES);
            System.arraycopy(from.notePlaces, 0, notePlaces, 0, MOST_NOTES);
            inForce = from.inForce;
            x = from.x;
        }

        private Standing pastAt(int act) {
            if (past[act] == null) {
                past[act] = new Standing();
            }
            return past[act];
        }

        void remember() {
            if (pastCount == MOST_ACTS) {
                forgetFirst();
            }
            pastAt(pastCount).copy(now);
            pastCount++;
        }

        private void forgetFirst() {
            Standing first = past[0];
            for (int act = 1; act < MOST_ACTS; act++) {
                past[act - 1] = past[act];
            }
            past[MOST_ACTS - 1] = first;
            pastCount--;
        }

        boolean goBackAnAct() {
            if (pastCount == 0) {
                return false;
            }
            pastCount--;
            now.copy(pastAt(pastCount));
            return true;
        }

        void addNote(int day, int house, int place) {
            if (noteCount < MOST_NOTES) {
                noteDays[noteCount] = day;
                noteHouses[noteCount] = house;
                notePlaces[noteCount] = place;
                noteCount++;
            }
        }

        boolean isAsNoted(Standing standing) {
            for (int note = 0; note < noteCount; note++) {
                if (noteDays[note] == standing.day && standing.places[noteHouses[note]] != notePlaces[note]) {
                    return false;
                }
            }
            return true;
        }

        int lastNotedDay() {
            int last = 0;
            for (int note = 0; note < noteCount; note++) {
                last = Math.max(last, noteDays[note]);
            }
            return last;
        }
    }

    /** How a DAY goes. */
    private static final class Days {
        final Town town;
        private final int[] holds = new int[MOST_HOUSES];
        private final long[] words = new long[VALUE_WORDS];

        Days(Town town) {
            this.town = town;
        }

        void passAll(Standing standing, Rule rule, int n) {
            for (int day = 0; day < n; day++) {
                pass(standing, rule, town.heatOf(standing));
            }
        }

        /** How many HOUSES go down. */
        int pass(Standing standing, Rule rule, int heat) {
            if (rule != null && standing.sugar > 0) {
                hardenBy(standing, rule, heat);
            }
            return melt(standing, heat);
        }

        private void hardenBy(Standing standing, Rule rule, int heat) {
            long most = 0;
            int bestOne = NONE;
            int bestOther = NONE;
            for (int one = 0; one < town.houseCount; one++) {
                for (int other = one + 1; other < town.houseCount; other++) {
                    if (standing.canHarden(one, other)) {
                        fillWords(standing, one, other, heat);
                        long worth = rule.worth(words);
                        if (worth > most) {
                            most = worth;
                            bestOne = one;
                            bestOther = other;
                        }
                    }
                }
            }
            if (bestOne >= 0) {
                standing.harden(bestOne, bestOther);
            }
        }

        private void fillWords(Standing standing, int one, int other, int heat) {
            words[ONE - FIRST_WORD] = one;
            words[OTHER - FIRST_WORD] = other;
            words[HARD - FIRST_WORD] = standing.hardOf(one, other);
            words[PLACE - FIRST_WORD] = standing.places[one];
            words[PLACEO - FIRST_WORD] = standing.places[other];
            words[APART - FIRST_WORD] = Math.abs(standing.places[one] - standing.places[other]);
            words[ROCK - FIRST_WORD] = standing.rocks[one];
            words[ROCKO - FIRST_WORD] = standing.rocks[other];
            words[HEAT - FIRST_WORD] = heat;
            words[NEXT - FIRST_WORD] = town.toldHeat(standing.day + 1);
            words[SUGAR - FIRST_WORD] = standing.sugar;
            words[DAY - FIRST_WORD] = standing.day;
        }

        /** A DAY behind its hardening; how many HOUSES go down. */
        int melt(Standing standing, int heat) {
            int gone = runDown(standing, heat);
            for (int house = 0; house < town.houseCount; house++) {
                if (standing.places[house] >= town.hill) {
                    standing.loosen(house);
                }
            }
            stickTogether(standing, gone);
            standing.ice = Math.max(0, standing.ice - 1);
            standing.day++;
            return Integer.bitCount(gone);
        }

        /** The HOUSES that go down, as bits. */
        private int runDown(Standing standing, int heat) {
            findHolds(standing, heat);
            int seen = town.riverBits(standing);
            int gone = 0;
            for (int house = 0; house < town.houseCount; house++) {
                if (!hasBit(seen, house)) {
                    int block = blockOf(house);
                    int steps = heat - Integer.bitCount(block) + 1;
                    seen |= block;
                    if (steps > 0 && !isFast(standing, block, heat)) {
                        lower(standing, block, steps);
                        gone |= block;
                    }
                }
            }
            return gone;
        }

        private void lower(Standing standing, int block, int steps) {
            for (int house = 0; house < town.houseCount; house++) {
                if (hasBit(block, house)) {
                    standing.places[house] = Math.min(town.hill, standing.places[house] + steps);
                }
            }
        }

        private void stickTogether(Standing standing, int gone) {
            for (int one = 0; one < town.houseCount; one++) {
                for (int other = one + 1; other < town.houseCount; other++) {
                    boolean met = standing.places[one] == standing.places[other] && standing.places[one] < town.hill;
                    boolean moved = hasBit(gone, one) || hasBit(gone, other);
                    if (met && moved && standing.hardOf(one, other) == 0) {
                        standing.setHard(one, other, town.stick);
                    }
                }
            }
        }

        void findHolds(Standing standing, int heat) {
            for (int house = 0; house < MOST_HOUSES; house++) {
                holds[house] = standing.harderTo(house, heat);
            }
        }

        /** By what findHolds found last. */
        int blockOf(int house) {
            int block = 1 << house;
            for (int round = 0; round < MOST_HOUSES; round++) {
                int wider = block;
                for (int each = 0; each < MOST_HOUSES; each++) {
                    if (hasBit(block, each)) {
                        wider |= holds[each];
                    }
                }
                if (wider == block) {
                    return block;
                }
                block = wider;
            }
            return block;
        }

        boolean isFast(Standing standing, int block, int heat) {
            for (int house = 0; house < MOST_HOUSES; house++) {
                if (hasBit(block, house) && standing.rocks[house] > heat) {
                    return true;
                }
            }
            return false;
        }
    }

    /** Tries every row of pours, the first one first. */
    private static final class Rows {
        private final Days days;
        private final Standing[] steps = {new Standing(), new Standing(), new Standing(), new Standing()};
        private final int[] tried = new int[DAYS_ROW];
        final int[] best = new int[DAYS_ROW];
        int least;

        Rows(Days days) {
            this.days = days;
        }

        void find(Standing now, int n) {
            least = BEYOND_ALL;
            steps[0].copy(now);
            search(0, n);
        }

        private void search(int depth, int n) {
            if (depth >= n || depth >= DAYS_ROW) {
                keepIfBetter(depth);
                return;
            }
            goOn(depth, n, NONE, NONE);
            if (steps[depth].sugar <= 0) {
                return;
            }
            for (int one = 0; one < days.town.houseCount; one++) {
                for (int other = one + 1; other < days.town.houseCount; other++) {
                    if (steps[depth].canHarden(one, other)) {
                        goOn(depth, n, one, other);
                    }
                }
            }
        }

        private void goOn(int depth, int n, int one, int other) {
            Standing next = steps[depth + 1];
            next.copy(steps[depth]);
            tried[depth] = NONE;
            if (one >= 0) {
                next.harden(one, other);
                tried[depth] = 8 * one + other;
            }
            days.melt(next, days.town.heatOf(next));
            search(depth + 1, n);
        }

        private void keepIfBetter(int depth) {
            int places = days.town.placesOf(steps[depth]);
            if (places < least) {
                least = places;
                System.arraycopy(tried, 0, best, 0, DAYS_ROW);
            }
        }
    }

    /** The game of two HOUSES about their ROCKS. */
    private static final class Rests {
        private static final int CHOICES = 5;
        private final Days days;
        private final Standing trial = new Standing();
        private final int[] lossesOne = new int[CHOICES * CHOICES];
        private final int[] lossesOther = new int[CHOICES * CHOICES];
        int many;
        int firstOne;
        int firstOther;

        Rests(Days days) {
            this.days = days;
        }

        void play(Standing now, Rule rule, int one, int other, int n) {
            for (int game = 0; game < CHOICES * CHOICES; game++) {
                int choiceOne = game / CHOICES;
                int choiceOther = game % CHOICES;
                trial.copy(now);
                trial.rocks[one] = 2 * choiceOne;
                trial.rocks[other] = 2 * choiceOther;
                days.passAll(trial, rule, n);
                lossesOne[game] = trial.places[one] + choiceOne;
                lossesOther[game] = trial.places[other] + choiceOther;
            }
        }

        void find() {
            many = 0;
            firstOne = -2;
            firstOther = -2;
            for (int game = 0; game < CHOICES * CHOICES; game++) {
                if (isRest(game / CHOICES, game % CHOICES)) {
                    if (many == 0) {
                        firstOne = game / CHOICES * 2;
                        firstOther = game % CHOICES * 2;
                    }
                    many++;
                }
            }
        }

        private boolean isRest(int choiceOne, int choiceOther) {
            int game = choiceOne * CHOICES + choiceOther;
            for (int choice = 0; choice < CHOICES; choice++) {
                if (lossesOne[choice * CHOICES + choiceOther] < lossesOne[game]
                        || lossesOther[choiceOne * CHOICES + choice] < lossesOther[game]) {
                    return false;
                }
            }
            return true;
        }
    }

    /** The RULES, none ahead of them, by which all NOTES are so. */
    private static final class Candidates {
        private final Days days;
        private final Standing trial = new Standing();
        final int[] which = new int[MOST_RULES + 1];
        int many;
        private final int[] seen = new int[(MOST_RULES + 1) * MOST_HOUSES];

        Candidates(Days days) {
            this.days = days;
        }

        void find(Scene scene, Rule[] rules, int ruleCount, int lookDay) {
            many = 0;
            for (int rule = NONE; rule < ruleCount && many < which.length; rule++) {
                if (isSo(scene, rule < 0 ? null : rules[rule], lookDay)) {
                    which[many] = rule;
                    many++;
                }
            }
        }

        private boolean isSo(Scene scene, Rule rule, int lookDay) {
            int last = Math.max(lookDay, scene.lastNotedDay());
            trial.copy(days.town.begin);
            for (int day = 0; day <= last; day++) {
                if (!scene.isAsNoted(trial)) {
                    return false;
                }
                if (day == lookDay) {
                    System.arraycopy(trial.places, 0, seen, many * MOST_HOUSES, MOST_HOUSES);
                }
                days.pass(trial, rule, days.town.heatOf(trial));
            }
            return true;
        }

        /** How many at most see the HOUSE at one PLACE on the DAY looked at. */
        int mostAlike(int house) {
            int most = 0;
            for (int one = 0; one < many; one++) {
                int alike = 0;
                for (int other = 0; other < many; other++) {
                    if (seen[one * MOST_HOUSES + house] == seen[other * MOST_HOUSES + house]) {
                        alike++;
                    }
                }
                most = Math.max(most, alike);
            }
            return most;
        }
    }
}
