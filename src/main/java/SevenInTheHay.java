import java.util.Arrays;

/** Cards laid face down in a ring; one may turn only what the last one points to. */
public final class SevenInTheHay {
    public static final int NONE = -1, BAD = -2, STATE = -3, FULL = -4;
    public static final long NO = -4611686018427387904L;

    private static final int MISSING = -11, OUTSIDE = -12, UNLIKE = -13, BELOW_ZERO = -14;
    private static final int NOT_TOLD = -100, NO_TEXT = -100, NO_ROUND = -100000;

    private static final int MOST_PLACES = 16, MOST_TEXTS = 6, MOST_BYTES = 160;
    private static final int MOST_SHEETS = 4, MOST_ITEMS = 40, MOST_SEEDS = 20;
    private static final int MOST_LAID = 6, MOST_LAYINGS = 720;
    private static final int KINDS = 6, NUMBERS = 10, SORTS = 3;

    private static final int KING = 1, QUEEN = 2, KNAVE = 3, JOKER = 4, SEVEN = 5;
    private static final int[] KIND_ABOVE = {NONE, 0, 0, KING, QUEEN, 0};

    private static final int HARVEST = 0, HOME = 1, DIED = 2, BLOCKED = 3;
    private static final int FIRST_TURNED = 10, FIRST_OF_KINDS = 10, FIRST_OF_NUMBERS = 30;

    private final Ring ring = new Ring();
    // What only "would be" is tried here, so that the true ring is never touched by it.
    private final Ring trial = new Ring();
    private final Ring image = new Ring();
    private final Round played = new Round();
    private final Order order = new Order();
    private final Reader reader = new Reader();
    private final Text[] texts = new Text[MOST_TEXTS];
    private final Sheet[] sheets = new Sheet[MOST_SHEETS];
    private int textCount = 1;
    private int rule;
    private boolean hasImage;
    private int imageRule;

    public SevenInTheHay() {
        for (int i = 0; i < texts.length; i++) {
            texts[i] = new Text();
        }
        for (int i = 0; i < sheets.length; i++) {
            sheets[i] = new Sheet();
        }
    }

    // ---- the ring

    public int card(int kind, int number) {
        if (!isCard(kind, number)) {
            return BAD;
        }
        return ring.isFull() ? FULL : ring.add(cardOf(kind, number));
    }

    public int lay(int place, int kind, int number) {
        if (!ring.has(place) || !isCard(kind, number)) {
            return BAD;
        }
        int was = ring.at(place);
        ring.put(place, cardOf(kind, number));
        return was;
    }

    public int takeUp() {
        if (ring.size() == 0) {
            return STATE;
        }
        int last = ring.at(ring.size() - 1);
        ring.dropLast();
        return last;
    }

    public int swap(int a, int b) {
        if (!ring.has(a) || !ring.has(b)) {
            return BAD;
        }
        ring.exchange(a, b);
        return a == b ? 0 : 1;
    }

    public int told(int place, int what) {
        if (!ring.has(place)) {
            return NOT_TOLD;
        }
        switch (what) {
            case 0: return ring.kindAt(place);
            case 1: return ring.numberAt(place);
            case 2: return ring.blocks(place) ? 1 : 0;
            case 3: return ring.points(place, place);
            default: return NOT_TOLD;
        }
    }

    // ---- texts

    public int feed(int letter) {
        if (letter < 0 || letter > 255) {
            return BAD;
        }
        return reader.isFull() ? FULL : reader.add(letter);
    }

    public int text() {
        Text room = textCount >= 0 && textCount < texts.length ? texts[textCount] : null;
        if (room == null) {
            return FULL;
        }
        int fault = reader.read(room);
        if (fault != NONE) {
            return NO_TEXT - fault;
        }
        textCount++;
        return textCount - 1;
    }

    public int force(int text) {
        if (textAt(text) == null) {
            return BAD;
        }
        int was = rule;
        rule = text;
        return was;
    }

    // ---- rounds

    public int round(int from, int what) {
        boolean asksEnd = what >= 0 && what <= 4;
        boolean asksPlace = what >= FIRST_TURNED && what < FIRST_TURNED + MOST_PLACES;
        if (!ring.has(from) || !asksEnd && !asksPlace) {
            return NO_ROUND;
        }
        played.play(ring, from, textAt(rule));
        switch (what) {
            case 0: return played.end();
            case 1: return played.length();
            case 2: return played.worth(ring, textAt(rule));
            case 3: return played.last();
            case 4: return played.bits();
            default: return played.turnedAt(what - FIRST_TURNED);
        }
    }

    public int harvests() {
        int bits = 0;
        for (int from = 0; from < ring.size(); from++) {
            if (isHarvest(ring, from)) {
                bits |= 1 << from;
            }
        }
        return bits;
    }

    public int best(int what) {
        if (!isFirstOrSecond(what)) {
            return BAD;
        }
        int where = NONE;
        int most = 0;
        for (int from = 0; from < ring.size(); from++) {
            int length = lengthOf(ring, from);
            if (length > most) {
                where = from;
                most = length;
            }
        }
        return what == 0 ? where : most;
    }

    // ---- what would be best

    public int change(int from, int what) {
        if (!ring.has(from) || !isFirstOrSecond(what)) {
            return BAD;
        }
        trial.become(ring);
        int pair = NONE;
        int most = lengthOf(ring, from);
        for (int a = 0; a < ring.size(); a++) {
            for (int b = a + 1; b < ring.size(); b++) {
                trial.exchange(a, b);
                int length = lengthOf(trial, from);
                trial.exchange(a, b);
                if (length > most) {
                    pair = 100 * a + b;
                    most = length;
                }
            }
        }
        return what == 0 ? pair : most;
    }

    public int anew(int place, int from, int what) {
        if (!ring.has(place) || !ring.has(from) || !isFirstOrSecond(what)) {
            return BAD;
        }
        trial.become(ring);
        int many = 0;
        int least = NONE;
        for (int card = 0; card < KINDS * NUMBERS; card++) {
            trial.put(place, card);
            if (isHarvest(trial, from)) {
                many++;
                least = least == NONE ? card : least;
            }
        }
        return what == 0 ? many : least;
    }

    public int hay(int from, int what) {
        if (!ring.has(from) || !isFirstOrSecond(what)) {
            return NO_ROUND;
        }
        trial.become(ring);
        int where = NONE;
        int most = 0;
        for (int place = 0; place < ring.size(); place++) {
            trial.put(place, cardOf(SEVEN, ring.numberAt(place)));
            played.play(trial, from, textAt(rule));
            int worth = played.worth(trial, textAt(rule));
            trial.put(place, ring.at(place));
            if (where == NONE || worth > most) {
                where = place;
                most = worth;
            }
        }
        return what == 0 ? where : most;
    }

    public int layings(int what) {
        if (!isFirstOrSecond(what)) {
            return BAD;
        }
        if (ring.size() > MOST_LAID) {
            return STATE;
        }
        trial.become(ring);
        order.begin(ring.size());
        int many = 0;
        int first = 0;
        boolean more = true;
        for (int i = 0; i < MOST_LAYINGS && more; i++) {
            layInOrder();
            if (isHarvest(trial, 0)) {
                many++;
                first = many == 1 ? order.digits() : first;
            }
            more = order.goOn();
        }
        return what == 0 ? many : first;
    }

    // ---- rounds that were told

    public int tells(int sheet, int what) {
        Sheet s = sheetAt(sheet);
        if (s == null || !asksOfTold(what)) {
            return BAD;
        }
        if (s.isMissing()) {
            return MISSING;
        }
        if (!tellsPlaces(s)) {
            return BAD;
        }
        switch (what) {
            case 0: return otherwise(s, ring, textAt(rule));
            case 1: return startsOf(s);
            case 2: return textsOf(s);
            default: return what < FIRST_OF_NUMBERS
                ? kindsOf(s, what - FIRST_OF_KINDS)
                : numbersOf(s, what - FIRST_OF_NUMBERS);
        }
    }

    public int film(int sheet, int from) {
        Sheet s = sheetAt(sheet);
        if (s == null || !ring.has(from)) {
            return BAD;
        }
        played.play(ring, from, textAt(rule));
        s.become(0, played.length());
        for (int i = 0; i < played.length(); i++) {
            s.set(i, played.turnedAt(i));
        }
        return played.length();
    }

    public int drawn(int seed) {
        if (ring.size() == 0) {
            return STATE;
        }
        draw(seed);
        return lengthOf(trial, 0);
    }

    public long chance(int seed, int n, int part) {
        if (n < 1 || n > MOST_SEEDS || !isFirstOrSecond(part) || ring.size() == 0) {
            return NO;
        }
        int harvests = 0;
        for (int i = 0; i < n; i++) {
            draw(seed + i);
            if (isHarvest(trial, 0)) {
                harvests++;
            }
        }
        int divisor = commonDivisor(harvests, n);
        return divisor < 1 ? NO : (part == 0 ? harvests : n) / divisor;
    }

    public int image() {
        image.become(ring);
        imageRule = rule;
        hasImage = true;
        return image.size();
    }

    public int back() {
        if (!hasImage) {
            return STATE;
        }
        ring.become(image);
        rule = imageRule;
        return ring.size();
    }

    public int count(int what) {
        switch (what) {
            case 0: return ring.size();
            case 1: return textCount;
            case 2: return reader.size();
            case 3: return rule;
            default: return BAD;
        }
    }

    // ---- the host

    public int sheet(int sheet, int sort, int n) {
        Sheet s = sheetAt(sheet);
        if (s == null || sort != NONE && !isSort(sort)) {
            return BAD;
        }
        if (sort == NONE) {
            s.become(NONE, 0);
            return 1;
        }
        if (n > MOST_ITEMS) {
            return BAD;
        }
        if (n < 0) {
            return BELOW_ZERO;
        }
        s.become(sort, n);
        return 1;
    }

    public int cell(int sheet, int i, int v) {
        Sheet s = sheetAt(sheet);
        if (s == null) {
            return BAD;
        }
        if (s.isMissing()) {
            return MISSING;
        }
        if (!s.has(i)) {
            return OUTSIDE;
        }
        s.set(i, v);
        return 1;
    }

    public int copy(int sheet, int i, int other, int j, int n) {
        Sheet s = sheetAt(sheet);
        Sheet t = sheetAt(other);
        if (s == null || t == null) {
            return BAD;
        }
        if (s.isMissing() || t.isMissing()) {
            return MISSING;
        }
        if (s.sort() != t.sort()) {
            return UNLIKE;
        }
        if (!s.hasRow(i, n) || !t.hasRow(j, n)) {
            return OUTSIDE;
        }
        t.takeRow(j, s, i, n);
        return n;
    }

    public int cards(int sheet, int sort, int from, int n) {
        Sheet s = sheetAt(sheet);
        if (s == null || !isSort(sort) || n < 0 || n > MOST_PLACES) {
            return BAD;
        }
        if (s.isMissing()) {
            return MISSING;
        }
        if (s.sort() != sort) {
            return UNLIKE;
        }
        int came = 0;
        int at = from;
        for (int i = 0; i < n; i++) {
            if (!s.has(at) || !s.has(at + 1)) {
                return OUTSIDE;
            }
            if (card(s.at(at), s.at(at + 1)) >= 0) {
                came++;
            }
            at += 2;
        }
        return came;
    }

    public int taken(int place, int k) {
        if (k < 0 || k >= KINDS) {
            return BAD;
        }
        if (!ring.has(place)) {
            return MISSING;
        }
        return isUnder(ring.kindAt(place), k) ? ring.numberAt(place) : UNLIKE;
    }

    // ---- what the calls share

    private static boolean isCard(int kind, int number) {
        return kind >= 0 && kind < KINDS && number >= 0 && number < NUMBERS;
    }

    private static int cardOf(int kind, int number) {
        return NUMBERS * kind + number;
    }

    private static boolean isUnder(int kind, int above) {
        int k = kind;
        for (int i = 0; i < KINDS && k != above; i++) {
            k = k >= 0 && k < KIND_ABOVE.length ? KIND_ABOVE[k] : NONE;
        }
        return k == above;
    }

    private static boolean isFirstOrSecond(int what) {
        return what == 0 || what == 1;
    }

    private static boolean isSort(int sort) {
        return sort >= 0 && sort < SORTS;
    }

    private static int commonDivisor(int a, int b) {
        for (int d = b; d > 1; d--) {
            if (a % d == 0 && b % d == 0) {
                return d;
            }
        }
        return 1;
    }

    private Text textAt(int text) {
        return text >= 0 && text < textCount && text < texts.length ? texts[text] : null;
    }

    private Sheet sheetAt(int sheet) {
        return sheet >= 0 && sheet < sheets.length ? sheets[sheet] : null;
    }

    private int lengthOf(Ring cards, int from) {
        played.play(cards, from, textAt(rule));
        return played.length();
    }

    private boolean isHarvest(Ring cards, int from) {
        played.play(cards, from, textAt(rule));
        return played.end() == HARVEST;
    }

    private void layInOrder() {
        for (int place = 0; place < ring.size(); place++) {
            trial.put(place, ring.at(order.at(place)));
        }
    }

    private void draw(int seed) {
        trial.become(ring);
        int z = seed;
        for (int k = ring.size() - 1; k >= 1; k--) {
            z = z * 1103515245 + 12345;
            trial.exchange(k, (z >>> 9) % (k + 1));
        }
    }

    private boolean asksOfTold(int what) {
        return what >= 0 && what <= 2
            || ring.has(what - FIRST_OF_KINDS)
            || ring.has(what - FIRST_OF_NUMBERS);
    }

    private boolean tellsPlaces(Sheet s) {
        if (s.size() < 1 || s.size() > MOST_PLACES) {
            return false;
        }
        for (int i = 0; i < s.size(); i++) {
            if (!ring.has(s.at(i))) {
                return false;
            }
        }
        return true;
    }

    private int otherwise(Sheet s, Ring cards, Text text) {
        played.play(cards, s.at(0), text);
        for (int i = 0; i < s.size(); i++) {
            if (i >= played.length() || played.turnedAt(i) != s.at(i)) {
                return i;
            }
        }
        return played.length() > s.size() ? s.size() : NONE;
    }

    private int startsOf(Sheet s) {
        int bits = 0;
        for (int from = 0; from < ring.size(); from++) {
            int length = lengthOf(ring, from);
            if (length == s.size() && played.last() == s.at(s.size() - 1)) {
                bits |= 1 << from;
            }
        }
        return bits;
    }

    private int textsOf(Sheet s) {
        int bits = 0;
        for (int i = 0; i < textCount; i++) {
            if (otherwise(s, ring, textAt(i)) == NONE) {
                bits |= 1 << i;
            }
        }
        return bits;
    }

    private int kindsOf(Sheet s, int place) {
        trial.become(ring);
        int bits = 0;
        for (int kind = 0; kind < KINDS; kind++) {
            trial.put(place, cardOf(kind, ring.numberAt(place)));
            if (otherwise(s, trial, textAt(rule)) == NONE) {
                bits |= 1 << kind;
            }
        }
        return bits;
    }

    private int numbersOf(Sheet s, int place) {
        trial.become(ring);
        int bits = 0;
        for (int number = 0; number < NUMBERS; number++) {
            trial.put(place, cardOf(ring.kindAt(place), number));
            if (otherwise(s, trial, textAt(rule)) == NONE) {
                bits |= 1 << number;
            }
        }
        return bits;
    }

    /** The cards on the places, each kept as 10 times its kind, and its number. */
    private static final class Ring {
        private final int[] row = new int[MOST_PLACES];
        private int size;

        int size() {
            return size;
        }

        boolean isFull() {
            return size >= row.length;
        }

        boolean has(int place) {
            return place >= 0 && place < size && place < row.length;
        }

        int at(int place) {
            return place >= 0 && place < size && place < row.length ? row[place] : 0;
        }

        int kindAt(int place) {
            return at(place) / NUMBERS;
        }

        int numberAt(int place) {
            return at(place) % NUMBERS;
        }

        void put(int place, int card) {
            if (has(place)) {
                row[place] = card;
            }
        }

        int add(int card) {
            if (isFull()) {
                return FULL;
            }
            size++;
            put(size - 1, card);
            return size - 1;
        }

        void dropLast() {
            if (size > 0) {
                size--;
            }
        }

        void exchange(int a, int b) {
            int first = at(a);
            put(a, at(b));
            put(b, first);
        }

        void become(Ring other) {
            size = other.size;
            System.arraycopy(other.row, 0, row, 0, row.length);
        }

        boolean blocks(int place) {
            return kindAt(place) == SEVEN;
        }

        int points(int place, int from) {
            int number = numberAt(place);
            switch (kindAt(place)) {
                case KING: return -number;
                case QUEEN: return size / 2;
                case KNAVE: return from == place ? -number : from - place;
                case JOKER: return size / 2 + 1;
                default: return number;
            }
        }

        int pays(int place, int plain) {
            int number = numberAt(place);
            switch (kindAt(place)) {
                case KING: return plain + number;
                case QUEEN: return 2 * plain;
                case KNAVE: return plain + number - 1;
                case JOKER: return 2 * plain;
                case SEVEN: return plain - 7;
                default: return plain;
            }
        }
    }

    /** The orders of up to six places, from the least on. */
    private static final class Order {
        private final int[] row = new int[MOST_LAID];
        private int size;

        void begin(int n) {
            size = Math.max(0, Math.min(n, row.length));
            for (int i = 0; i < size; i++) {
                row[i] = i;
            }
        }

        int at(int i) {
            return i >= 0 && i < size && i < row.length ? row[i] : 0;
        }

        boolean goOn() {
            int i = size - 2;
            while (i >= 0 && at(i) > at(i + 1)) {
                i--;
            }
            if (i < 0) {
                return false;
            }
            int j = size - 1;
            while (j > i && at(j) < at(i)) {
                j--;
            }
            exchange(i, j);
            for (int low = i + 1, high = size - 1; low < high; low++, high--) {
                exchange(low, high);
            }
            return true;
        }

        int digits() {
            int digits = 0;
            for (int i = 0; i < size; i++) {
                digits = 10 * digits + at(i) + 1;
            }
            return digits;
        }

        private void exchange(int a, int b) {
            if (a >= 0 && a < row.length && b >= 0 && b < row.length) {
                int first = row[a];
                row[a] = row[b];
                row[b] = first;
            }
        }
    }

    /** The round played last: all rounds use this one's rows again. */
    private static final class Round {
        private final int[] turned = new int[MOST_PLACES];
        private final int[] names = new int[Text.NAMES];
        private final int[] stack = new int[Text.MOST_STACKED];
        private int length;
        private int bits;
        private int end;

        int length() {
            return length;
        }

        int bits() {
            return bits;
        }

        int end() {
            return end;
        }

        int turnedAt(int i) {
            return i >= 0 && i < length && i < turned.length ? turned[i] : NONE;
        }

        int last() {
            return turnedAt(length - 1);
        }

        void play(Ring ring, int from, Text text) {
            length = 0;
            bits = 0;
            end = DIED;
            int n = ring.size();
            if (text == null || n < 1 || !ring.has(from)) {
                return;
            }
            int place = from;
            for (int i = 0; i < n && place != NONE; i++) {
                turn(place);
                if (ring.blocks(place)) {
                    end = BLOCKED;
                    return;
                }
                nameStep(ring, i);
                int aim = Math.floorMod(place + ring.points(place, before(i)) + further(text), n);
                place = nextPlace(aim, n, text);
                if (place == NONE) {
                    end = aim != from ? DIED : length == n ? HARVEST : HOME;
                }
            }
        }

        int worth(Ring ring, Text text) {
            int worth = 0;
            for (int i = 0; i < length && text != null; i++) {
                nameStep(ring, i);
                int plain = within(text.tell(Text.PAYS, names, stack), -99, 99);
                worth += ring.pays(turnedAt(i), plain);
            }
            return worth;
        }

        private void turn(int place) {
            if (length < turned.length) {
                turned[length] = place;
                length++;
                bits |= 1 << place;
            }
        }

        private boolean isTurned(int place) {
            return (bits >> place & 1) != 0;
        }

        // The first one counts as turned from its own place.
        private int before(int step) {
            return turnedAt(step > 0 ? step - 1 : 0);
        }

        private int further(Text text) {
            return within(text.tell(Text.FURTHER, names, stack), -20, 20);
        }

        // The text is asked what may be passed only where it matters, which spares most of the work.
        private int nextPlace(int aim, int n, Text text) {
            if (n < 1 || !isTurned(aim)) {
                return aim;
            }
            if (length >= n) {
                return NONE;
            }
            int passes = within(text.tell(Text.PASSES, names, stack), 0, 15);
            for (int i = 1; i <= passes; i++) {
                int place = (aim + i) % n;
                if (!isTurned(place)) {
                    return place;
                }
            }
            return NONE;
        }

        private void nameStep(Ring ring, int step) {
            int place = turnedAt(step);
            name(Text.PLACE, place);
            name(Text.FROM, before(step));
            name(Text.STEP, step);
            name(Text.NUMBER, ring.numberAt(place));
            name(Text.LEFT, ring.size() - step - 1);
            name(Text.ALL, ring.size());
        }

        private void name(int which, int value) {
            if (which >= 0 && which < names.length) {
                names[which] = value;
            }
        }

        private static int within(int value, int low, int high) {
            return Math.max(low, Math.min(high, value));
        }
    }

    /** Three expressions, kept as operands and operators in the order in which they are worked off. */
    private static final class Text {
        static final int FURTHER = 0, PASSES = 1, PAYS = 2, PARTS = 3;
        static final int PLACE = 0, FROM = 1, STEP = 2, NUMBER = 3, LEFT = 4, ALL = 5, NAMES = 6;
        // An operator's tens tell how tightly it binds.
        static final int OPEN = 10, OR = 20, AND = 30, NOT = 40, LESS = 50, EQUAL = 51;
        static final int PLUS = 60, MINUS = 61, TIMES = 70, NEGATE = 80;
        static final int FIRST_NUMBER = 100;
        // With 5 open at most, six expressions hold up to 5 left sides each.
        static final int MOST_STACKED = 40;

        private final int[] code = new int[MOST_BYTES];
        private final int[] ends = new int[PARTS];
        private int length;

        // A new one tells what text 0 must: further 0 ; passes 0 ; pays 1 ;
        Text() {
            for (int part = 0; part < PARTS; part++) {
                add(FIRST_NUMBER + (part == PAYS ? 1 : 0));
                endPart(part);
            }
        }

        void clear() {
            length = 0;
        }

        void add(int operation) {
            if (length < code.length) {
                code[length] = operation;
                length++;
            }
        }

        void endPart(int part) {
            if (part >= 0 && part < ends.length) {
                ends[part] = length;
            }
        }

        int tell(int part, int[] names, int[] stack) {
            int height = 0;
            int end = endOf(part);
            for (int i = endOf(part - 1); i < end && i < code.length; i++) {
                int operation = code[i];
                if (operation >= FIRST_NUMBER || operation < OPEN) {
                    if (height < stack.length) {
                        stack[height] = operand(operation, names);
                        height++;
                    }
                } else if (operation == NOT || operation == NEGATE) {
                    if (height >= 1 && height <= stack.length) {
                        stack[height - 1] = single(operation, stack[height - 1]);
                    }
                } else if (height >= 2 && height <= stack.length) {
                    height--;
                    stack[height - 1] = both(operation, stack[height - 1], stack[height]);
                }
            }
            return height > 0 && stack.length > 0 ? stack[0] : 0;
        }

        private int endOf(int part) {
            return part >= 0 && part < ends.length ? ends[part] : 0;
        }

        private static int operand(int operation, int[] names) {
            if (operation >= FIRST_NUMBER) {
                return operation - FIRST_NUMBER;
            }
            return operation >= 0 && operation < names.length ? names[operation] : 0;
        }

        private static int single(int operation, int a) {
            return operation == NOT ? bit(a == 0) : -a;
        }

        private static int both(int operation, int a, int b) {
            switch (operation) {
                case OR: return bit(a != 0 || b != 0);
                case AND: return bit(a != 0 && b != 0);
                case LESS: return bit(a < b);
                case EQUAL: return bit(a == b);
                case PLUS: return a + b;
                case MINUS: return a - b;
                default: return a * b;
            }
        }

        private static int bit(boolean yes) {
            return yes ? 1 : 0;
        }
    }

    /** The tape, and how a text is read from it: operators wait until one that binds less comes. */
    private static final class Reader {
        private static final int END = -1, WRONG = -2;
        // The first words are the names, numbered as Text numbers them; then come the keys.
        private static final int FIRST_KEY = 6, OR_KEY = 9, AND_KEY = 10, NOT_KEY = 11, WORDS = 12;
        private static final int NUMBER = 12;
        private static final int WORD_SIZE = 7;
        private static final String WORD_LIST =
            "place  from   step   number left   all    furtherpasses pays   or     and    not    ";
        private static final String SIGNS = "();+-*<=";
        private static final int MOST_DIGITS = 4, MOST_OPEN = 5;

        private final int[] tape = new int[MOST_BYTES];
        private final int[] waiting = new int[MOST_BYTES];
        private int size;
        private int at;
        private int token;
        private int tokenAt;
        private int value;
        private int height;
        private int open;
        private boolean wantsOne;

        int size() {
            return size;
        }

        boolean isFull() {
            return size >= tape.length;
        }

        int add(int letter) {
            if (!isFull()) {
                tape[size] = letter;
                size++;
            }
            return size;
        }

        /** Empties the tape into a text: NONE, or the place of its fault. */
        int read(Text text) {
            at = 0;
            text.clear();
            int fault = NONE;
            for (int part = 0; part < Text.PARTS && fault == NONE; part++) {
                fault = readPart(text, part);
            }
            if (fault == NONE) {
                nextToken();
                fault = token == END ? NONE : tokenAt;
            }
            size = 0;
            return fault;
        }

        private int readPart(Text text, int part) {
            nextToken();
            if (token != FIRST_KEY + part) {
                return tokenAt;
            }
            height = 0;
            open = 0;
            wantsOne = true;
            for (int i = 0; i <= MOST_BYTES; i++) {
                nextToken();
                if (!wantsOne && token == ';') {
                    workOff(text, Text.OR);
                    text.endPart(part);
                    return height == 0 ? NONE : tokenAt;
                }
                boolean stands = wantsOne ? begins(text) : goesOn(text);
                if (!stands) {
                    return tokenAt;
                }
            }
            return tokenAt;
        }

        private boolean begins(Text text) {
            if (token == NUMBER || token >= 0 && token < FIRST_KEY) {
                text.add(token == NUMBER ? Text.FIRST_NUMBER + value : token);
                wantsOne = false;
                return true;
            }
            int opening = openingAtHand();
            if (opening == NONE || open >= MOST_OPEN) {
                return false;
            }
            open++;
            await(opening);
            return true;
        }

        private boolean goesOn(Text text) {
            if (token == ')') {
                workOff(text, Text.OR);
                return closes();
            }
            int operation = operationAtHand();
            if (operation == NONE) {
                return false;
            }
            boolean compares = operation == Text.LESS || operation == Text.EQUAL;
            workOff(text, compares ? Text.PLUS : operation / 10 * 10);
            if (compares && top() >= Text.LESS) {
                return false;
            }
            await(operation);
            wantsOne = true;
            return true;
        }

        private boolean closes() {
            if (top() != Text.OPEN) {
                return false;
            }
            height--;
            open--;
            return true;
        }

        private int openingAtHand() {
            switch (token) {
                case '(': return Text.OPEN;
                case '-': return Text.NEGATE;
                case NOT_KEY: return top() <= Text.NOT ? Text.NOT : NONE;
                default: return NONE;
            }
        }

        private int operationAtHand() {
            switch (token) {
                case OR_KEY: return Text.OR;
                case AND_KEY: return Text.AND;
                case '<': return Text.LESS;
                case '=': return Text.EQUAL;
                case '+': return Text.PLUS;
                case '-': return Text.MINUS;
                case '*': return Text.TIMES;
                default: return NONE;
            }
        }

        private int top() {
            return height > 0 && height <= waiting.length ? waiting[height - 1] : NONE;
        }

        private void await(int operation) {
            if (height >= 0 && height < waiting.length) {
                waiting[height] = operation;
                height++;
            }
        }

        private void workOff(Text text, int least) {
            while (height > 0 && top() >= least) {
                int operation = top();
                height--;
                text.add(operation);
                if (operation == Text.NOT || operation == Text.NEGATE) {
                    open--;
                }
            }
        }

        private void nextToken() {
            while (at < size && (byteAt(at) == 32 || byteAt(at) == 10)) {
                at++;
            }
            tokenAt = at;
            int first = byteAt(at);
            if (first == NONE) {
                token = END;
            } else if (isLetter(first)) {
                readWord();
            } else if (isDigit(first)) {
                readNumber();
            } else {
                token = SIGNS.indexOf((char) first) >= 0 ? first : WRONG;
                at++;
            }
        }

        private void readWord() {
            while (at < size && isLetter(byteAt(at))) {
                at++;
            }
            token = WRONG;
            for (int word = 0; word < WORDS && token == WRONG; word++) {
                if (isWord(word)) {
                    token = word;
                }
            }
        }

        private boolean isWord(int word) {
            int length = at - tokenAt;
            for (int i = 0; i < WORD_SIZE; i++) {
                int k = WORD_SIZE * word + i;
                int due = k >= 0 && k < WORD_LIST.length() ? WORD_LIST.charAt(k) : NONE;
                int found = i < length ? byteAt(tokenAt + i) : ' ';
                if (due != found) {
                    return false;
                }
            }
            return length <= WORD_SIZE;
        }

        private void readNumber() {
            value = 0;
            while (at < size && isDigit(byteAt(at))) {
                value = 10 * value + byteAt(at) - '0';
                at++;
            }
            token = at - tokenAt <= MOST_DIGITS ? NUMBER : WRONG;
        }

        private int byteAt(int i) {
            return i >= 0 && i < size && i < tape.length ? tape[i] : NONE;
        }

        private static boolean isLetter(int letter) {
            return letter >= 'a' && letter <= 'z';
        }

        private static boolean isDigit(int letter) {
            return letter >= '0' && letter <= '9';
        }
    }

    /** A row of numbers of a sort; while it is missing, its sort is NONE. */
    private static final class Sheet {
        private final int[] items = new int[MOST_ITEMS];
        private int sort = NONE;
        private int size;

        int sort() {
            return sort;
        }

        int size() {
            return size;
        }

        boolean isMissing() {
            return sort == NONE;
        }

        void become(int newSort, int newSize) {
            sort = newSort;
            size = Math.max(0, Math.min(newSize, items.length));
            Arrays.fill(items, 0);
        }

        boolean has(int i) {
            return i >= 0 && i < size && i < items.length;
        }

        boolean hasRow(int i, int n) {
            return i >= 0 && n >= 0 && n <= size && i <= size - n;
        }

        int at(int i) {
            return has(i) ? items[i] : 0;
        }

        void set(int i, int v) {
            if (has(i)) {
                items[i] = sort == 0 ? (byte) v : sort == 1 ? (short) v : v;
            }
        }

        void takeRow(int j, Sheet other, int i, int n) {
            if (hasRow(j, n) && other.hasRow(i, n)) {
                System.arraycopy(other.items, i, items, j, n);
            }
        }
    }
}
