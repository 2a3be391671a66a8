import java.util.HashMap;
import java.util.Map;
import java.util.function.Supplier;
import java.util.function.ToLongFunction;

/** "Refusals, the first that the call's words name; they change nothing": of each promise that names one. */
public final class RefusalEdgeTest {
    private static final int BAD = SevenInTheHay.BAD, STATE = SevenInTheHay.STATE, FULL = SevenInTheHay.FULL;
    private static final int MAX = Integer.MAX_VALUE, MIN = Integer.MIN_VALUE, NO_ROUND = -100000, NO_CARD = -100;
    private static final int MISSING = -11, OUTSIDE = -12, UNLIKE = -13, BELOW_ZERO = -14;
    private static final long NO = SevenInTheHay.NO;
    private static final String NOTHING = ", and changes nothing";

    private static final Map<Supplier<SevenInTheHay>, String> UNTOUCHED = new HashMap<>();
    private static final Supplier<SevenInTheHay> SOME = RefusalEdgeTest::some, FULL_RING = RefusalEdgeTest::fullRing,
        FULL_TAPE = RefusalEdgeTest::fullTape, FULL_TEXTS = RefusalEdgeTest::fullTexts, NEW = SevenInTheHay::new;

    public static void main(String[] args) {
        Check.test("Promise 2, card: \"BAD; FULL\", in this order" + NOTHING, RefusalEdgeTest::card);
        Check.test("Promise 3, lay: \"BAD\"" + NOTHING, RefusalEdgeTest::lay);
        Check.test("Promise 4, takeUp: \"STATE: there is none\"" + NOTHING, RefusalEdgeTest::takeUp);
        Check.test("Promise 5, swap: \"BAD\"" + NOTHING, RefusalEdgeTest::swap);
        Check.test("Promise 6, told: \"-100: none such\"" + NOTHING, RefusalEdgeTest::told);
        Check.test("Promise 7, feed: \"BAD; FULL\", in this order" + NOTHING, RefusalEdgeTest::feed);
        Check.test("Promise 8, text: \"FULL (ahead of all)\"" + NOTHING, RefusalEdgeTest::text);
        Check.test("Promise 8, text: by a FAULT THE TAPE is empty, nothing else changes", RefusalEdgeTest::fault);
        Check.test("Promise 9, force: \"BAD\"" + NOTHING, RefusalEdgeTest::force);
        Check.test("Promise 10, round: \"-100000: none such\"" + NOTHING, RefusalEdgeTest::round);
        Check.test("Promise 12, best: \"BAD\"" + NOTHING, RefusalEdgeTest::best);
        Check.test("Promise 13, change: \"BAD\"" + NOTHING, RefusalEdgeTest::change);
        Check.test("Promise 14, anew: \"BAD\"" + NOTHING, RefusalEdgeTest::anew);
        Check.test("Promise 15, hay: \"-100000: none such\"" + NOTHING, RefusalEdgeTest::hay);
        Check.test("Promise 16, layings: \"BAD; STATE\", in this order" + NOTHING, RefusalEdgeTest::layings);
        Check.test("Promise 17, tells: \"BAD ..; -11; BAD ..\", in this order" + NOTHING, RefusalEdgeTest::tells);
        Check.test("Promise 18, film: \"BAD\"" + NOTHING, RefusalEdgeTest::film);
        Check.test("Promise 19, drawn: \"STATE: an empty RING\"" + NOTHING, RefusalEdgeTest::drawn);
        Check.test("Promise 20, chance: \"NO: n, part; an empty RING\"" + NOTHING, RefusalEdgeTest::chance);
        Check.test("Promise 22, back: \"STATE: there is none\"" + NOTHING, RefusalEdgeTest::back);
        Check.test("Promise 23, count: \"BAD\"" + NOTHING, RefusalEdgeTest::count);
        Check.test("Promise 24, sheet: \"BAD ..; -14\", in this order" + NOTHING, RefusalEdgeTest::sheet);
        Check.test("Promise 25, cell: \"BAD ..; -11; -12\", in this order" + NOTHING, RefusalEdgeTest::cell);
        Check.test("Promise 26, copy: \"BAD ..; -11; -13 ..; -12\", in this order" + NOTHING, RefusalEdgeTest::copy);
        Check.test("Promise 27, cards: \"BAD ..; -13; -11\", in this order" + NOTHING, RefusalEdgeTest::cards);
        Check.test("Promise 27, cards: \"-12: what stood ahead came\", nothing else changes", RefusalEdgeTest::cardsAhead);
        Check.test("Promise 28, taken: \"BAD: k; -11 ..; -13\", in this order" + NOTHING, RefusalEdgeTest::taken);
        Check.test("What only asks changes nothing: promises 6, 10 .. 17, 19, 20, 23, 28", RefusalEdgeTest::asked);
        Check.end();
    }

    // Something of each: cards, a rule, an image of other ones, a tape that is a text, rows of each sort.
    private static SevenInTheHay some() {
        SevenInTheHay x = Check.ring(11, 59);
        Check.text(x, "further 0;passes 1;pays place;");
        Check.rule(x, "further 1;passes 2;pays 8;");
        x.image();
        for (int i = 0; i < 5; i++) {
            x.card(i, i + 2);
        }
        x.lay(1, 0, 4);
        x.force(1);
        Check.sheet(x, 0, 0, 1, 2, 3);
        Check.sheet(x, 1, 1, 4, 5, 9);
        Check.sheet(x, 2, 2, 6, 7, 8, 9);
        Check.feed(x, "further 2;passes 1;pays 3;");
        return x;
    }

    private static SevenInTheHay fullRing() {
        SevenInTheHay x = Check.ringOf(15, 21);
        x.image();
        x.card(5, 9);
        Check.sheet(x, 0, 0, 1, 2, 3);
        Check.feed(x, "further 2");
        return x;
    }

    private static SevenInTheHay fullTape() {
        SevenInTheHay x = Check.ring(1, 2, 3);
        Check.feed(x, Texts.ofLength(Texts.LONGEST));
        return x;
    }

    private static SevenInTheHay fullTexts() {
        SevenInTheHay x = Check.ring(1, 2, 3);
        for (int i = 1; i < 6; i++) {
            Check.rule(x, "further " + i + ";passes 0;pays " + i + ";");
        }
        Check.feed(x, "further !");
        return x;
    }

    private static String untouched(Supplier<SevenInTheHay> state) {
        return UNTOUCHED.computeIfAbsent(state, s -> Look.at(s.get()));
    }

    /** The call's answer, and that all is seen as without it. */
    private static void due(Supplier<SevenInTheHay> state, long due, ToLongFunction<SevenInTheHay> call, int... told) {
        String name = "the call of " + java.util.Arrays.toString(told);
        SevenInTheHay x = state.get();
        Check.due(name, call.applyAsLong(x), due);
        Check.same("what is seen behind " + name, Look.at(x), untouched(state));
    }

    private static void card() {
        int[][] none = {{-1, 0}, {6, 0}, {0, -1}, {0, 10}, {6, 10}, {MIN, MIN}, {MAX, MAX}};
        for (int[] c : none) {
            due(SOME, BAD, x -> x.card(c[0], c[1]), c);
            due(FULL_RING, BAD, x -> x.card(c[0], c[1]), c);
        }
        due(FULL_RING, FULL, x -> x.card(0, 0), 0, 0);
        due(FULL_RING, FULL, x -> x.card(5, 9), 5, 9);
    }

    private static void lay() {
        int[][] none = {
            {-1, 0, 0}, {7, 0, 0}, {MAX, 0, 0}, {0, -1, 0}, {0, 6, 0}, {0, 0, -1}, {6, 0, 10}, {7, 6, 10}, {MIN, MIN, MIN}
        };
        for (int[] c : none) {
            due(SOME, BAD, x -> x.lay(c[0], c[1], c[2]), c);
        }
        due(FULL_RING, BAD, x -> x.lay(16, 0, 0), 16, 0, 0);
        due(NEW, BAD, x -> x.lay(0, 0, 0), 0, 0, 0);
    }

    private static void takeUp() {
        due(NEW, STATE, x -> x.takeUp());
    }

    private static void swap() {
        int[][] none = {{-1, 0}, {0, -1}, {7, 0}, {0, 7}, {7, 7}, {-1, -1}, {MIN, MAX}, {-1, 7}};
        for (int[] c : none) {
            due(SOME, BAD, x -> x.swap(c[0], c[1]), c);
        }
        due(FULL_RING, BAD, x -> x.swap(0, 16), 0, 16);
        due(NEW, BAD, x -> x.swap(0, 0), 0, 0);
    }

    private static void told() {
        int[][] none = {{-1, 0}, {7, 0}, {0, -1}, {0, 4}, {7, 4}, {MIN, MIN}, {MAX, MAX}};
        for (int[] c : none) {
            due(SOME, NO_CARD, x -> x.told(c[0], c[1]), c);
        }
        due(NEW, NO_CARD, x -> x.told(0, 0), 0, 0);
    }

    private static void feed() {
        for (int letter : new int[] {-1, 256, 256 + 'a', MIN, MAX}) {
            due(SOME, BAD, x -> x.feed(letter), letter);
            due(FULL_TAPE, BAD, x -> x.feed(letter), letter);
        }
        for (int letter : new int[] {0, 32, ';', 255}) {
            due(FULL_TAPE, FULL, x -> x.feed(letter), letter);
        }
    }

    private static void text() {
        due(FULL_TEXTS, FULL, x -> x.text());
        Supplier<SevenInTheHay> refused = () -> {
            SevenInTheHay x = fullTexts();
            for (int i = 0; i < 3; i++) {
                x.text();
            }
            return x;
        };
        Check.same("what is seen behind three refusals", Look.at(refused.get()), untouched(FULL_TEXTS));
    }

    // The object that is compared with had nothing on its tape.
    private static void fault() {
        Supplier<SevenInTheHay> faulty = () -> {
            SevenInTheHay x = some();
            x.feed('!');
            Check.due("text() of a FAULT", x.text(), -126);
            return x;
        };
        Supplier<SevenInTheHay> early = () -> {
            SevenInTheHay x = some();
            Check.due("text() of a right one", x.text(), 3);
            Check.feed(x, "further 1;passes 1;pays 1");
            Check.due("text() that ends too early", x.text(), -125);
            return x;
        };
        Supplier<SevenInTheHay> right = () -> {
            SevenInTheHay x = some();
            Check.due("text() of a right one", x.text(), 3);
            return x;
        };
        Check.same("what is seen behind the right one, and one that ends", Look.at(early.get()), Look.at(right.get()));
        Check.due("text() behind the FAULT", faulty.get().text(), -100);
        Check.due("count(1) behind the FAULT", faulty.get().count(1), 3);
        Check.due("count(3) behind the FAULT", faulty.get().count(3), 1);
        Check.due("text 3 behind the FAULT", Check.text(faulty.get(), "further 2;passes 1;pays 3;"), 3);
        SevenInTheHay again = faulty.get();
        Check.feed(again, "further 2;passes 1;pays 3;");
        Check.same("what is seen behind the FAULT, fed again", Look.at(again), untouched(SOME));
    }

    private static void force() {
        for (int text : new int[] {-1, 3, 6, MIN, MAX}) {
            due(SOME, BAD, x -> x.force(text), text);
        }
        due(FULL_TEXTS, BAD, x -> x.force(6), 6);
        due(NEW, BAD, x -> x.force(1), 1);
    }

    private static void round() {
        int[][] none = {{-1, 0}, {7, 0}, {0, -1}, {0, 5}, {0, 9}, {0, 26}, {7, 26}, {MIN, MIN}, {MAX, MAX}};
        for (int[] c : none) {
            due(SOME, NO_ROUND, x -> x.round(c[0], c[1]), c);
        }
        due(FULL_RING, NO_ROUND, x -> x.round(16, 0), 16, 0);
        due(NEW, NO_ROUND, x -> x.round(0, 0), 0, 0);
    }

    private static void best() {
        for (int what : new int[] {-1, 2, MIN, MAX}) {
            due(SOME, BAD, x -> x.best(what), what);
            due(NEW, BAD, x -> x.best(what), what);
        }
    }

    private static void change() {
        int[][] none = {{-1, 0}, {7, 0}, {0, -1}, {0, 2}, {7, 2}, {MIN, MIN}, {MAX, MAX}};
        for (int[] c : none) {
            due(SOME, BAD, x -> x.change(c[0], c[1]), c);
        }
        due(NEW, BAD, x -> x.change(0, 0), 0, 0);
    }

    private static void anew() {
        int[][] none = {
            {-1, 0, 0}, {7, 0, 0}, {0, -1, 0}, {0, 7, 0}, {0, 0, -1}, {0, 0, 2}, {7, 7, 2}, {MIN, MIN, MIN}, {MAX, MAX, MAX}
        };
        for (int[] c : none) {
            due(SOME, BAD, x -> x.anew(c[0], c[1], c[2]), c);
        }
        due(NEW, BAD, x -> x.anew(0, 0, 0), 0, 0, 0);
    }

    private static void hay() {
        int[][] none = {{-1, 0}, {7, 0}, {0, -1}, {0, 2}, {7, 2}, {MIN, MIN}, {MAX, MAX}};
        for (int[] c : none) {
            due(SOME, NO_ROUND, x -> x.hay(c[0], c[1]), c);
        }
        due(NEW, NO_ROUND, x -> x.hay(0, 0), 0, 0);
    }

    private static void layings() {
        for (int what : new int[] {-1, 2, MIN, MAX}) {
            due(SOME, BAD, x -> x.layings(what), what);
            due(NEW, BAD, x -> x.layings(what), what);
        }
        for (int what = 0; what < 2; what++) {
            int asked = what;
            due(SOME, STATE, x -> x.layings(asked), what);
            due(FULL_RING, STATE, x -> x.layings(asked), what);
        }
    }

    private static void tells() {
        int[][] none = {{-1, 0}, {4, 0}, {0, -1}, {0, 3}, {0, 17}, {0, 37}, {0, 46}, {3, 3}, {3, 17}, {4, 3}, {MIN, MAX}};
        for (int[] c : none) {
            due(SOME, BAD, x -> x.tells(c[0], c[1]), c);
        }
        for (int what : new int[] {0, 1, 2, 10, 16, 30, 36}) {
            due(SOME, MISSING, x -> x.tells(3, what), 3, what);
            // Row 2 tells of 7, 8 and 9, which aren't places there.
            due(SOME, BAD, x -> x.tells(2, what), 2, what);
        }
        due(NEW, MISSING, x -> x.tells(0, 0), 0, 0);
        due(NEW, BAD, x -> x.tells(0, 10), 0, 10);
        for (int size : new int[] {0, 17}) {
            Supplier<SevenInTheHay> row = () -> {
                SevenInTheHay x = Check.ring(1, 1);
                x.sheet(0, 0, size);
                return x;
            };
            due(row, BAD, x -> x.tells(0, 0), 0, 0);
            due(row, BAD, x -> x.tells(0, 12), 0, 12);
        }
    }

    private static void film() {
        int[][] none = {{-1, 0}, {4, 0}, {0, -1}, {1, 7}, {2, 7}, {3, 7}, {4, 7}, {MIN, MIN}, {MAX, MAX}};
        for (int[] c : none) {
            due(SOME, BAD, x -> x.film(c[0], c[1]), c);
        }
        due(NEW, BAD, x -> x.film(0, 0), 0, 0);
        due(FULL_RING, BAD, x -> x.film(0, 16), 0, 16);
    }

    private static void drawn() {
        for (int seed : new int[] {0, 1, MIN, MAX}) {
            due(NEW, STATE, x -> x.drawn(seed), seed);
        }
    }

    private static void chance() {
        int[][] none = {{0, 0, 0}, {0, 21, 0}, {0, -1, 1}, {0, 1, -1}, {0, 1, 2}, {0, 0, 2}, {MIN, MIN, MIN}, {MAX, MAX, MAX}};
        for (int[] c : none) {
            due(SOME, NO, x -> x.chance(c[0], c[1], c[2]), c);
            due(NEW, NO, x -> x.chance(c[0], c[1], c[2]), c);
        }
        due(NEW, NO, x -> x.chance(0, 1, 0), 0, 1, 0);
        due(NEW, NO, x -> x.chance(0, 20, 1), 0, 20, 1);
    }

    private static void back() {
        due(NEW, STATE, x -> x.back());
        due(FULL_TAPE, STATE, x -> x.back());
        due(FULL_TEXTS, STATE, x -> x.back());
    }

    private static void count() {
        for (int what : new int[] {-1, 4, MIN, MAX}) {
            due(SOME, BAD, x -> x.count(what), what);
        }
    }

    private static void sheet() {
        int[][] none = {
            {-1, 0, 1}, {4, 0, 1}, {4, -1, 1}, {0, -2, 1}, {0, 3, 1}, {0, 0, 41}, {0, 2, MAX}, {3, 0, 41},
            {4, 0, -1}, {0, 3, -1}, {0, -2, -1}, {MIN, MIN, MIN}
        };
        for (int[] c : none) {
            due(SOME, BAD, x -> x.sheet(c[0], c[1], c[2]), c);
        }
        int[][] below = {{0, 0, -1}, {1, 2, -1}, {2, 1, MIN}, {3, 0, -41}};
        for (int[] c : below) {
            due(SOME, BELOW_ZERO, x -> x.sheet(c[0], c[1], c[2]), c);
        }
    }

    private static void cell() {
        int[][] none = {{-1, 0, 5}, {4, 0, 5}, {4, 9, 5}, {MIN, MIN, 5}, {MAX, MAX, 5}};
        for (int[] c : none) {
            due(SOME, BAD, x -> x.cell(c[0], c[1], c[2]), c);
        }
        int[][] missing = {{3, 0, 5}, {3, -1, 5}, {3, MAX, 5}};
        for (int[] c : missing) {
            due(SOME, MISSING, x -> x.cell(c[0], c[1], c[2]), c);
        }
        int[][] outside = {{0, -1, 5}, {0, 3, 5}, {1, 3, 5}, {2, 4, 5}, {2, MIN, 5}, {2, MAX, 5}};
        for (int[] c : outside) {
            due(SOME, OUTSIDE, x -> x.cell(c[0], c[1], c[2]), c);
        }
    }

    private static void copies(int due, int[][] calls) {
        for (int[] c : calls) {
            due(SOME, due, x -> x.copy(c[0], c[1], c[2], c[3], c[4]), c);
        }
    }

    private static void copy() {
        copies(BAD, new int[][] {
            {-1, 0, 0, 0, 1}, {4, 0, 0, 0, 1}, {0, 0, -1, 0, 1}, {0, 0, 4, 0, 1}, {3, 9, 4, 9, -1}, {4, 9, 3, 9, -1}});
        copies(MISSING, new int[][] {
            {3, 0, 0, 0, 1}, {0, 0, 3, 0, 1}, {3, 0, 3, 0, 1}, {3, 9, 0, 9, -1}, {0, 9, 3, 9, -1}, {3, 0, 3, 0, 0}});
        copies(UNLIKE, new int[][] {
            {0, 0, 1, 0, 1}, {1, 0, 2, 0, 1}, {2, 0, 0, 0, 1}, {0, 9, 1, 9, -1}, {1, 0, 0, 0, 0}});
        copies(OUTSIDE, new int[][] {
            {0, 0, 0, 0, -1}, {0, 0, 0, 0, 4}, {0, 2, 0, 0, 2}, {0, 0, 0, 2, 2}, {2, 0, 2, 1, 4}, {2, -1, 2, 0, 2},
            {2, 0, 2, -1, 2}, {2, 5, 2, 0, 0}, {2, 0, 2, 5, 0}, {2, 1, 2, 0, MAX}, {2, MIN, 2, MIN, MIN}});
    }

    private static void cardsOf(int due, int[][] calls) {
        for (int[] c : calls) {
            due(SOME, due, x -> x.cards(c[0], c[1], c[2], c[3]), c);
        }
    }

    private static void cards() {
        cardsOf(BAD, new int[][] {
            {-1, 0, 0, 1}, {4, 0, 0, 1}, {0, -1, 0, 1}, {0, 3, 0, 1}, {0, 0, 0, -1}, {0, 0, 0, 17},
            {3, 3, 0, 1}, {3, 0, 0, 17}, {0, 1, 9, 17}, {MIN, MIN, MIN, MIN}});
        cardsOf(UNLIKE, new int[][] {{0, 1, 0, 1}, {0, 2, 0, 0}, {1, 0, 9, 1}, {2, 1, -1, 16}});
        cardsOf(MISSING, new int[][] {{3, 0, 0, 1}, {3, 1, 0, 0}, {3, 2, 9, 16}, {3, 0, -1, 1}});
        // Outside from the first on: nothing came.
        cardsOf(OUTSIDE, new int[][] {
            {0, 0, -1, 1}, {0, 0, 2, 1}, {0, 0, 3, 1}, {0, 0, -2, 2}, {2, 2, MAX, 1}, {2, 2, MAX - 1, 1}, {2, 2, MIN, 16}});
    }

    private static void cardsAhead() {
        SevenInTheHay came = some();
        came.card(4, 5);
        SevenInTheHay x = some();
        Check.due("cards(1, 1, 0, 2)", x.cards(1, 1, 0, 2), OUTSIDE);
        Check.same("what is seen when one came", Look.at(x), Look.at(came));
        // Of row 2 none is a card: 6, 7 and 8, 9 are left out.
        due(SOME, OUTSIDE, y -> y.cards(2, 2, 0, 3), 2, 2, 0, 3);
        due(FULL_RING, OUTSIDE, y -> y.cards(0, 0, 0, 2), 0, 0, 0, 2);
    }

    private static void taken() {
        int[][] none = {{0, -1}, {0, 6}, {7, 6}, {-1, -1}, {MIN, MIN}, {MAX, MAX}};
        for (int[] c : none) {
            due(SOME, BAD, x -> x.taken(c[0], c[1]), c);
        }
        int[][] missing = {{-1, 0}, {7, 0}, {7, 5}, {MIN, 0}, {MAX, 0}};
        for (int[] c : missing) {
            due(SOME, MISSING, x -> x.taken(c[0], c[1]), c);
        }
        due(NEW, MISSING, x -> x.taken(0, 0), 0, 0);
        due(SOME, UNLIKE, x -> x.taken(0, 5), 0, 5);
        due(SOME, UNLIKE, x -> x.taken(1, 1), 1, 1);
    }

    // The answers themselves are other tests' matter: here they are what an untouched object answers.
    private static void asked() {
        for (Supplier<SevenInTheHay> state : java.util.List.of(SOME, FULL_RING, FULL_TEXTS)) {
            for (int what = 0; what < 2; what++) {
                int w = what;
                same(state, x -> x.told(1, w));
                same(state, x -> x.round(1, w));
                same(state, x -> x.best(w));
                same(state, x -> x.change(1, w));
                same(state, x -> x.anew(2, 1, w));
                same(state, x -> x.hay(1, w));
                same(state, x -> x.layings(w));
                same(state, x -> x.chance(5, 20, w));
                same(state, x -> x.taken(w, 0));
                same(state, x -> x.count(w + 2));
            }
            same(state, x -> x.harvests());
            same(state, x -> x.drawn(77));
            for (int what : new int[] {0, 1, 2, 11, 12, 31, 32}) {
                same(state, x -> x.tells(0, what));
            }
        }
    }

    private static void same(Supplier<SevenInTheHay> state, ToLongFunction<SevenInTheHay> call) {
        due(state, call.applyAsLong(state.get()), call);
    }
}
