/** "Would be" is what is, once it is done: each such answer compared with a round by the same RULE after doing it. */
public final class RuleEdgeTest {
    private static final int NONE = SevenInTheHay.NONE, HARVEST = 0;
    private static final int[] SEEDS = {0, 1, -7, 4711, Integer.MAX_VALUE, Integer.MIN_VALUE};
    private static final String[] RULES = {
        "further 0;passes 0;pays 1;",
        "further 1;passes 0;pays number;",
        "further -number;passes 2;pays 3-place;",
        "further left-step;passes 15;pays not from;",
        "further (place<from)*3-1;passes number<3;pays -step*20;",
        "further all;passes left=1;pays 9999;"
    };
    private static final int[][] RINGS = {
        {0}, {50}, {39}, {1, 31}, {1, 1, 1}, {11, 2, 1, 2}, {1, 12, 30, 40, 3}, {20, 33, 1, 52, 14, 2},
        {1, 12, 23, 34, 45, 56, 7}, {2, 1, 14, 31, 0, 9, 20, 40, 3, 11}, {1, 1, 1, 1, 1, 1, 1, 1, 1, 1, 1, 1, 1, 1, 1, 1},
        {7, 31, 12, 5, 20, 1, 40, 3, 19, 2, 11, 30, 4, 8, 25, 16}
    };

    private final int[] cards;
    private final int rule;
    private final int n;

    private RuleEdgeTest(int[] cards, int rule) {
        this.cards = cards;
        this.rule = rule;
        n = cards.length;
    }

    public static void main(String[] args) {
        for (int[] cards : RINGS) {
            for (int rule = 0; rule < RULES.length; rule++) {
                RuleEdgeTest test = new RuleEdgeTest(cards, rule);
                String by = ", by THE RULE " + RULES[rule] + " of " + java.util.Arrays.toString(cards);
                Check.test("HARVESTS" + by, test::harvests);
                Check.test("BEST FROM" + by, test::best);
                Check.test("CHANGE" + by, test::change);
                Check.test("ANEW" + by, test::anew);
                Check.test("HAY" + by, test::hay);
                Check.test("LAYINGS" + by, test::layings);
                Check.test("TOLD, STARTS, film" + by, test::filmed);
                Check.test("KINDS, NUMBERS" + by, test::kindsAndNumbers);
                Check.test("TEXTS" + by, test::texts);
                Check.test("DRAWN, IN n seeds" + by, test::drawn);
            }
        }
        Check.end();
    }

    /** A new object with those cards, all RULES as its texts, this test's as THE RULE: some 230 of its 512 calls. */
    private SevenInTheHay with(int[] cards) {
        SevenInTheHay x = Check.ring(cards);
        for (int i = 1; i < RULES.length; i++) {
            Check.text(x, RULES[i]);
        }
        Check.due("force(" + rule + ")", x.force(rule), 0);
        return x;
    }

    private SevenInTheHay with() {
        return with(cards);
    }

    private void harvests() {
        SevenInTheHay x = with();
        int bits = 0;
        for (int from = 0; from < n; from++) {
            bits |= x.round(from, 0) == HARVEST ? 1 << from : 0;
        }
        Check.due("harvests()", x.harvests(), bits);
    }

    private void best() {
        SevenInTheHay x = with();
        int best = 0;
        for (int from = 1; from < n; from++) {
            best = x.round(from, 1) > x.round(best, 1) ? from : best;
        }
        Check.due("best(0)", x.best(0), best);
        Check.due("best(1)", x.best(1), x.round(best, 1));
    }

    private void change() {
        SevenInTheHay x = with();
        int from = n / 2, pair = NONE, most = x.round(from, 1);
        for (int a = 0; a < n; a++) {
            for (int b = a + 1; b < n; b++) {
                SevenInTheHay y = with();
                y.swap(a, b);
                if (y.round(from, 1) > most) {
                    most = y.round(from, 1);
                    pair = 100 * a + b;
                }
            }
        }
        Check.due("change(" + from + ", 0)", x.change(from, 0), pair);
        Check.due("change(" + from + ", 1)", x.change(from, 1), most);
    }

    private void anew() {
        int from = n - 1, place = n / 3;
        SevenInTheHay x = with(), y = with();
        int many = 0, least = NONE;
        for (int card = 59; card >= 0; card--) {
            y.lay(place, card / 10, card % 10);
            if (y.round(from, 0) == HARVEST) {
                many++;
                least = card;
            }
        }
        Check.due("anew(" + place + ", " + from + ", 0)", x.anew(place, from, 0), many);
        Check.due("anew(" + place + ", " + from + ", 1)", x.anew(place, from, 1), least);
    }

    private void hay() {
        int from = n / 2, where = NONE, most = 0;
        SevenInTheHay x = with(), y = with();
        for (int place = 0; place < n; place++) {
            y.lay(place, 5, cards[place] % 10);
            int worth = y.round(from, 2);
            y.lay(place, cards[place] / 10, cards[place] % 10);
            if (where == NONE || worth > most) {
                where = place;
                most = worth;
            }
        }
        Check.due("hay(" + from + ", 0)", x.hay(from, 0), where);
        Check.due("hay(" + from + ", 1)", x.hay(from, 1), most);
    }

    // All numbers of n digits, from the least on, of which each of 1 .. n is one digit.
    private void layings() {
        SevenInTheHay x = with();
        if (n > 6) {
            Check.due("layings(0)", x.layings(0), SevenInTheHay.STATE);
            return;
        }
        int many = 0, first = 0;
        for (int digits = 0; digits < Math.pow(10, n); digits++) {
            int[] laid = laid(digits);
            if (laid != null && with(laid).round(0, 0) == HARVEST) {
                first = many == 0 ? digits : first;
                many++;
            }
        }
        Check.due("layings(0)", x.layings(0), many);
        Check.due("layings(1)", x.layings(1), first);
    }

    private int[] laid(int digits) {
        int[] laid = new int[n];
        int seen = 0, rest = digits;
        for (int place = n - 1; place >= 0; place--) {
            int lay = rest % 10 - 1;
            if (lay < 0 || lay >= n || (seen >> lay & 1) != 0) {
                return null;
            }
            seen |= 1 << lay;
            laid[place] = cards[lay];
            rest /= 10;
        }
        return laid;
    }

    private void filmed() {
        for (int from = 0; from < n; from++) {
            SevenInTheHay x = with();
            int length = x.round(from, 1), last = x.round(from, 3);
            Check.due("film(0, " + from + ")", x.film(0, from), length);
            Check.due("tells(0, 0) of what it filmed", x.tells(0, 0), NONE);
            int starts = 0;
            for (int other = 0; other < n; other++) {
                starts |= x.round(other, 1) == length && x.round(other, 3) == last ? 1 << other : 0;
            }
            Check.due("tells(0, 1) of what it filmed", x.tells(0, 1), starts);
        }
    }

    private void kindsAndNumbers() {
        int place = n / 2;
        SevenInTheHay x = with();
        x.film(0, n - 1);
        SevenInTheHay y = with();
        y.film(0, n - 1);
        int card = cards[place], kinds = 0, numbers = 0;
        for (int kind = 0; kind < 6; kind++) {
            y.lay(place, kind, card % 10);
            kinds |= y.tells(0, 0) == NONE ? 1 << kind : 0;
        }
        for (int number = 0; number < 10; number++) {
            y.lay(place, card / 10, number);
            numbers |= y.tells(0, 0) == NONE ? 1 << number : 0;
        }
        Check.due("tells(0, " + (10 + place) + ")", x.tells(0, 10 + place), kinds);
        Check.due("tells(0, " + (30 + place) + ")", x.tells(0, 30 + place), numbers);
        Check.isTrue("what lies there is one of them", (kinds >> card / 10 & 1) == 1 && (numbers >> card % 10 & 1) == 1);
    }

    private void texts() {
        SevenInTheHay x = with();
        x.film(0, 0);
        int bits = x.tells(0, 2), due = 0;
        Check.due("count(3) is untouched", x.count(3), rule);
        for (int text = 0; text < RULES.length; text++) {
            x.force(text);
            due |= x.tells(0, 0) == NONE ? 1 << text : 0;
        }
        Check.due("tells(0, 2)", bits, due);
        Check.isTrue("THE RULE is one of them", (bits >> rule & 1) == 1);
    }

    private int[] drawn(int seed) {
        int[] drawn = cards.clone();
        int z = seed;
        for (int k = n - 1; k > 0; k--) {
            z = z * 1103515245 + 12345;
            int j = (z >>> 9) % (k + 1), card = drawn[k];
            drawn[k] = drawn[j];
            drawn[j] = card;
        }
        return drawn;
    }

    private void drawn() {
        SevenInTheHay x = with();
        for (int seed : SEEDS) {
            SevenInTheHay y = with(drawn(seed));
            Check.due("drawn(" + seed + ")", x.drawn(seed), y.round(0, 1));
            int one = y.round(0, 0) == HARVEST ? 1 : 0;
            Check.due("chance(" + seed + ", 1, 0)", x.chance(seed, 1, 0), one);
            int two = one + (with(drawn(seed + 1)).round(0, 0) == HARVEST ? 1 : 0);
            Check.due("chance(" + seed + ", 2, 0)", x.chance(seed, 2, 0), two == 0 ? 0 : 1);
            Check.due("chance(" + seed + ", 2, 1)", x.chance(seed, 2, 1), two == 1 ? 2 : 1);
        }
    }
}
