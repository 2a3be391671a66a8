/** ROUNDS and promises 10 to 12 at their boundaries: a test's name tells the promise and the sentence. */
public final class RoundEdgeTest {
    private static final int NONE = SevenInTheHay.NONE, BAD = SevenInTheHay.BAD, NO_ROUND = -100000;
    private static final int MAX = Integer.MAX_VALUE, MIN = Integer.MIN_VALUE;
    private static final int HARVEST = 0, HOME = 1, DIED = 2, BLOCKED = 3;

    public static void main(String[] args) {
        Check.test("Promise 10, round: \"END (what 0) .. (4; bits); 10 .. 25 ..\", \"-100000\"", RoundEdgeTest::what);
        Check.test("Promise 10, round: \"(NONE: there are fewer)\"", RoundEdgeTest::fewer);
        Check.test("2 A ROUND, of a RING of one", RoundEdgeTest::oneCard);
        Check.test("2 A ROUND: \"HARVEST, if all are turned, HOME, if not\"", RoundEdgeTest::harvestOrHome);
        Check.test("2 A ROUND: \"if it is elsewhere, it DIED\"", RoundEdgeTest::died);
        Check.test("2 A ROUND: \"if it BLOCKS, that is the END: BLOCKED\"", RoundEdgeTest::blocked);
        Check.test("2 A ROUND: \"any of the passes PLACES .. the nearest of these\"", RoundEdgeTest::passes);
        Check.test("\"passes: .. (0 .. 15, else the bound)\"", RoundEdgeTest::passesBound);
        Check.test("\"further: .. (-20 .. 20, else the bound)\"", RoundEdgeTest::furtherBound);
        Check.test("\"further\" as far as can be, \"around THE RING\"", RoundEdgeTest::furthest);
        Check.test("\"pays: what it pays (-99 .. 99, else the bound)\"", RoundEdgeTest::paysBound);
        Check.test("PAYS: \"CARD: v .. SEVEN: 7 less than a CARD\", of NUMBER 0 and 9", RoundEdgeTest::paysOfKinds);
        Check.test("\"WORTH: PAYS of all turned, together\", the most and the least", RoundEdgeTest::worth);
        Check.test("\"place: its PLACE; from: PLACE q\", first and last", RoundEdgeTest::placeAndFrom);
        Check.test("\"step: how many were turned ahead of it\", first and last", RoundEdgeTest::step);
        Check.test("\"number: NUMBER\", 0 and 9", RoundEdgeTest::number);
        Check.test("\"left: how many aren't turned yet (it is)\", first and last", RoundEdgeTest::left);
        Check.test("\"all: n\", 1 and 16", RoundEdgeTest::all);
        Check.test("\"TEXT 0, at first THE RULE, is: further 0 ; passes 0 ; pays 1 ;\"", RoundEdgeTest::textZero);
        Check.test("Promise 11, harvests: \"HARVESTS: PLACES (bits)\", none, all, the last", RoundEdgeTest::harvests);
        Check.test("Promise 12, best: \"(what 0; NONE: an empty RING) .. (1; 0). BAD.\"", RoundEdgeTest::bestOfNone);
        Check.test("BEST FROM: \"LONG is most; of like ones the first\"", RoundEdgeTest::best);
        Check.end();
    }

    private static void what() {
        SevenInTheHay x = Check.ringOf(16, 1);
        int[] first = {HARVEST, 16, 16, 15, 65535};
        for (int what = 0; what < 5; what++) {
            Check.due("round(0, " + what + ")", x.round(0, what), first[what]);
        }
        for (int what = 10; what < 26; what++) {
            Check.due("round(0, " + what + ")", x.round(0, what), what - 10);
            Check.due("round(15, " + what + ")", x.round(15, what), (what + 5) % 16);
        }
        for (int what : new int[] {-1, 5, 9, 26, MIN, MAX}) {
            Check.due("round(0, " + what + ")", x.round(0, what), NO_ROUND);
            Check.due("round(16, " + what + ")", x.round(16, what), NO_ROUND);
        }
        for (int from : new int[] {-1, 16, MIN, MAX}) {
            for (int what : new int[] {0, 4, 10, 25}) {
                Check.due("round(" + from + ", " + what + ")", x.round(from, what), NO_ROUND);
            }
        }
    }

    private static void fewer() {
        SevenInTheHay x = Check.ringOf(16, 1);
        x.lay(14, 0, 0);
        Check.due("round(0, 24), the 15th of 15", x.round(0, 24), 14);
        Check.due("round(0, 25), there are 15", x.round(0, 25), NONE);
        Check.due("round(14, 10), the first of one", x.round(14, 10), 14);
        Check.due("round(14, 11), there is one", x.round(14, 11), NONE);
        SevenInTheHay one = Check.ring(0);
        Check.due("round(0, 10) of one", one.round(0, 10), 0);
        Check.due("round(0, 11) of one", one.round(0, 11), NONE);
        Check.due("round(0, 25) of one", one.round(0, 25), NONE);
    }

    private static void oneCard() {
        for (int card = 0; card < 60; card++) {
            Check.round(Check.ring(card), 0, card < 50 ? HARVEST : BLOCKED, 0);
        }
        SevenInTheHay x = Check.ring(9);
        Check.rule(x, "further -20;passes 15;pays -99;");
        Check.round(x, 0, HARVEST, 0);
        Check.due("round(0, 2)", x.round(0, 2), -99);
    }

    private static void harvestOrHome() {
        Check.round(Check.ring(1, 1), 0, HARVEST, 0, 1);
        Check.round(Check.ring(0, 1), 0, HOME, 0);
        Check.round(Check.ring(2, 1), 0, HOME, 0);
        Check.round(Check.ring(1, 1, 1), 2, HARVEST, 2, 0, 1);
        Check.round(Check.ring(2, 1, 1), 2, HOME, 2, 0);
        int[] all = {0, 1, 2, 3, 4, 5, 6, 7, 8, 9, 10, 11, 12, 13, 14, 15};
        int[] allButLast = {0, 1, 2, 3, 4, 5, 6, 7, 8, 9, 10, 11, 12, 13, 14};
        SevenInTheHay x = Check.ringOf(16, 1);
        Check.round(x, 0, HARVEST, all);
        x.lay(14, 0, 2);
        Check.round(x, 0, HOME, allButLast);
    }

    private static void died() {
        Check.round(Check.ring(1, 0), 0, DIED, 0, 1);
        Check.round(Check.ring(1, 1, 2), 0, DIED, 0, 1, 2);
        Check.round(Check.ring(1, 0, 1), 0, DIED, 0, 1);
        SevenInTheHay x = Check.ringOf(16, 1);
        x.lay(15, 0, 2);
        Check.due("round(0, 0), all turned", x.round(0, 0), DIED);
        Check.due("round(0, 1), all turned", x.round(0, 1), 16);
        x.lay(15, 0, 0);
        Check.due("round(0, 0), the last aims at itself", x.round(0, 0), DIED);
    }

    private static void blocked() {
        Check.round(Check.ring(50, 1), 0, BLOCKED, 0);
        Check.round(Check.ring(1, 51), 0, BLOCKED, 0, 1);
        Check.round(Check.ring(1, 52, 1), 0, BLOCKED, 0, 1);
        Check.round(Check.ring(2, 51, 1), 0, HOME, 0, 2);
        SevenInTheHay x = Check.ringOf(16, 1);
        x.lay(15, 5, 1);
        Check.due("round(0, 0), the last of all is a SEVEN", x.round(0, 0), BLOCKED);
        Check.due("round(0, 1)", x.round(0, 1), 16);
        Check.due("round(15, 0), the first is a SEVEN", x.round(15, 0), BLOCKED);
        Check.due("round(15, 1)", x.round(15, 1), 1);
    }

    private static SevenInTheHay passing(String passes, int... cards) {
        SevenInTheHay x = Check.ring(cards);
        Check.rule(x, "further 0;passes " + passes + ";pays 1;");
        return x;
    }

    // THE AIM is turned; one PLACE further than may be passed, and just as far.
    private static void passes() {
        Check.round(passing("0", 0, 50), 0, HOME, 0);
        Check.round(passing("1", 0, 50), 0, BLOCKED, 0, 1);
        Check.round(passing("1", 1, 11, 50), 0, HOME, 0, 1);
        Check.round(passing("2", 1, 11, 50), 0, BLOCKED, 0, 1, 2);
        Check.round(passing("2", 1, 1, 12, 50, 50), 0, HOME, 0, 1, 2);
        Check.round(passing("3", 1, 1, 12, 50, 50), 0, BLOCKED, 0, 1, 2, 3);
        Check.round(passing("4", 1, 1, 12, 50, 50), 0, BLOCKED, 0, 1, 2, 3);
        // From the last PLACE they go on at the first one.
        Check.round(passing("0", 50, 0, 0), 2, HOME, 2);
        Check.round(passing("1", 50, 0, 0), 2, BLOCKED, 2, 0);
        Check.round(passing("3", 1, 50, 1, 2), 2, BLOCKED, 2, 3, 1);
        // What is aimed at is ahead of all that may be passed.
        Check.round(passing("15", 2, 50, 50), 0, BLOCKED, 0, 2);
        // With all turned there is none to be passed to.
        Check.round(passing("15", 1, 0), 0, DIED, 0, 1);
        Check.round(passing("15", 1, 1), 0, HARVEST, 0, 1);
    }

    // From 14 THE AIM is 0, and only 15 is left: just 15 PLACES to the right of it.
    private static void passesBound() {
        int[] cards = {1, 1, 1, 1, 1, 1, 1, 1, 1, 1, 1, 1, 1, 1, 2, 50};
        String[] enough = {"15", "16", "9999", Texts.MOST_INT};
        for (String passes : enough) {
            Check.due("round(0, 0), passes " + passes, passing(passes, cards).round(0, 0), BLOCKED);
        }
        Check.due("round(0, 0), passes 14", passing("14", cards).round(0, 0), HOME);
        String[] none = {"0", "-1", "-9999", Texts.LEAST_INT};
        for (String passes : none) {
            Check.round(passing(passes, 0, 50), 0, HOME, 0);
        }
    }

    /** The second place that is turned, from the first one on, with as much further as is told. */
    private static void second(String further, int from, int card, int due) {
        SevenInTheHay x = Check.ringOf(16, 50);
        x.lay(from, card / 10, card % 10);
        Check.rule(x, "further " + further + ";passes 0;pays 1;");
        Check.due("further " + further + ", from " + from + " by " + card, x.round(from, 11), due);
    }

    private static void furtherBound() {
        second("19", 0, 0, 3);
        second("20", 0, 0, 4);
        second("21", 0, 0, 4);
        second("9999", 0, 0, 4);
        second(Texts.MOST_INT, 0, 0, 4);
        second("-19", 0, 0, 13);
        second("-20", 0, 0, 12);
        second("-21", 0, 0, 12);
        second("-9999", 0, 0, 12);
        second(Texts.LEAST_INT, 0, 0, 12);
        second("-1", 0, 0, 15);
        second("1", 15, 0, 0);
    }

    private static void furthest() {
        second("20", 15, 9, (15 + 9 + 20) % 16);
        second("20", 15, 40, (15 + 9 + 20) % 16);
        second("-20", 0, 19, 32 - 9 - 20);
        second("-20", 0, 39, 32 - 9 - 20);
        SevenInTheHay two = Check.ring(19, 50);
        Check.rule(two, "further -20;passes 0;pays 1;");
        Check.round(two, 0, BLOCKED, 0, 1);
        SevenInTheHay three = Check.ring(19, 50, 50);
        Check.rule(three, "further -20;passes 0;pays 1;");
        Check.round(three, 0, BLOCKED, 0, 1);
        SevenInTheHay one = Check.ring(19);
        Check.rule(one, "further -20;passes 0;pays 1;");
        Check.round(one, 0, HARVEST, 0);
    }

    private static void paid(String pays, int card, int due) {
        SevenInTheHay x = Check.ring(card);
        Check.rule(x, "further 0;passes 0;pays " + pays + ";");
        Check.due("worth of " + card + " paying " + pays, x.round(0, 2), due);
    }

    private static void paysBound() {
        paid("98", 0, 98);
        paid("99", 0, 99);
        paid("100", 0, 99);
        paid("9999", 0, 99);
        paid(Texts.MOST_INT, 0, 99);
        paid("-98", 0, -98);
        paid("-99", 0, -99);
        paid("-100", 0, -99);
        paid("-9999", 0, -99);
        paid(Texts.LEAST_INT, 0, -99);
    }

    // The bound is of what the text tells; what the KIND makes of it goes beyond.
    private static void paysOfKinds() {
        int[][] due = {
            {9, 99, -99}, {10, 99, -99}, {19, 108, -90}, {20, 198, -198}, {29, 198, -198}, {30, 98, -100},
            {39, 107, -91}, {40, 198, -198}, {49, 198, -198}, {50, 92, -106}, {59, 92, -106}
        };
        for (int[] d : due) {
            paid("100", d[0], d[1]);
            paid("-100", d[0], d[2]);
        }
        int[][] ofNone = {{0, 0}, {9, 0}, {10, 0}, {19, 9}, {20, 0}, {29, 0}, {30, -1}, {39, 8}, {40, 0}, {50, -7}};
        for (int[] d : ofNone) {
            paid("0", d[0], d[1]);
        }
    }

    private static void worth() {
        SevenInTheHay x = Check.ringOf(16, 29);
        Check.rule(x, "further 0;passes 15;pays 9999;");
        Check.due("round(0, 1)", x.round(0, 1), 16);
        Check.due("round(0, 2), the most", x.round(0, 2), 16 * 198);
        Check.rule(x, "further 0;passes 15;pays -9999;");
        Check.due("round(0, 2), the least", x.round(0, 2), -16 * 198);
        Check.due("hay(0, 1), the least", x.hay(0, 1), -106);
    }

    /** What an expression tells in a round, of all cards together. */
    private static void together(SevenInTheHay x, int from, String e, int due) {
        Check.rule(x, "further 0;passes 0;pays " + e + ";");
        Check.due("worth from " + from + ", paying " + e, x.round(from, 2), due);
    }

    private static void placeAndFrom() {
        together(Check.ring(0), 0, "place+from+5", 5);
        together(Check.ringOf(16, 1), 0, "(step=0)*(place+7)", 7);
        together(Check.ringOf(16, 1), 0, "(step=15)*place", 15);
        together(Check.ringOf(16, 1), 15, "(step=0)*place", 15);
        together(Check.ringOf(16, 1), 15, "(step=0)*from", 15);
        together(Check.ringOf(16, 1), 15, "(step=1)*from", 15);
        together(Check.ringOf(16, 1), 0, "(step=15)*from", 14);
        together(Check.ringOf(16, 1), 0, "(step=0)*(from+7)", 7);
    }

    private static void step() {
        together(Check.ring(0), 0, "step+5", 5);
        together(Check.ringOf(16, 1), 3, "(place=3)*(step+7)", 7);
        together(Check.ringOf(16, 1), 3, "(place=2)*step", 15);
        together(Check.ringOf(16, 1), 3, "(place=4)*step", 1);
    }

    private static void number() {
        together(Check.ring(0), 0, "number+5", 5);
        together(Check.ring(9), 0, "number", 9);
        together(Check.ring(59), 0, "number+7", 9);
        together(Check.ring(29), 0, "number", 18);
    }

    private static void left() {
        together(Check.ring(0), 0, "left+5", 5);
        together(Check.ringOf(16, 1), 3, "(step=0)*left", 15);
        together(Check.ringOf(16, 1), 3, "(step=14)*left", 1);
        together(Check.ringOf(16, 1), 3, "(step=15)*(left+7)", 7);
    }

    private static void all() {
        together(Check.ring(0), 0, "all", 1);
        together(Check.ring(0, 0), 0, "all", 2);
        together(Check.ringOf(16, 1), 3, "(step=0)*all", 16);
        together(Check.ringOf(16, 1), 3, "(step=15)*all", 16);
    }

    private static void textZero() {
        SevenInTheHay x = Check.ring(0, 0, 0);
        Check.due("count(3)", x.count(3), 0);
        Check.round(x, 1, HOME, 1);
        Check.due("round(1, 2)", x.round(1, 2), 1);
        x.lay(1, 0, 1);
        Check.round(x, 1, DIED, 1, 2);
        Check.due("round(1, 2)", x.round(1, 2), 2);
    }

    private static void harvests() {
        Check.due("harvests() of none", new SevenInTheHay().harvests(), 0);
        Check.due("harvests() of one", Check.ring(0).harvests(), 1);
        Check.due("harvests() of a SEVEN", Check.ring(50).harvests(), 0);
        SevenInTheHay x = Check.ringOf(16, 1);
        Check.due("harvests() of 16", x.harvests(), 65535);
        Check.due("harvests() of 15", Check.ringOf(15, 1).harvests(), 32767);
        // 14 skips 15, unless it is the last.
        Check.rule(x, "further place=14 and left;passes 0;pays 1;");
        Check.due("harvests(), from 15 alone", x.harvests(), 32768);
        Check.rule(x, "further place=15 and left;passes 0;pays 1;");
        Check.due("harvests(), from 0 alone", x.harvests(), 1);
        Check.rule(x, "further 1;passes 0;pays 1;");
        Check.due("harvests(), from nowhere", x.harvests(), 0);
    }

    private static void bestOfNone() {
        SevenInTheHay x = new SevenInTheHay();
        Check.due("best(0) of none", x.best(0), NONE);
        Check.due("best(1) of none", x.best(1), 0);
        for (int n = 0; n < 2; n++) {
            for (int what : new int[] {-1, 2, MIN, MAX}) {
                Check.due("best(" + what + ") of " + n, x.best(what), BAD);
            }
            x.card(5, 0);
        }
        x.takeUp();
        Check.due("best(0) of one", x.best(0), 0);
        Check.due("best(1) of one", x.best(1), 1);
    }

    private static void best() {
        SevenInTheHay x = Check.ringOf(16, 0);
        Check.due("best(0) of like ones", x.best(0), 0);
        Check.due("best(1) of like ones", x.best(1), 1);
        x.lay(15, 0, 1);
        Check.due("best(0), the last", x.best(0), 15);
        Check.due("best(1), the last", x.best(1), 2);
        x.lay(14, 1, 1);
        Check.due("best(0), the first of the two", x.best(0), 14);
        Check.due("best(1)", x.best(1), 2);
        // More, then fewer: it is neither the last one nor the last that differs.
        SevenInTheHay fewer = Check.ring(1, 1, 0);
        Check.due("best(0), the first of 3, 2, 1", fewer.best(0), 0);
        Check.due("best(1), the most of 3, 2, 1", fewer.best(1), 3);
        SevenInTheHay amid = Check.ring(0, 1, 1, 0, 1);
        Check.due("best(0), amid 1, 3, 2, 1, 2", amid.best(0), 1);
        Check.due("best(1), amid 1, 3, 2, 1, 2", amid.best(1), 3);
        SevenInTheHay all = Check.ringOf(16, 1);
        Check.due("best(0) of all", all.best(0), 0);
        Check.due("best(1) of all", all.best(1), 16);
    }
}
