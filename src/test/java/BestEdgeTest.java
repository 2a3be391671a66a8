/** What would be best, promises 13 to 16, at its boundaries: a test's name tells the promise and the sentence. */
public final class BestEdgeTest {
    private static final int NONE = SevenInTheHay.NONE, BAD = SevenInTheHay.BAD, STATE = SevenInTheHay.STATE;
    private static final int MAX = Integer.MAX_VALUE, MIN = Integer.MIN_VALUE, NO_ROUND = -100000;
    private static final int[] NO_WHATS = {-1, 2, MIN, MAX};

    public static void main(String[] args) {
        Check.test("Promise 13, change: \"BAD\"", BestEdgeTest::changeRefused);
        Check.test("CHANGE: \"if more than now\"; promise 13: \"(what 0; NONE)\", \"as now, if none\"", BestEdgeTest::noChange);
        Check.test("CHANGE: \"the lesser first\", \"of like ones the first\"; promise 13", BestEdgeTest::change);
        Check.test("Promise 14, anew: \"BAD\"", BestEdgeTest::anewRefused);
        Check.test("ANEW: \"CARDS (.. 0 .. 59) .. how many, the least\"; promise 14: \"NONE\"", BestEdgeTest::anew);
        Check.test("Promise 15, hay: \"-100000: none such\"", BestEdgeTest::hayRefused);
        Check.test("HAY: \"WORTH .. most; of like ones the first\"; promise 15", BestEdgeTest::hay);
        Check.test("Promise 16, layings: \"BAD; STATE: there are more than 6 CARDS\"", BestEdgeTest::layingsRefused);
        Check.test("LAYINGS: \"(6 at most; like ones are told apart)\", none, one, two, six", BestEdgeTest::layings);
        Check.test("LAYINGS: \"the first (by PLACES on which they lie now; ..)\"; promise 16: \"0: none\"",
            BestEdgeTest::firstLaying);
        Check.end();
    }

    private static void changeRefused() {
        SevenInTheHay x = Check.ring(1, 0, 2);
        for (int from : new int[] {-1, 3, MIN, MAX}) {
            Check.due("change(" + from + ", 0)", x.change(from, 0), BAD);
            Check.due("change(" + from + ", 1)", x.change(from, 1), BAD);
        }
        for (int what : NO_WHATS) {
            Check.due("change(2, " + what + ")", x.change(2, what), BAD);
            Check.due("change(3, " + what + ")", x.change(3, what), BAD);
        }
        Check.due("change(0, 0) of none", new SevenInTheHay().change(0, 0), BAD);
    }

    private static void change(SevenInTheHay x, int from, int pair, int length) {
        Check.due("change(" + from + ", 0)", x.change(from, 0), pair);
        Check.due("change(" + from + ", 1)", x.change(from, 1), length);
    }

    private static void noChange() {
        change(Check.ring(0), 0, NONE, 1);
        change(Check.ring(50), 0, NONE, 1);
        change(Check.ring(1, 1), 0, NONE, 2);
        change(Check.ring(0, 0), 1, NONE, 1);
        // As long as now is not more than now.
        change(Check.ring(1, 0), 0, NONE, 2);
        change(Check.ring(1, 50), 0, NONE, 2);
        change(Check.ringOf(16, 1), 15, NONE, 16);
    }

    private static void change() {
        // One more than now: from 0 a CARD by 1 comes to 1.
        change(Check.ring(0, 1), 0, 1, 2);
        change(Check.ring(1, 0), 1, 1, 2);
        // 0 and 1 make it 2, but 0 and 2 make it 3; of two that both make it 2 the first.
        change(Check.ring(0, 1, 1), 0, 2, 3);
        change(Check.ring(0, 1, 2), 0, 1, 2);
        // The last two of 16 alone make it all.
        SevenInTheHay x = Check.ringOf(16, 1);
        x.lay(14, 0, 0);
        change(x, 0, 1415, 16);
        // The first and the last of 16: the seven comes to the place that is turned last.
        x = Check.ringOf(16, 1);
        x.lay(0, 5, 1);
        change(x, 0, 15, 16);
    }

    private static void anewRefused() {
        SevenInTheHay x = Check.ring(1, 1);
        for (int place : new int[] {-1, 2, MIN, MAX}) {
            Check.due("anew(" + place + ", 1, 0)", x.anew(place, 1, 0), BAD);
            Check.due("anew(1, " + place + ", 0)", x.anew(1, place, 0), BAD);
            Check.due("anew(" + place + ", " + place + ", 2)", x.anew(place, place, 2), BAD);
        }
        for (int what : NO_WHATS) {
            Check.due("anew(1, 1, " + what + ")", x.anew(1, 1, what), BAD);
        }
        Check.due("anew(0, 0, 0) of none", new SevenInTheHay().anew(0, 0, 0), BAD);
    }

    private static void anew(SevenInTheHay x, int place, int from, int many, int least) {
        Check.due("anew(" + place + ", " + from + ", 0)", x.anew(place, from, 0), many);
        Check.due("anew(" + place + ", " + from + ", 1)", x.anew(place, from, 1), least);
    }

    private static void anew() {
        // Alone each CARD comes home, but those that block: 50 .. 59.
        anew(Check.ring(59), 0, 0, 50, 0);
        anew(Check.ring(0), 0, 0, 50, 0);
        anew(Check.ring(0, 0), 0, 0, 0, NONE);
        anew(Check.ring(1, 50), 0, 0, 0, NONE);
        anew(Check.ringOf(16, 1), 15, 0, 1, 1);
        anew(Check.ringOf(16, 1), 0, 15, 1, 1);
        // By this text only a JOKER by less than 7 goes just one on: 9 less 8.
        SevenInTheHay x = Check.ringOf(16, 1);
        Check.rule(x, "further 0-(place=15 and number<7)*8;passes 0;pays 1;");
        anew(x, 15, 0, 7, 40);
    }

    private static void hayRefused() {
        SevenInTheHay x = Check.ring(1, 1);
        for (int from : new int[] {-1, 2, MIN, MAX}) {
            Check.due("hay(" + from + ", 0)", x.hay(from, 0), NO_ROUND);
            Check.due("hay(" + from + ", 1)", x.hay(from, 1), NO_ROUND);
        }
        for (int what : NO_WHATS) {
            Check.due("hay(1, " + what + ")", x.hay(1, what), NO_ROUND);
            Check.due("hay(2, " + what + ")", x.hay(2, what), NO_ROUND);
        }
        Check.due("hay(0, 0) of none", new SevenInTheHay().hay(0, 0), NO_ROUND);
        Check.due("hay(0, 1) of none", new SevenInTheHay().hay(0, 1), NO_ROUND);
    }

    private static void hay(SevenInTheHay x, int from, int place, int worth) {
        Check.due("hay(" + from + ", 0)", x.hay(from, 0), place);
        Check.due("hay(" + from + ", 1)", x.hay(from, 1), worth);
    }

    private static void hay() {
        hay(Check.ring(0), 0, 0, -6);
        hay(Check.ring(59), 0, 0, -6);
        hay(Check.ringOf(16, 1), 0, 15, 15 - 6);
        hay(Check.ringOf(16, 1), 1, 0, 15 - 6);
        // Wherever it lies but on 0 or 15, nothing changes: 1 is the first.
        hay(Check.ringOf(16, 0), 0, 1, 1);
        hay(Check.ringOf(16, 0), 15, 0, 1);
        // All are below 0, and the most is the one nearest to it.
        SevenInTheHay x = Check.ring(1, 1, 1);
        Check.rule(x, "further 0;passes 0;pays -50;");
        hay(x, 0, 0, -57);
        x = Check.ring(20, 20);
        Check.rule(x, "further 0;passes 0;pays -9999;");
        hay(x, 0, 0, -106);
        x = Check.ring(40, 20);
        Check.rule(x, "further 0;passes 0;pays -9999;");
        hay(x, 1, 1, -106);
    }

    private static void layingsRefused() {
        SevenInTheHay x = new SevenInTheHay();
        for (int n = 0; n <= 16; n++) {
            for (int what = 0; what < 2; what++) {
                boolean isState = x.layings(what) == STATE;
                Check.due("layings(" + what + ") of " + n + " is STATE", isState ? 1 : 0, n > 6 ? 1 : 0);
            }
            for (int what : NO_WHATS) {
                Check.due("layings(" + what + ") of " + n, x.layings(what), BAD);
            }
            x.card(0, 1);
        }
    }

    private static void layings(SevenInTheHay x, int many, int first) {
        Check.due("layings(0)", x.layings(0), many);
        Check.due("layings(1)", x.layings(1), first);
    }

    private static void layings() {
        layings(new SevenInTheHay(), 0, 0);
        layings(Check.ring(9), 1, 1);
        layings(Check.ring(59), 0, 0);
        layings(Check.ring(1, 1), 2, 12);
        layings(Check.ringOf(3, 1), 6, 123);
        layings(Check.ringOf(4, 1), 24, 1234);
        layings(Check.ringOf(5, 1), 120, 12345);
        layings(Check.ringOf(6, 1), 720, 123456);
        layings(Check.ringOf(6, 0), 0, 0);
        layings(Check.ring(1, 1, 1, 1, 1, 51), 0, 0);
    }

    // By this text it is a harvest only if on each place lies the card with its number.
    private static void firstLaying() {
        int[][] rings = {{0, 1, 2, 3, 4, 5}, {5, 4, 3, 2, 1, 0}, {0, 1, 2, 3, 5, 4}, {3, 5, 0, 4, 1, 2}};
        int[] first = {123456, 654321, 123465, 356142};
        for (int i = 0; i < rings.length; i++) {
            SevenInTheHay x = Check.ring(rings[i]);
            Check.rule(x, "further (number=place)-number;passes 0;pays 1;");
            layings(x, 1, first[i]);
        }
        layings(Check.ring(30, 1), 1, 21);
        layings(Check.ring(1, 30), 1, 12);
    }
}
