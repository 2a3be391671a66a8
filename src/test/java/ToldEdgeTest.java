/** Rounds that were told, promises 17 to 23, at their boundaries: a test's name tells the promise and the sentence. */
public final class ToldEdgeTest {
    private static final int NONE = SevenInTheHay.NONE, BAD = SevenInTheHay.BAD, STATE = SevenInTheHay.STATE;
    private static final int MAX = Integer.MAX_VALUE, MIN = Integer.MIN_VALUE, HARVEST = 0, MISSING = -11;
    private static final long NO = SevenInTheHay.NO;
    private static final int[] SEEDS = {0, 1, -1, 2, MAX, MAX - 1, MAX - 19, MIN, MIN + 1, 123456789, -987654321};

    public static void main(String[] args) {
        Check.test("Promise 17, tells: \"BAD: SHEET, what, no such PLACE\"", ToldEdgeTest::sheetAndWhat);
        Check.test("Promise 17, tells: \"-11\", ahead of it BAD", ToldEdgeTest::missing);
        Check.test("Promise 17, tells: \"BAD: its size isn't 1 .. 16\"", ToldEdgeTest::sizes);
        Check.test("Promise 17, tells: \"no such PLACE told\"", ToldEdgeTest::placesTold);
        Check.test("TOLD: \"the first number of the row (from 0) that is otherwise\"", ToldEdgeTest::otherwise);
        Check.test("TOLD: \"or tells what isn't turned any more\"", ToldEdgeTest::notTurnedAnyMore);
        Check.test("TOLD: \"more were turned, how many it tells; NONE: it is just so\"", ToldEdgeTest::moreTurned);
        Check.test("\"STARTS (bits)\", none, the first, the last, all", ToldEdgeTest::starts);
        Check.test("\"KINDS (bits 0 .. 5), NUMBERS (bits 0 .. 9)\", none, some, all", ToldEdgeTest::kindsAndNumbers);
        Check.test("\"TEXTS (bits), were they THE RULE\", none, TEXT 0 alone, all six", ToldEdgeTest::texts);
        Check.test("Promise 18, film: \"BAD\"", ToldEdgeTest::filmRefused);
        Check.test("Promise 18, film: \"truly becomes\", of one PLACE, of 16", ToldEdgeTest::film);
        Check.test("Promise 19, drawn: \"STATE: an empty RING\"; of one CARD", ToldEdgeTest::drawnOfFew);
        Check.test("DRAWN: \"from the last PLACE down to 1\", \"(an int; ..)\" that wraps", ToldEdgeTest::drawn);
        Check.test("IN n seeds: \"(1 .. 20)\"; promise 20, chance: \"NO: n, part; an empty RING\"", ToldEdgeTest::noChance);
        Check.test("IN n seeds: \"SEED and each 1 more (an int)\"; promise 20: \"in lowest terms\"", ToldEdgeTest::chance);
        Check.test("Promise 22, back: \"STATE: there is none\"", ToldEdgeTest::noImage);
        Check.test("Promises 21, 22: AN IMAGE of an empty RING, of a full one", ToldEdgeTest::images);
        Check.test("\"AN IMAGE keeps CARDS (all of them), THE RULE\", and nothing else", ToldEdgeTest::imageKeeps);
        Check.test("Promise 23, count: \"How many: 0 CARDS, .. 3 THE RULE. BAD.\", of none and of all", ToldEdgeTest::count);
        Check.end();
    }

    private static void sheetAndWhat() {
        SevenInTheHay x = Check.ringOf(16, 1);
        for (int sheet : new int[] {-1, 4, MIN, MAX}) {
            Check.due("tells(" + sheet + ", 0)", x.tells(sheet, 0), BAD);
            Check.due("tells(" + sheet + ", 9)", x.tells(sheet, 9), BAD);
        }
        for (int sheet = 0; sheet < 4; sheet++) {
            x.film(sheet, 0);
            Check.due("tells(" + sheet + ", 0)", x.tells(sheet, 0), NONE);
        }
        for (int what = -20; what < 70; what++) {
            boolean isAsked = what >= 0 && what <= 2 || what >= 10 && what <= 25 || what >= 30 && what <= 45;
            Check.due("tells(0, " + what + ") is BAD", x.tells(0, what) == BAD ? 1 : 0, isAsked ? 0 : 1);
        }
        Check.due("tells(0, min)", x.tells(0, MIN), BAD);
        Check.due("tells(0, max)", x.tells(0, MAX), BAD);
        x.takeUp();
        x.film(0, 0);
        Check.isTrue("tells(0, 24) of 15", x.tells(0, 24) != BAD);
        Check.due("tells(0, 25) of 15", x.tells(0, 25), BAD);
        Check.isTrue("tells(0, 44) of 15", x.tells(0, 44) != BAD);
        Check.due("tells(0, 45) of 15", x.tells(0, 45), BAD);
    }

    private static void missing() {
        SevenInTheHay x = Check.ring(1, 1);
        for (int what : new int[] {0, 1, 2, 10, 11, 30, 31}) {
            Check.due("tells(0, " + what + ")", x.tells(0, what), MISSING);
        }
        for (int what : new int[] {-1, 3, 9, 12, 29, 32, 46}) {
            Check.due("tells(0, " + what + ")", x.tells(0, what), BAD);
        }
        Check.due("tells(4, 0)", x.tells(4, 0), BAD);
        x.sheet(0, 0, 1);
        Check.due("tells(0, 0) of a SHEET", x.tells(0, 0), 1);
        x.sheet(0, -1, 1);
        Check.due("tells(0, 0), missing again", x.tells(0, 0), MISSING);
        SevenInTheHay none = new SevenInTheHay();
        Check.due("tells(0, 0), missing, of an empty RING", none.tells(0, 0), MISSING);
        Check.due("tells(0, 10), missing, of an empty RING", none.tells(0, 10), BAD);
    }

    private static void sizes() {
        SevenInTheHay x = Check.ringOf(16, 1);
        for (int sort = 0; sort < 3; sort++) {
            for (int size : new int[] {0, 17, 18, 40}) {
                x.sheet(0, sort, size);
                for (int what : new int[] {0, 1, 2, 25, 45}) {
                    Check.due("tells(0, " + what + "), size " + size, x.tells(0, what), BAD);
                }
            }
            x.sheet(0, sort, 1);
            Check.due("tells(0, 0), size 1", x.tells(0, 0), 1);
            x.sheet(0, sort, 16);
            Check.due("tells(0, 0), size 16", x.tells(0, 0), 1);
        }
        SevenInTheHay none = new SevenInTheHay();
        none.sheet(0, 0, 0);
        Check.due("tells(0, 0), size 0, of an empty RING", none.tells(0, 0), BAD);
        none.sheet(0, 0, 1);
        Check.due("tells(0, 0), PLACE 0 of an empty RING", none.tells(0, 0), BAD);
        Check.due("tells(0, 1), PLACE 0 of an empty RING", none.tells(0, 1), BAD);
    }

    private static int tells(SevenInTheHay x, int what, int... places) {
        Check.sheet(x, 0, 2, places);
        return x.tells(0, what);
    }

    private static void placesTold() {
        SevenInTheHay x = Check.ring(1, 1, 1);
        Check.due("PLACE 2 of 3", tells(x, 0, 2), 1);
        for (int place : new int[] {-1, 3, 16, 256, 65536, MIN, MAX}) {
            Check.due("PLACE " + place + " first", tells(x, 0, place, 1, 2), BAD);
            Check.due("PLACE " + place + " last", tells(x, 0, 0, 1, place), BAD);
            Check.due("PLACE " + place + " last, STARTS", tells(x, 1, 0, 1, place), BAD);
            Check.due("PLACE " + place + " last, TEXTS", tells(x, 2, 0, 1, place), BAD);
            Check.due("PLACE " + place + " last, KINDS", tells(x, 10, 0, 1, place), BAD);
            Check.due("PLACE " + place + " last, NUMBERS", tells(x, 30, 0, 1, place), BAD);
        }
        // The last of 16 is told of too, though none is turned any more.
        int[] told = new int[16];
        Check.due("16 that are PLACES", tells(x, 0, told), 1);
        told[15] = 3;
        Check.due("16, the last is no PLACE", tells(x, 0, told), BAD);
    }

    private static void otherwise() {
        SevenInTheHay x = Check.ringOf(16, 1);
        for (int i = 1; i < 16; i++) {
            int[] told = upTo(16);
            told[i] = (i + 1) % 16;
            Check.due("otherwise at " + i, tells(x, 0, told), i);
        }
        Check.due("the first of many", tells(x, 0, 3, 5, 5, 7), 1);
        // The first number is where the round begins: it is never otherwise.
        Check.due("from 15", tells(x, 0, 15), 1);
    }

    private static int[] upTo(int n) {
        int[] places = new int[n];
        for (int i = 0; i < n; i++) {
            places[i] = i;
        }
        return places;
    }

    private static void notTurnedAnyMore() {
        SevenInTheHay x = Check.ringOf(16, 1);
        x.lay(14, 0, 0);
        Check.due("15 turned, 16 told", tells(x, 0, upTo(16)), 15);
        Check.due("15 turned, 15 told", tells(x, 0, upTo(15)), NONE);
        Check.due("one turned, two told", tells(x, 0, 14, 15), 1);
        Check.due("one turned, the same told again", tells(x, 0, 14, 14), 1);
        Check.due("one turned, one told", tells(x, 0, 14), NONE);
        Check.due("one alone, 16 told", tells(Check.ring(0), 0, new int[16]), 1);
    }

    private static void moreTurned() {
        SevenInTheHay x = Check.ringOf(16, 1);
        for (int n = 1; n < 16; n++) {
            Check.due("16 turned, told " + n, tells(x, 0, upTo(n)), n);
        }
        Check.due("16 turned, 16 told", tells(x, 0, upTo(16)), NONE);
        Check.due("one turned, one told", tells(Check.ring(50), 0, 0), NONE);
    }

    private static void starts() {
        SevenInTheHay x = Check.ringOf(16, 1);
        int[] told = new int[16];
        Check.due("STARTS, to the last 0", tells(x, 1, told), 2);
        told[15] = 14;
        Check.due("STARTS, to the last 14", tells(x, 1, told), 32768);
        told[15] = 15;
        Check.due("STARTS, to the last 15", tells(x, 1, told), 1);
        Check.due("STARTS, of 15", tells(x, 1, upTo(15)), 0);
        // Each is turned and blocks, or is the last on the way to the one that does.
        SevenInTheHay blocked = Check.ringOf(16, 50);
        Check.due("STARTS, one told", tells(blocked, 1, 15), 32768);
        for (int i = 0; i < 15; i++) {
            blocked.lay(i, 0, 0);
        }
        Check.rule(blocked, "further 15-place;passes 0;pays 1;");
        Check.due("STARTS, of two to 15", tells(blocked, 1, 0, 15), 32767);
        Check.due("STARTS, of one to 15", tells(blocked, 1, 15), 32768);
        Check.due("STARTS, of two to 0", tells(blocked, 1, 15, 0), 0);
    }

    private static void kindsAndNumbers() {
        SevenInTheHay x = Check.ringOf(16, 1);
        // The last one may be whatever it is, the one ahead of it must come to it.
        Check.due("KINDS on 15, of all 16", tells(x, 25, upTo(16)), 63);
        Check.due("NUMBERS on 15, of all 16", tells(x, 45, upTo(16)), 1023);
        Check.due("KINDS on 14, of all 16", tells(x, 24, upTo(16)), 1);
        Check.due("NUMBERS on 14, of all 16", tells(x, 44, upTo(16)), 2);
        Check.due("KINDS on 15, of 15", tells(x, 25, upTo(15)), 0);
        Check.due("NUMBERS on 15, of 15", tells(x, 45, upTo(15)), 0);
        // Where the round ends all but that CARD aim at what is turned, or block.
        Check.due("KINDS on 14, of 15", tells(x, 24, upTo(15)), 63 - 1);
        Check.due("NUMBERS on 14, of 15", tells(x, 44, upTo(15)), 1023 - 2);
        SevenInTheHay one = Check.ring(0);
        Check.due("KINDS on 0, of one", tells(one, 10, 0), 63);
        Check.due("NUMBERS on 0, of one", tells(one, 30, 0), 1023);
        Check.due("KINDS on 0, twice", tells(one, 10, 0, 0), 0);
        Check.due("NUMBERS on 0, twice", tells(one, 30, 0, 0), 0);
        SevenInTheHay nine = Check.ringOf(16, 50);
        nine.lay(0, 0, 9);
        Check.due("NUMBERS on 0, of 9", tells(nine, 30, 0, 9), 512);
        Check.due("KINDS on 0, of 9", tells(nine, 10, 0, 9), 1 + 16);
        Check.due("NUMBERS on 0, of 0 alone", tells(nine, 30, 0), 1);
    }

    private static void texts() {
        SevenInTheHay x = Check.ring(1, 1);
        Check.due("TEXTS, TEXT 0 alone", tells(x, 2, 0, 1), 1);
        Check.due("TEXTS, none", tells(x, 2, 0), 0);
        for (int i = 1; i < 6; i++) {
            Check.text(x, "further " + i + "*2;passes 0;pays 1;");
        }
        Check.due("TEXTS, all six", tells(x, 2, 0, 1), 63);
        x.lay(0, 5, 0);
        Check.due("TEXTS, all six that block", tells(x, 2, 0), 63);
        SevenInTheHay last = Check.ring(1, 1);
        for (int i = 1; i < 6; i++) {
            Check.text(last, "further " + i / 5 + ";passes 0;pays 1;");
        }
        Check.due("TEXTS, the last of six alone", tells(last, 2, 0), 32);
    }

    private static void filmRefused() {
        SevenInTheHay x = Check.ring(1, 1);
        for (int sheet : new int[] {-1, 4, MIN, MAX}) {
            Check.due("film(" + sheet + ", 0)", x.film(sheet, 0), BAD);
        }
        for (int from : new int[] {-1, 2, MIN, MAX}) {
            Check.due("film(3, " + from + ")", x.film(3, from), BAD);
            Check.due("film(4, " + from + ")", x.film(4, from), BAD);
        }
        Check.due("it is missing still", x.cell(3, 0, 0), MISSING);
        Check.due("film(0, 0) of none", new SevenInTheHay().film(0, 0), BAD);
    }

    private static void film() {
        SevenInTheHay x = Check.ringOf(16, 1);
        x.lay(9, 5, 0);
        for (int sheet = 0; sheet < 4; sheet++) {
            x.sheet(sheet, sheet - 1, 40);
            Check.due("film(" + sheet + ", 9), of one", x.film(sheet, 9), 1);
            Check.due("item 1 of one", x.cell(sheet, 1, 0), -12);
            Check.due("of bytes, not of shorts", x.cards(sheet, 1, 0, 0), -13);
            Check.due("of bytes, not of ints", x.cards(sheet, 2, 0, 0), -13);
            Check.due("of bytes", x.cards(sheet, 0, 0, 0), 0);
            Check.due("tells(" + sheet + ", 0), just 9", x.tells(sheet, 0), NONE);
            Check.due("tells(" + sheet + ", 1), just 9", x.tells(sheet, 1), 512);
            Check.due("item 0 of one", x.cell(sheet, 0, 9), 1);
        }
        Check.due("film(0, 10), of 16", x.film(0, 10), 16);
        Check.due("item 16 of 16", x.cell(0, 16, 0), -12);
        for (int i = 15; i > 0; i--) {
            x.takeUp();
        }
        x.lay(0, 0, 0);
        x.image();
        x.card(0, 1);
        Check.due("film(1, 0), as long as before", x.film(1, 0), 1);
        x.back();
        Check.due("item 0 of 16", Check.item(x, 0, 0, 6), 0);
        Check.due("item 15 of 16", Check.item(x, 0, 0, 15), 9);
        Check.due("item 7 of 16", Check.item(x, 0, 0, 7), 1);
    }

    private static void drawnOfFew() {
        SevenInTheHay none = new SevenInTheHay();
        for (int seed : SEEDS) {
            Check.due("drawn(" + seed + ") of none", none.drawn(seed), STATE);
            Check.due("drawn(" + seed + ") of one", Check.ring(50).drawn(seed), 1);
            Check.due("drawn(" + seed + ") of two", Check.ring(1, 1).drawn(seed), 2);
        }
    }

    /** The cards as they are drawn, reckoned in longs of which 32 bits are kept. */
    private static int[] drawn(int[] cards, int seed) {
        int[] drawn = cards.clone();
        long z = seed;
        for (int k = drawn.length - 1; k >= 1; k--) {
            z = z * 1103515245L + 12345L & 0xffffffffL;
            int j = (int) (z / 512 % (k + 1));
            int card = drawn[k];
            drawn[k] = drawn[j];
            drawn[j] = card;
        }
        return drawn;
    }

    private static void drawn() {
        int[][] rings = {
            {1, 0}, {1, 2, 0}, {1, 2, 31}, {1, 12, 23, 34}, {1, 1, 2, 2, 13, 30},
            {1, 2, 3, 4, 5, 6, 7, 8, 9, 11, 12, 13, 14, 31, 20, 40}, {1, 1, 1, 1, 1, 1, 1, 1, 1, 1, 1, 1, 1, 1, 1, 50}
        };
        for (int[] cards : rings) {
            SevenInTheHay x = Check.ring(cards);
            for (int seed : SEEDS) {
                int due = Check.ring(drawn(cards, seed)).round(0, 1);
                Check.due("drawn(" + seed + ") of " + cards.length, x.drawn(seed), due);
            }
            Check.dueCards(x, cards);
        }
    }

    private static void noChance() {
        SevenInTheHay x = Check.ring(0);
        for (int n : new int[] {MIN, -1, 0, 21, 22, MAX}) {
            Check.due("chance(0, " + n + ", 0)", x.chance(0, n, 0), NO);
            Check.due("chance(0, " + n + ", 1)", x.chance(0, n, 1), NO);
        }
        for (int part : new int[] {MIN, -1, 2, MAX}) {
            Check.due("chance(0, 1, " + part + ")", x.chance(0, 1, part), NO);
            Check.due("chance(0, 20, " + part + ")", x.chance(0, 20, part), NO);
        }
        for (int n : new int[] {1, 20}) {
            Check.due("chance(0, " + n + ", 0)", x.chance(0, n, 0), 1);
            Check.due("chance(0, " + n + ", 1)", x.chance(0, n, 1), 1);
        }
        SevenInTheHay none = new SevenInTheHay();
        for (int part = 0; part < 2; part++) {
            Check.due("chance(0, 1, " + part + ") of none", none.chance(0, 1, part), NO);
            Check.due("chance(0, 20, " + part + ") of none", none.chance(0, 20, part), NO);
        }
    }

    // 0 of n is 0 by 1, all of them 1 by 1; a SEED near the most goes on with the least int.
    private static void chance() {
        int[] cards = {11, 2, 1, 2};
        SevenInTheHay x = Check.ring(cards);
        SevenInTheHay never = Check.ring(0, 0);
        for (int seed : SEEDS) {
            int above = 0;
            for (int n = 1; n <= 20; n++) {
                int end = Check.ring(drawn(cards, seed + n - 1)).round(0, 0);
                above += end == HARVEST ? 1 : 0;
                int divisor = divisor(above, n);
                Check.due("chance(" + seed + ", " + n + ", 0)", x.chance(seed, n, 0), above / divisor);
                Check.due("chance(" + seed + ", " + n + ", 1)", x.chance(seed, n, 1), n / divisor);
            }
            Check.due("chance(" + seed + ", 20, 0), never", never.chance(seed, 20, 0), 0);
            Check.due("chance(" + seed + ", 20, 1), never", never.chance(seed, 20, 1), 1);
        }
        Check.dueCards(x, cards);
    }

    private static int divisor(int a, int b) {
        return b == 0 ? a : divisor(b, a % b);
    }

    private static void noImage() {
        SevenInTheHay x = new SevenInTheHay();
        Check.due("back() of a new object", x.back(), STATE);
        x.card(1, 2);
        Check.due("back(), no image still", x.back(), STATE);
        Check.dueCards(x, 12);
        x.image();
        Check.due("back()", x.back(), 1);
        Check.due("back() again", x.back(), 1);
    }

    private static void images() {
        SevenInTheHay x = new SevenInTheHay();
        Check.due("image() of none", x.image(), 0);
        Check.due("back() to none, of none", x.back(), 0);
        int[] cards = new int[16];
        for (int i = 0; i < 16; i++) {
            cards[i] = 3 * i;
            x.card(cards[i] / 10, cards[i] % 10);
        }
        Check.due("back() to none, of 16", x.back(), 0);
        Check.due("count(0)", x.count(0), 0);
        Check.due("takeUp()", x.takeUp(), STATE);
        for (int card : cards) {
            x.card(card / 10, card % 10);
        }
        Check.due("image() of 16", x.image(), 16);
        for (int i = 0; i < 16; i++) {
            x.takeUp();
        }
        Check.due("back() to 16, of none", x.back(), 16);
        Check.dueCards(x, cards);
        Check.due("card(0, 0), the 17th", x.card(0, 0), SevenInTheHay.FULL);
        x.takeUp();
        Check.due("image() anew, of 15", x.image(), 15);
        x.takeUp();
        Check.due("back() to 15", x.back(), 15);
    }

    private static void imageKeeps() {
        SevenInTheHay x = Check.ring(1, 59);
        x.image();
        x.lay(0, 4, 4);
        x.swap(0, 1);
        Check.text(x, "further 0;passes 0;pays 7;");
        x.force(1);
        x.feed('!');
        Check.sheet(x, 0, 0, 3);
        Check.due("back()", x.back(), 2);
        Check.dueCards(x, 1, 59);
        Check.due("count(3), THE RULE", x.count(3), 0);
        Check.due("count(1), TEXTS that came stay", x.count(1), 2);
        Check.due("count(2), THE TAPE stays", x.count(2), 1);
        Check.due("the SHEET stays", Check.item(x, 0, 0, 0), 3);
        x.force(1);
        Check.due("worth by TEXT 1 that stayed", x.round(1, 2), 0);
        x.image();
        x.force(0);
        x.back();
        Check.due("count(3), THE RULE of the other IMAGE", x.count(3), 1);
    }

    private static void count() {
        SevenInTheHay x = new SevenInTheHay();
        int[] least = {0, 1, 0, 0}, most = {16, 6, 160, 5};
        for (int what = 0; what < 4; what++) {
            Check.due("count(" + what + ") of a new object", x.count(what), least[what]);
        }
        for (int i = 1; i < 6; i++) {
            Check.text(x, "further 0;passes 0;pays 1;");
        }
        Check.feed(x, Texts.padded("", 160));
        x.force(5);
        for (int i = 0; i < 16; i++) {
            x.card(0, 0);
        }
        for (int what = 0; what < 4; what++) {
            Check.due("count(" + what + ") of all", x.count(what), most[what]);
        }
        for (int what : new int[] {-1, 4, MIN, MAX}) {
            Check.due("count(" + what + ")", x.count(what), BAD);
        }
    }
}
