/** SHEETS, promises 24 to 28, at their boundaries: a test's name tells the promise and the sentence. */
public final class HostEdgeTest {
    private static final int NONE = SevenInTheHay.NONE, BAD = SevenInTheHay.BAD;
    private static final int MAX = Integer.MAX_VALUE, MIN = Integer.MIN_VALUE;
    private static final int MISSING = -11, OUTSIDE = -12, UNLIKE = -13, BELOW_ZERO = -14;

    public static void main(String[] args) {
        Check.test("3 SHEETS \"0 .. 3 are rows of numbers, or missing (as all are at first)\"", HostEdgeTest::sheets);
        Check.test("Promise 24, sheet: \"BAD: no such SHEET, sort; n above 40\"", HostEdgeTest::sheetRefused);
        Check.test("Promise 24, sheet: \"-14\": a size below 0, behind BAD", HostEdgeTest::belowZero);
        Check.test("Promise 24, sheet: \"or missing (sort -1: n does not matter)\"", HostEdgeTest::sheetMissing);
        Check.test("Promise 24, sheet: \"a row of n of a sort, all 0\", of 0 and of 40", HostEdgeTest::rows);
        Check.test("Promise 25, cell: \"BAD: no such SHEET; -11; -12\"", HostEdgeTest::cellRefused);
        Check.test("Promise 25, cell: \"(of bytes, shorts its lowest 8, 16 bits)\"", HostEdgeTest::narrowed);
        Check.test("Promise 26, copy: \"BAD: no such SHEET; -11; -13 ..; -12\", in this order", HostEdgeTest::copyRefused);
        Check.test("Promise 26, copy: \"-12 (also with n below 0)\"", HostEdgeTest::copyOutside);
        Check.test("Promise 26, copy: \"n numbers .. (as they were): n\", none, all, of one SHEET", HostEdgeTest::copy);
        Check.test("Promise 27, cards: \"BAD: no such SHEET, sort, n; -13; -11; -12\"", HostEdgeTest::cardsRefused);
        Check.test("Promise 27, cards: \"n of them (0 .. 16)\", \"from one on, two by two\"", HostEdgeTest::cards);
        Check.test("Promise 27, cards: \"how many came (others are left out)\"", HostEdgeTest::leftOut);
        Check.test("Promise 27, cards: \"-12: what stood ahead came\"", HostEdgeTest::cameAhead);
        Check.test("Promise 28, taken: \"BAD: k; -11: no such PLACE; -13\"", HostEdgeTest::takenRefused);
        Check.test("Promise 28, taken: \"or one under that one (also by others between)\"", HostEdgeTest::taken);
        Check.end();
    }

    private static void sheets() {
        SevenInTheHay x = new SevenInTheHay();
        for (int sheet : new int[] {-1, 4, MIN, MAX}) {
            Check.due("sheet(" + sheet + ", 0, 1)", x.sheet(sheet, 0, 1), BAD);
            Check.due("sheet(" + sheet + ", -1, 1)", x.sheet(sheet, -1, 1), BAD);
            Check.due("cell(" + sheet + ", 0, 0)", x.cell(sheet, 0, 0), BAD);
            Check.due("copy(" + sheet + ", ..)", x.copy(sheet, 0, 0, 0, 0), BAD);
            Check.due("copy(0, 0, " + sheet + ", ..)", x.copy(0, 0, sheet, 0, 0), BAD);
            Check.due("cards(" + sheet + ", ..)", x.cards(sheet, 0, 0, 0), BAD);
        }
        for (int sheet = 0; sheet < 4; sheet++) {
            Check.due("cell(" + sheet + ", 0, 0), missing", x.cell(sheet, 0, 0), MISSING);
            Check.due("copy(" + sheet + ", ..), missing", x.copy(sheet, 0, sheet, 0, 0), MISSING);
            Check.due("cards(" + sheet + ", ..), missing", x.cards(sheet, 0, 0, 0), MISSING);
            Check.due("sheet(" + sheet + ", 0, 1)", x.sheet(sheet, 0, 1), 1);
            Check.due("cell(" + sheet + ", 0, 0)", x.cell(sheet, 0, 0), 1);
        }
    }

    private static void sheetRefused() {
        SevenInTheHay x = new SevenInTheHay();
        for (int sort : new int[] {-2, 3, MIN, MAX}) {
            Check.due("sheet(0, " + sort + ", 1)", x.sheet(0, sort, 1), BAD);
            Check.due("sheet(0, " + sort + ", 41)", x.sheet(0, sort, 41), BAD);
        }
        for (int sort = 0; sort < 3; sort++) {
            Check.due("sheet(0, " + sort + ", 41)", x.sheet(0, sort, 41), BAD);
            Check.due("sheet(0, " + sort + ", max)", x.sheet(0, sort, MAX), BAD);
            Check.due("it is missing still", x.cell(0, 0, 0), MISSING);
        }
        for (int sort = 0; sort < 3; sort++) {
            Check.due("sheet(" + sort + ", " + sort + ", 40)", x.sheet(sort, sort, 40), 1);
            Check.due("cell(" + sort + ", 39, 5)", x.cell(sort, 39, 5), 1);
            Check.due("sheet(" + sort + ", " + sort + ", 41)", x.sheet(sort, sort, 41), BAD);
            Check.due("it is as it was", Check.item(x, sort, sort, 39), 5);
        }
    }

    private static void belowZero() {
        SevenInTheHay x = new SevenInTheHay();
        for (int n : new int[] {-1, -2, -41, MIN}) {
            for (int sort = 0; sort < 3; sort++) {
                Check.due("sheet(0, " + sort + ", " + n + ")", x.sheet(0, sort, n), BELOW_ZERO);
            }
            Check.due("sheet(0, 3, " + n + ")", x.sheet(0, 3, n), BAD);
            Check.due("sheet(0, -2, " + n + ")", x.sheet(0, -2, n), BAD);
            Check.due("sheet(4, 0, " + n + ")", x.sheet(4, 0, n), BAD);
            Check.due("it is missing still", x.cell(0, 0, 0), MISSING);
        }
        Check.due("sheet(0, 0, 0)", x.sheet(0, 0, 0), 1);
    }

    private static void sheetMissing() {
        SevenInTheHay x = new SevenInTheHay();
        for (int n : new int[] {0, 1, 40, 41, -1, MIN, MAX}) {
            x.sheet(0, 0, 1);
            Check.due("sheet(0, -1, " + n + ")", x.sheet(0, -1, n), 1);
            Check.due("it is missing", x.cell(0, 0, 0), MISSING);
            Check.due("sheet(0, -1, " + n + "), missing already", x.sheet(0, -1, n), 1);
        }
    }

    private static void rows() {
        SevenInTheHay x = new SevenInTheHay();
        for (int sort = 0; sort < 3; sort++) {
            Check.due("sheet(0, " + sort + ", 0)", x.sheet(0, sort, 0), 1);
            Check.due("cell(0, 0, 0) of none", x.cell(0, 0, 0), OUTSIDE);
            Check.due("copy of none", x.copy(0, 0, 0, 0, 0), 0);
            Check.due("cards of none", x.cards(0, sort, 0, 0), 0);
            for (int before = 0; before < 2; before++) {
                Check.due("sheet(0, " + sort + ", 40)", x.sheet(0, sort, 40), 1);
                for (int i : new int[] {0, 1, 20, 39}) {
                    Check.due("item " + i, Check.item(x, 0, sort, i), 0);
                    x.cell(0, i, 7);
                }
            }
            Check.due("sheet(0, " + sort + ", 2), smaller", x.sheet(0, sort, 2), 1);
            Check.dueItems(x, 0, sort, 0, 0);
            x.sheet(0, sort, 3);
            Check.dueItems(x, 0, sort, 0, 0, 0);
        }
        x.cell(0, 1, 5);
        x.sheet(0, -1, 3);
        x.sheet(0, 2, 3);
        Check.dueItems(x, 0, 2, 0, 0, 0);
    }

    private static void cellRefused() {
        SevenInTheHay x = new SevenInTheHay();
        Check.sheet(x, 0, 1, 1, 2, 3);
        for (int i : new int[] {-1, 3, 39, 40, MIN, MAX}) {
            Check.due("cell(4, " + i + ", 9)", x.cell(4, i, 9), BAD);
            Check.due("cell(-1, " + i + ", 9)", x.cell(-1, i, 9), BAD);
            Check.due("cell(1, " + i + ", 9)", x.cell(1, i, 9), MISSING);
            Check.due("cell(0, " + i + ", 9)", x.cell(0, i, 9), OUTSIDE);
        }
        Check.due("cell(1, 0, 9)", x.cell(1, 0, 9), MISSING);
        Check.dueItems(x, 0, 1, 1, 2, 3);
        Check.due("cell(0, 0, 4)", x.cell(0, 0, 4), 1);
        Check.due("cell(0, 2, 6)", x.cell(0, 2, 6), 1);
        Check.dueItems(x, 0, 1, 4, 2, 6);
    }

    // What a number is as a card's number: none such is left out, here NONE. In rows: by bytes, by shorts, by ints.
    private static void narrowed() {
        int[][] due = {
            {9, 9, 9, 9}, {-1, NONE, NONE, NONE}, {127, NONE, NONE, NONE}, {128, NONE, NONE, NONE},
            {255, NONE, NONE, NONE}, {256, 0, NONE, NONE}, {256 + 9, 9, NONE, NONE}, {-256 + 9, 9, NONE, NONE},
            {-256, 0, NONE, NONE}, {32767, NONE, NONE, NONE}, {32768, 0, NONE, NONE}, {65535, NONE, NONE, NONE},
            {65536, 0, 0, NONE}, {65536 + 9, 9, 9, NONE}, {-65536 + 9, 9, 9, NONE}, {1 << 24, 0, 0, NONE},
            {MAX, NONE, NONE, NONE}, {MIN, 0, 0, NONE}, {MIN + 9, 9, 9, NONE}, {0, 0, 0, 0}
        };
        for (int[] d : due) {
            for (int sort = 0; sort < 3; sort++) {
                SevenInTheHay x = new SevenInTheHay();
                x.sheet(0, sort, 1);
                Check.due("cell(0, 0, " + d[0] + ")", x.cell(0, 0, d[0]), 1);
                Check.due("item of sort " + sort + " of " + d[0], Check.item(x, 0, sort, 0), d[sort + 1]);
            }
        }
        // As PLACES up to 15 they are seen too: below 0, or far above, there is none.
        SevenInTheHay x = Check.ringOf(16, 50);
        int[][] places = {{256 + 15, 1, 0, 0}, {65536 + 15, 1, 1, 0}, {-241, 1, 0, 0}, {15, 1, 1, 1}, {16, 0, 0, 0}};
        for (int[] p : places) {
            for (int sort = 0; sort < 3; sort++) {
                Check.sheet(x, 0, sort, p[0]);
                Check.due("tells(0, 1) of " + p[0] + ", sort " + sort, x.tells(0, 1), p[sort + 1] == 1 ? 32768 : BAD);
            }
        }
    }

    private static void copyRefused() {
        SevenInTheHay x = new SevenInTheHay();
        Check.sheet(x, 0, 0, 1, 2, 3);
        Check.sheet(x, 1, 1, 4, 5);
        Check.sheet(x, 2, 2, 6, 7);
        // 3 is missing; each row has all that come behind it too.
        Check.due("copy(4, 9, 3, 9, -1)", x.copy(4, 9, 3, 9, -1), BAD);
        Check.due("copy(3, 9, 4, 9, -1)", x.copy(3, 9, 4, 9, -1), BAD);
        Check.due("copy(-1, 0, 0, 0, 1)", x.copy(-1, 0, 0, 0, 1), BAD);
        Check.due("copy(0, 0, -1, 0, 1)", x.copy(0, 0, -1, 0, 1), BAD);
        Check.due("copy(3, 9, 0, 9, -1)", x.copy(3, 9, 0, 9, -1), MISSING);
        Check.due("copy(0, 9, 3, 9, -1)", x.copy(0, 9, 3, 9, -1), MISSING);
        Check.due("copy(3, 0, 3, 0, 0)", x.copy(3, 0, 3, 0, 0), MISSING);
        for (int other = 1; other < 3; other++) {
            Check.due("copy(0, 9, .., 9, -1)", x.copy(0, 9, other, 9, -1), UNLIKE);
            Check.due("copy(.., 9, 0, 9, -1)", x.copy(other, 9, 0, 9, -1), UNLIKE);
            Check.due("copy(0, 0, .., 0, 0)", x.copy(0, 0, other, 0, 0), UNLIKE);
            Check.due("copy(0, 0, .., 0, 1)", x.copy(0, 0, other, 0, 1), UNLIKE);
        }
        Check.due("copy(1, 0, 2, 0, 1)", x.copy(1, 0, 2, 0, 1), UNLIKE);
        Check.dueItems(x, 0, 0, 1, 2, 3);
        Check.dueItems(x, 1, 1, 4, 5);
        Check.dueItems(x, 2, 2, 6, 7);
    }

    private static void copyOutside() {
        SevenInTheHay x = new SevenInTheHay();
        Check.sheet(x, 0, 1, 1, 2, 3);
        Check.sheet(x, 1, 1, 4, 5);
        int[][] outside = {
            {0, 0, -1}, {0, 0, MIN}, {1, 1, -1}, {-1, 0, 1}, {0, -1, 1}, {-1, 0, 0}, {0, -1, 0},
            {2, 0, 2}, {1, 0, 3}, {0, 0, 3}, {0, 1, 2}, {3, 0, 1}, {0, 2, 1}, {4, 0, 0}, {0, 3, 0},
            {MAX, 0, 1}, {0, MAX, 1}, {1, 0, MAX}, {0, 0, MAX}, {MIN, 0, 1}, {MAX, MAX, MAX}, {MIN, MIN, MIN}
        };
        for (int[] o : outside) {
            String call = "copy(0, " + o[0] + ", 1, " + o[1] + ", " + o[2] + ")";
            Check.due(call, x.copy(0, o[0], 1, o[1], o[2]), OUTSIDE);
        }
        Check.dueItems(x, 0, 1, 1, 2, 3);
        Check.dueItems(x, 1, 1, 4, 5);
        Check.due("copy(0, 3, 1, 2, 0), just behind", x.copy(0, 3, 1, 2, 0), 0);
        Check.due("copy(0, 2, 1, 1, 1), the last ones", x.copy(0, 2, 1, 1, 1), 1);
        Check.due("copy(1, 0, 0, 1, 2), up to the last", x.copy(1, 0, 0, 1, 2), 2);
        Check.dueItems(x, 1, 1, 4, 3);
        Check.dueItems(x, 0, 1, 1, 4, 3);
    }

    private static void copy() {
        for (int sort = 0; sort < 3; sort++) {
            SevenInTheHay x = new SevenInTheHay();
            x.sheet(0, sort, 40);
            for (int i = 0; i < 40; i++) {
                x.cell(0, i, i % 10);
            }
            x.sheet(1, sort, 40);
            Check.due("copy of none", x.copy(0, 5, 1, 5, 0), 0);
            Check.due("item 5", Check.item(x, 1, sort, 5), 0);
            Check.due("copy of all", x.copy(0, 0, 1, 0, 40), 40);
            Check.due("copy of 41", x.copy(0, 0, 1, 0, 41), OUTSIDE);
            Check.due("item 0", Check.item(x, 1, sort, 0), 0);
            Check.due("item 39", Check.item(x, 1, sort, 39), 9);
            Check.sheet(x, 2, sort, 1, 2, 3, 4, 5);
            Check.due("copy onto itself", x.copy(2, 0, 2, 0, 5), 5);
            Check.dueItems(x, 2, sort, 1, 2, 3, 4, 5);
            Check.due("copy to the right", x.copy(2, 0, 2, 1, 4), 4);
            Check.dueItems(x, 2, sort, 1, 1, 2, 3, 4);
            Check.due("copy to the left", x.copy(2, 1, 2, 0, 4), 4);
            Check.dueItems(x, 2, sort, 1, 2, 3, 4, 4);
        }
    }

    private static void cardsRefused() {
        SevenInTheHay x = new SevenInTheHay();
        Check.sheet(x, 0, 1, 1, 2, 3, 4);
        // 3 is missing; each row has all that come behind it too.
        for (int sheet : new int[] {-1, 4}) {
            Check.due("cards(" + sheet + ", 1, 9, 1)", x.cards(sheet, 1, 9, 1), BAD);
        }
        for (int sort : new int[] {-1, 3, MIN, MAX}) {
            Check.due("cards(3, " + sort + ", 9, 1)", x.cards(3, sort, 9, 1), BAD);
            Check.due("cards(0, " + sort + ", 9, 1)", x.cards(0, sort, 9, 1), BAD);
        }
        for (int n : new int[] {-1, 17, MIN, MAX}) {
            Check.due("cards(3, 0, 9, " + n + ")", x.cards(3, 0, 9, n), BAD);
            Check.due("cards(0, 0, 9, " + n + ")", x.cards(0, 0, 9, n), BAD);
            Check.due("cards(0, 1, 0, " + n + ")", x.cards(0, 1, 0, n), BAD);
        }
        for (int n : new int[] {0, 1, 16}) {
            Check.due("cards(0, 0, 9, " + n + ")", x.cards(0, 0, 9, n), UNLIKE);
            Check.due("cards(0, 2, 0, " + n + ")", x.cards(0, 2, 0, n), UNLIKE);
            for (int sort = 0; sort < 3; sort++) {
                Check.due("cards(3, " + sort + ", 9, " + n + ")", x.cards(3, sort, 9, n), MISSING);
            }
        }
        for (int from : new int[] {-1, -2, 3, 4, 40, MIN, MAX, MAX - 1}) {
            Check.due("cards(0, 1, " + from + ", 1)", x.cards(0, 1, from, 1), OUTSIDE);
        }
        Check.due("count(0)", x.count(0), 0);
        Check.due("cards(0, 1, 2, 1), the last two", x.cards(0, 1, 2, 1), 1);
        Check.dueCards(x, 34);
    }

    private static void cards() {
        SevenInTheHay x = new SevenInTheHay();
        x.sheet(0, 2, 40);
        for (int i = 0; i < 40; i++) {
            x.cell(0, i, i % 6);
        }
        Check.due("cards(0, 2, 0, 0)", x.cards(0, 2, 0, 0), 0);
        Check.due("cards(0, 2, 40, 0)", x.cards(0, 2, 40, 0), 0);
        Check.due("count(0)", x.count(0), 0);
        Check.due("cards(0, 2, 38, 1)", x.cards(0, 2, 38, 1), 1);
        Check.due("cards(0, 2, 1, 1)", x.cards(0, 2, 1, 1), 1);
        Check.dueCards(x, 10 * (38 % 6) + 39 % 6, 12);
        x.takeUp();
        x.takeUp();
        Check.due("cards(0, 2, 8, 16), to the last", x.cards(0, 2, 8, 16), 16);
        Check.due("told(15, 0)", x.told(15, 0), 38 % 6);
        Check.due("told(15, 1)", x.told(15, 1), 39 % 6);
        Check.due("told(0, 0)", x.told(0, 0), 8 % 6);
    }

    private static void leftOut() {
        SevenInTheHay x = new SevenInTheHay();
        Check.sheet(x, 0, 2, -1, 0, 0, -1, 5, 9, 6, 0, 0, 10, 0, 0, MIN, MAX);
        Check.due("cards of 7, two such", x.cards(0, 2, 0, 7), 2);
        Check.dueCards(x, 59, 0);
        Check.due("cards of one, none such", x.cards(0, 2, 0, 1), 0);
        Check.due("count(0)", x.count(0), 2);
        for (int i = 2; i < 15; i++) {
            x.card(0, 1);
        }
        Check.due("cards of 7, room for one", x.cards(0, 2, 0, 7), 1);
        Check.due("told(15, 0)", x.told(15, 0), 5);
        Check.due("cards of 7, no room", x.cards(0, 2, 0, 7), 0);
        Check.due("count(0)", x.count(0), 16);
    }

    private static void cameAhead() {
        SevenInTheHay x = new SevenInTheHay();
        Check.sheet(x, 0, 0, 1, 2, 6, 0, 3, 4, 5);
        Check.due("cards of 4, half of one outside", x.cards(0, 0, 0, 4), OUTSIDE);
        Check.dueCards(x, 12, 34);
        Check.due("cards of 16", x.cards(0, 0, 1, 16), OUTSIDE);
        Check.dueCards(x, 12, 34, 26, 3, 45);
        Check.due("cards outside from the first on", x.cards(0, 0, 6, 1), OUTSIDE);
        Check.due("cards ahead of the first", x.cards(0, 0, -2, 3), OUTSIDE);
        Check.due("count(0)", x.count(0), 5);
        for (int i = 5; i < 16; i++) {
            x.card(0, 0);
        }
        Check.due("cards of 4, no room", x.cards(0, 0, 0, 4), OUTSIDE);
        Check.due("count(0)", x.count(0), 16);
        x.sheet(1, 0, 40);
        x.image();
        for (int i = 0; i < 16; i++) {
            x.takeUp();
        }
        Check.due("cards(1, 0, 10, 16), the 16th outside", x.cards(1, 0, 10, 16), OUTSIDE);
        Check.due("count(0), 15 came", x.count(0), 15);
        Check.due("back()", x.back(), 16);
    }

    private static void takenRefused() {
        SevenInTheHay x = Check.ring(30, 59);
        for (int k : new int[] {-1, 6, MIN, MAX}) {
            Check.due("taken(0, " + k + ")", x.taken(0, k), BAD);
            Check.due("taken(2, " + k + ")", x.taken(2, k), BAD);
            Check.due("taken(-1, " + k + ")", x.taken(-1, k), BAD);
        }
        for (int place : new int[] {-1, 2, MIN, MAX}) {
            Check.due("taken(" + place + ", 0)", x.taken(place, 0), MISSING);
            Check.due("taken(" + place + ", 5)", x.taken(place, 5), MISSING);
        }
        Check.due("taken(0, 0) of none", new SevenInTheHay().taken(0, 0), MISSING);
        Check.due("taken(0, 5)", x.taken(0, 5), UNLIKE);
        Check.due("taken(1, 1)", x.taken(1, 1), UNLIKE);
        Check.due("taken(1, 5)", x.taken(1, 5), 9);
        Check.due("taken(0, 0)", x.taken(0, 0), 0);
    }

    private static void taken() {
        // In rows by KIND: which k it may be taken for.
        String[] may = {"0", "01", "02", "013", "024", "05"};
        for (int kind = 0; kind < 6; kind++) {
            for (int number : new int[] {0, 9}) {
                SevenInTheHay x = Check.ring(10 * kind + number);
                for (int k = 0; k < 6; k++) {
                    boolean isOne = may[kind].indexOf('0' + k) >= 0;
                    Check.due("taken(0, " + k + ") of " + kind, x.taken(0, k), isOne ? number : UNLIKE);
                }
            }
        }
    }
}
