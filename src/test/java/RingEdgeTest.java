/** THE RING and promises 1 to 6 at their boundaries: a test's name tells the promise and the sentence. */
public final class RingEdgeTest {
    private static final int NONE = SevenInTheHay.NONE, BAD = SevenInTheHay.BAD;
    private static final int STATE = SevenInTheHay.STATE, FULL = SevenInTheHay.FULL;
    private static final int MAX = Integer.MAX_VALUE, MIN = Integer.MIN_VALUE;
    private static final int HARVEST = 0, HOME = 1, DIED = 2, BLOCKED = 3;

    public static void main(String[] args) {
        Check.test("Promise 1: \"An empty RING.\"", RingEdgeTest::emptyRing);
        Check.test("Promise 1, and what a new object holds beside THE RING", RingEdgeTest::emptyElse);
        Check.test("1 THE RING: \"n PLACES (0 .. n less 1\"", RingEdgeTest::places);
        Check.test("1 THE RING: \"16 at most\"; promise 2, card: \"FULL\"", RingEdgeTest::sixteen);
        Check.test("1 THE RING: \"to the right of the last one is the first\"", RingEdgeTest::around);
        Check.test("\"An object is used for at most 512 calls\"", RingEdgeTest::lastCall);
        Check.test("\"An object is used for at most 512 calls\", however dear they are", RingEdgeTest::lastDearCall);
        Check.test("Terms: \"CARDS have a KIND: 0 CARD, .. 5 SEVEN\"; promises 2, 3: \"BAD\"", RingEdgeTest::kinds);
        Check.test("Terms: \"a NUMBER (0 .. 9)\"; promises 2, 3: \"BAD\"", RingEdgeTest::numbers);
        Check.test("POINTS: \"CARD: NUMBER\", \"SEVEN: as a CARD\"", RingEdgeTest::pointsToTheRight);
        Check.test("POINTS: \"KING: NUMBER to the left\"", RingEdgeTest::pointsToTheLeft);
        Check.test("POINTS: \"QUEEN: half of n (cut)\"; Terms: \"Quotients are cut toward 0\"", RingEdgeTest::queens);
        Check.test("POINTS: \"JOKER: 1 more than a QUEEN\"", RingEdgeTest::jokers);
        Check.test("POINTS: \"KNAVE: .. PLACE q, but if q is p, as a KING\"", RingEdgeTest::knaves);
        Check.test("BLOCKS: \"SEVEN: yes; others: no\"", RingEdgeTest::blocks);
        Check.test("Promise 2, card: \"A CARD comes behind the last one: its PLACE.\"", RingEdgeTest::behindTheLast);
        Check.test("Promise 3, lay: \"10 times KIND, and NUMBER, that were. BAD.\"", RingEdgeTest::lay);
        Check.test("Promise 4, takeUp: \"The last CARD goes .. STATE: there is none.\"", RingEdgeTest::takeUp);
        Check.test("Promise 5, swap: \"1 (0: it is one PLACE). BAD.\"", RingEdgeTest::swap);
        Check.test("Promise 6, told: \"KIND (what 0), .. (3; ..). -100: none such.\"", RingEdgeTest::toldWhat);
        Check.end();
    }

    private static void emptyRing() {
        SevenInTheHay x = new SevenInTheHay();
        Check.due("count(0)", x.count(0), 0);
        Check.due("lay(0, 0, 0)", x.lay(0, 0, 0), BAD);
        Check.due("takeUp()", x.takeUp(), STATE);
        Check.due("swap(0, 0)", x.swap(0, 0), BAD);
        Check.due("told(0, 0)", x.told(0, 0), -100);
        Check.due("round(0, 0)", x.round(0, 0), -100000);
        Check.due("round(0, 10)", x.round(0, 10), -100000);
        Check.due("harvests()", x.harvests(), 0);
        Check.due("best(0)", x.best(0), NONE);
        Check.due("best(1)", x.best(1), 0);
        Check.due("change(0, 0)", x.change(0, 0), BAD);
        Check.due("anew(0, 0, 0)", x.anew(0, 0, 0), BAD);
        Check.due("hay(0, 0)", x.hay(0, 0), -100000);
        Check.due("layings(0)", x.layings(0), 0);
        Check.due("layings(1)", x.layings(1), 0);
        Check.due("tells(0, 10)", x.tells(0, 10), BAD);
        Check.due("tells(0, 30)", x.tells(0, 30), BAD);
        Check.due("film(0, 0)", x.film(0, 0), BAD);
        Check.due("drawn(0)", x.drawn(0), STATE);
        Check.due("chance(0, 1, 0)", x.chance(0, 1, 0), SevenInTheHay.NO);
        Check.due("taken(0, 0)", x.taken(0, 0), -11);
        Check.due("image()", x.image(), 0);
        Check.due("card(0, 0)", x.card(0, 0), 0);
    }

    private static void emptyElse() {
        SevenInTheHay x = new SevenInTheHay();
        Check.due("count(1), TEXT 0", x.count(1), 1);
        Check.due("count(2), THE TAPE", x.count(2), 0);
        Check.due("count(3), THE RULE", x.count(3), 0);
        Check.due("back(), no IMAGE", x.back(), STATE);
        for (int sheet = 0; sheet < 4; sheet++) {
            Check.due("cell(" + sheet + ", 0, 0), missing", x.cell(sheet, 0, 0), -11);
        }
        Check.due("force(1), no TEXT", x.force(1), BAD);
        Check.due("text() of nothing", x.text(), -100);
    }

    private static void places() {
        for (int n : new int[] {1, 2, 15, 16}) {
            SevenInTheHay x = Check.ringOf(n, 0);
            for (int place : new int[] {0, n - 1}) {
                isPlace(x, place);
            }
            for (int place : new int[] {-2, -1, n, n + 1, 16, MIN, MAX}) {
                isNoPlace(x, place);
            }
        }
    }

    private static void isPlace(SevenInTheHay x, int p) {
        String of = " of PLACE " + p;
        Check.due("lay" + of, x.lay(p, 0, 0), 0);
        Check.due("swap" + of, x.swap(p, p), 0);
        Check.due("told" + of, x.told(p, 1), 0);
        Check.due("round" + of, x.round(p, 3), p);
        Check.due("change" + of, x.change(p, 1), 1);
        Check.isTrue("anew" + of, x.anew(p, p, 0) >= 0);
        Check.due("hay, worth" + of, x.hay(p, 1), x.count(0) == 1 ? -6 : 1);
        Check.due("film" + of, x.film(0, p), 1);
        Check.isTrue("tells, KINDS" + of, x.tells(0, 10 + p) > 0);
        Check.isTrue("tells, NUMBERS" + of, x.tells(0, 30 + p) > 0);
        Check.due("tells, told" + of, x.tells(0, 0), NONE);
        Check.due("taken" + of, x.taken(p, 0), 0);
    }

    private static void isNoPlace(SevenInTheHay x, int p) {
        String of = " of PLACE " + p;
        Check.due("lay" + of, x.lay(p, 0, 0), BAD);
        Check.due("swap" + of, x.swap(p, 0), BAD);
        Check.due("swap, the other" + of, x.swap(0, p), BAD);
        Check.due("swap, both" + of, x.swap(p, p), BAD);
        Check.due("told" + of, x.told(p, 0), -100);
        Check.due("round" + of, x.round(p, 0), -100000);
        Check.due("change" + of, x.change(p, 0), BAD);
        Check.due("anew" + of, x.anew(p, 0, 0), BAD);
        Check.due("anew, from" + of, x.anew(0, p, 0), BAD);
        Check.due("hay" + of, x.hay(p, 0), -100000);
        Check.due("film" + of, x.film(0, p), BAD);
        Check.due("tells, KINDS" + of, x.tells(0, 10 + p), BAD);
        Check.due("tells, NUMBERS" + of, x.tells(0, 30 + p), BAD);
        Check.due("taken" + of, x.taken(p, 0), -11);
        Check.sheet(x, 1, 2, p);
        Check.due("tells, told" + of, x.tells(1, 0), BAD);
    }

    private static void sixteen() {
        SevenInTheHay x = Check.ringOf(15, 11);
        Check.due("card(5, 9), the 16th", x.card(5, 9), 15);
        Check.due("card(5, 9), the 17th", x.card(5, 9), FULL);
        Check.due("card(0, 0), the 17th", x.card(0, 0), FULL);
        Check.due("count(0)", x.count(0), 16);
        Check.due("takeUp(), the 16th", x.takeUp(), 59);
        Check.due("card(0, 3), there is room again", x.card(0, 3), 15);
        Check.due("card(0, 3), the 17th", x.card(0, 3), FULL);
        Check.due("told(15, 1)", x.told(15, 1), 3);
    }

    private static void around() {
        Check.round(Check.ring(0, 0, 1), 2, DIED, 2, 0);
        Check.round(Check.ring(11, 0, 0), 0, DIED, 0, 2);
        Check.round(Check.ring(0, 9), 1, DIED, 1, 0);
        Check.round(Check.ring(19, 50), 0, BLOCKED, 0, 1);
        Check.round(Check.ring(9), 0, HARVEST, 0);
        Check.round(Check.ring(19), 0, HARVEST, 0);
        SevenInTheHay x = Check.ringOf(16, 50);
        x.lay(15, 0, 1);
        Check.round(x, 15, BLOCKED, 15, 0);
        x.lay(15, 0, 9);
        Check.round(x, 15, BLOCKED, 15, 8);
        x.lay(15, 4, 0);
        Check.round(x, 15, BLOCKED, 15, 8);
        x.lay(0, 1, 1);
        Check.round(x, 0, BLOCKED, 0, 15, 8);
    }

    // What 511 calls stand ahead of is promised still.
    private static void lastCall() {
        SevenInTheHay x = new SevenInTheHay();
        x.card(0, 0);
        for (int call = 2; call < 512; call++) {
            x.lay(0, call % 6, call % 10);
        }
        Check.due("lay(0, 0, 0), the 512th", x.lay(0, 0, 0), 10 * (511 % 6) + 511 % 10);
    }

    private static void lastDearCall() {
        SevenInTheHay x = Check.ringOf(6, 1);
        for (int call = 7; call <= 512; call++) {
            int what = call % 2;
            Check.due("layings(" + what + "), call " + call, x.layings(what), what == 0 ? 720 : 123456);
        }
        SevenInTheHay full = Check.ringOf(16, 1);
        for (int call = 17; call <= 512; call++) {
            int part = call % 2;
            switch (call % 4) {
                case 0: Check.due("anew, call " + call, full.anew(15, 0, 0), 1); break;
                case 1: Check.due("change, call " + call, full.change(0, 1), 16); break;
                case 2: Check.due("chance, call " + call, full.chance(call, 20, part), 1); break;
                default: Check.due("drawn, call " + call, full.drawn(call), 16);
            }
        }
    }

    private static void kinds() {
        SevenInTheHay x = new SevenInTheHay();
        for (int kind = 0; kind < 6; kind++) {
            Check.due("card(" + kind + ", 0)", x.card(kind, 0), kind);
            Check.due("told(" + kind + ", 0)", x.told(kind, 0), kind);
            Check.due("lay(0, " + kind + ", 0)", x.lay(0, kind, 0), kind == 0 ? 0 : 10 * (kind - 1));
        }
        for (int kind : new int[] {-1, 6, MIN, MAX}) {
            Check.due("card(" + kind + ", 0)", x.card(kind, 0), BAD);
            Check.due("lay(0, " + kind + ", 0)", x.lay(0, kind, 0), BAD);
        }
    }

    private static void numbers() {
        SevenInTheHay x = new SevenInTheHay();
        for (int number = 0; number < 10; number++) {
            Check.due("card(0, " + number + ")", x.card(0, number), number);
            Check.due("told(" + number + ", 1)", x.told(number, 1), number);
            Check.due("lay(0, 0, " + number + ")", x.lay(0, 0, number), Math.max(0, number - 1));
        }
        for (int number : new int[] {-1, 10, MIN, MAX}) {
            Check.due("card(0, " + number + ")", x.card(0, number), BAD);
            Check.due("card(5, " + number + ")", x.card(5, number), BAD);
            Check.due("lay(0, 0, " + number + ")", x.lay(0, 0, number), BAD);
        }
    }

    /** How many to the right a card on the last of n places points, turned first. */
    private static void points(int n, int card, int due) {
        SevenInTheHay x = Check.ringOf(n, 0);
        x.lay(n - 1, card / 10, card % 10);
        Check.due("told(.., 3) of " + card + " among " + n, x.told(n - 1, 3), due);
    }

    private static void pointsToTheRight() {
        for (int n : new int[] {1, 2, 16}) {
            points(n, 0, 0);
            points(n, 1, 1);
            points(n, 9, 9);
            points(n, 50, 0);
            points(n, 59, 9);
        }
    }

    private static void pointsToTheLeft() {
        for (int n : new int[] {1, 2, 16}) {
            points(n, 10, 0);
            points(n, 11, -1);
            points(n, 19, -9);
        }
    }

    private static void queens() {
        int[][] halves = {{1, 0}, {2, 1}, {3, 1}, {4, 2}, {5, 2}, {15, 7}, {16, 8}};
        for (int[] half : halves) {
            points(half[0], 20, half[1]);
            points(half[0], 29, half[1]);
        }
    }

    private static void jokers() {
        int[][] more = {{1, 1}, {2, 2}, {3, 2}, {4, 3}, {5, 3}, {15, 8}, {16, 9}};
        for (int[] m : more) {
            points(m[0], 40, m[1]);
            points(m[0], 49, m[1]);
        }
    }

    private static void knaves() {
        points(1, 39, -9);
        points(2, 30, 0);
        points(16, 31, -1);
        points(16, 39, -9);
        // The first one is as a KING; turned from PLACE q it is not, also where q is the nearest one.
        Check.round(Check.ring(30, 0), 0, HOME, 0);
        Check.round(Check.ring(31, 0), 0, DIED, 0, 1);
        Check.round(Check.ring(39), 0, HARVEST, 0);
        Check.round(Check.ring(1, 39), 0, HARVEST, 0, 1);
        Check.round(Check.ring(1, 1, 39), 0, DIED, 0, 1, 2);
        Check.round(Check.ring(2, 1, 39), 0, HOME, 0, 2);
    }

    private static void blocks() {
        for (int kind = 0; kind < 6; kind++) {
            for (int number = 0; number < 10; number++) {
                SevenInTheHay x = Check.ring(10 * kind + number);
                Check.due("told(0, 2) of " + kind + ", " + number, x.told(0, 2), kind == 5 ? 1 : 0);
                Check.due("round(0, 0) of " + kind + ", " + number, x.round(0, 0), kind == 5 ? BLOCKED : HARVEST);
            }
        }
    }

    private static void behindTheLast() {
        SevenInTheHay x = new SevenInTheHay();
        Check.due("card(5, 9), the first", x.card(5, 9), 0);
        Check.due("card(0, 0), the second", x.card(0, 0), 1);
        Check.due("takeUp()", x.takeUp(), 0);
        Check.due("card(3, 4), the second again", x.card(3, 4), 1);
        Check.dueCards(x, 59, 34);
    }

    private static void lay() {
        SevenInTheHay x = Check.ring(0, 59);
        Check.due("lay(0, 5, 9) on the least", x.lay(0, 5, 9), 0);
        Check.due("lay(1, 0, 0) on the most", x.lay(1, 0, 0), 59);
        Check.due("lay(1, 0, 0), the same", x.lay(1, 0, 0), 0);
        Check.dueCards(x, 59, 0);
    }

    private static void takeUp() {
        SevenInTheHay x = Check.ring(0, 59);
        Check.due("takeUp(), the second", x.takeUp(), 59);
        Check.due("takeUp(), the last that is", x.takeUp(), 0);
        Check.due("takeUp() of none", x.takeUp(), STATE);
        Check.due("takeUp() of none again", x.takeUp(), STATE);
        Check.due("card(1, 2)", x.card(1, 2), 0);
        SevenInTheHay full = Check.ringOf(16, 7);
        for (int i = 15; i >= 0; i--) {
            Check.due("takeUp() of 16", full.takeUp(), 7);
            Check.due("count(0)", full.count(0), i);
        }
        Check.due("takeUp() of all 16", full.takeUp(), STATE);
    }

    private static void swap() {
        SevenInTheHay x = Check.ringOf(16, 0);
        x.lay(0, 1, 2);
        x.lay(15, 5, 9);
        Check.due("swap(15, 0)", x.swap(15, 0), 1);
        Check.due("lay(0, 0, 0)", x.lay(0, 0, 0), 59);
        Check.due("lay(15, 0, 0)", x.lay(15, 0, 0), 12);
        Check.due("swap(0, 1) of like ones", x.swap(0, 1), 1);
        Check.due("swap(15, 15)", x.swap(15, 15), 0);
        Check.due("swap(0, 0)", x.swap(0, 0), 0);
        Check.due("swap(15, 16)", x.swap(15, 16), BAD);
        Check.due("swap(-1, 0)", x.swap(-1, 0), BAD);
        Check.due("swap(16, 16)", x.swap(16, 16), BAD);
        Check.due("swap(-1, -1)", x.swap(-1, -1), BAD);
    }

    private static void toldWhat() {
        SevenInTheHay x = Check.ring(59);
        int[] due = {5, 9, 1, 9};
        for (int what = 0; what < 4; what++) {
            Check.due("told(0, " + what + ")", x.told(0, what), due[what]);
        }
        for (int what : new int[] {-1, 4, MIN, MAX}) {
            Check.due("told(0, " + what + ")", x.told(0, what), -100);
            Check.due("told(1, " + what + ")", x.told(1, what), -100);
        }
    }
}
