/** Promises 10 to 12. */
public final class RoundTest {
    private static final int NONE = SevenInTheHay.NONE, BAD = SevenInTheHay.BAD, NO_ROUND = -100000;
    private static final int HARVEST = 0, HOME = 1, DIED = 2, BLOCKED = 3;

    public static void main(String[] args) {
        refusals();
        ends();
        kindsPoint();
        knave();
        further();
        passes();
        passesOfEachCard();
        passesBound();
        worth();
        whole();
        harvests();
        best();
        Check.end();
    }

    private static void refusals() {
        SevenInTheHay x = Check.ring(1, 1);
        int[] none = {-1, 5, 9, 26, 100, Integer.MIN_VALUE, Integer.MAX_VALUE};
        for (int what : none) {
            Check.due("round(0, " + what + ")", x.round(0, what), NO_ROUND);
        }
        Check.due("round(2, 0)", x.round(2, 0), NO_ROUND);
        Check.due("round(-1, 0)", x.round(-1, 0), NO_ROUND);
        Check.due("round(0, 25)", x.round(0, 25), NONE);
        Check.due("round(0, 11)", x.round(0, 11), 1);
        Check.due("round(0, 12)", x.round(0, 12), NONE);
    }

    private static void ends() {
        Check.round(Check.ring(0), 0, HARVEST, 0);
        Check.round(Check.ring(9), 0, HARVEST, 0);
        Check.round(Check.ring(50), 0, BLOCKED, 0);
        Check.round(Check.ring(1, 1, 1), 1, HARVEST, 1, 2, 0);
        Check.round(Check.ring(1, 11, 0), 0, HOME, 0, 1);
        Check.round(Check.ring(1, 0, 0), 0, DIED, 0, 1);
        Check.round(Check.ring(0, 0), 1, HOME, 1);
        Check.round(Check.ring(1, 52, 1), 0, BLOCKED, 0, 1);
        Check.round(Check.ring(1, 1, 51), 0, BLOCKED, 0, 1, 2);
        Check.round(Check.ring(1, 1, 0), 0, DIED, 0, 1, 2);
    }

    private static void kindsPoint() {
        Check.round(Check.ring(3, 0, 0, 0, 0), 0, DIED, 0, 3);
        Check.round(Check.ring(7, 0, 0, 0, 0), 0, DIED, 0, 2);
        Check.round(Check.ring(12, 0, 0, 0, 0), 0, DIED, 0, 3);
        Check.round(Check.ring(19, 0, 0, 0, 0), 0, DIED, 0, 1);
        Check.round(Check.ring(29, 0, 0, 0, 0), 0, DIED, 0, 2);
        Check.round(Check.ring(29, 0, 0, 0), 0, DIED, 0, 2);
        Check.round(Check.ring(49, 0, 0, 0, 0), 0, DIED, 0, 3);
        Check.round(Check.ring(40, 0), 0, HOME, 0);
        Check.round(Check.ring(40), 0, HARVEST, 0);
    }

    private static void knave() {
        Check.round(Check.ring(33, 0, 0, 0, 0), 0, DIED, 0, 2);
        Check.round(Check.ring(30, 0), 0, HOME, 0);
        Check.round(Check.ring(2, 0, 39, 0), 0, HOME, 0, 2);
        Check.round(Check.ring(1, 1, 39, 0), 0, DIED, 0, 1, 2);
        SevenInTheHay back = Check.ring(2, 2, 39, 0);
        Check.rule(back, "further place=2;passes 0;pays 1;");
        Check.round(back, 0, DIED, 0, 2, 1, 3);
        // The knave is sent back to the place it was turned from, not to the one that was aimed at.
        SevenInTheHay passed = Check.ring(1, 0, 35, 0);
        Check.rule(passed, "further (step=2)*2;passes step<2;pays 1;");
        Check.round(passed, 0, DIED, 0, 1, 2, 3);
    }

    private static void further() {
        SevenInTheHay x = Check.ring(1, 1, 1, 1, 1);
        Check.rule(x, "further 1;passes 0;pays 1;");
        Check.round(x, 0, HARVEST, 0, 2, 4, 1, 3);
        x = Check.ring(1, 1, 1, 1, 1);
        Check.rule(x, "further -2;passes 0;pays 1;");
        Check.round(x, 0, HARVEST, 0, 4, 3, 2, 1);
        int[][] bounds = {{19, 3}, {20, 4}, {21, 4}, {9999, 4}, {-19, 13}, {-20, 12}, {-21, 12}, {-9999, 12}};
        for (int[] bound : bounds) {
            x = Check.ring(0, 0, 0, 0, 0, 0, 0, 0, 0, 0, 0, 0, 0, 0, 0, 0);
            Check.rule(x, "further (step=0)*" + bound[0] + ";passes 0;pays 1;");
            Check.round(x, 0, DIED, 0, bound[1]);
        }
    }

    private static void passes() {
        int[] cards = {1, 1, 1, 13, 0, 0};
        Check.round(passing(2, cards), 0, HOME, 0, 1, 2, 3);
        Check.round(passing(3, cards), 0, HOME, 0, 1, 2, 3);
        Check.round(passing(4, cards), 0, DIED, 0, 1, 2, 3, 4, 5);
        Check.round(passing(-1, 0, 0), 0, HOME, 0);
        Check.round(passing(1, 0, 0), 0, DIED, 0, 1);
        Check.round(passing(9999, 0, 0, 0), 1, DIED, 1, 2, 0);
        Check.round(passing(5, 0, 2, 0, 0, 0), 1, DIED, 1, 3, 4, 0, 2);
        Check.round(passing(3, 1, 1, 12), 0, HARVEST, 0, 1, 2);
        // What is aimed at is turned first, however many may be passed.
        Check.round(passing(15, 2, 11, 1, 1), 0, HARVEST, 0, 2, 3, 1);
    }

    private static SevenInTheHay passing(int passes, int... cards) {
        SevenInTheHay x = Check.ring(cards);
        Check.rule(x, "further 0;passes " + passes + ";pays 1;");
        return x;
    }

    // It is the card turned last that tells how many may be passed.
    private static void passesOfEachCard() {
        SevenInTheHay x = Check.ring(1, 0, 0, 0);
        Check.rule(x, "further 0;passes place=1;pays 1;");
        Check.round(x, 0, DIED, 0, 1, 2);
        x = Check.ring(1, 0, 0, 0);
        Check.rule(x, "further 0;passes left=2;pays 1;");
        Check.round(x, 0, DIED, 0, 1, 2);
    }

    // When only the place to the left of the aim is left, 15 must be passed.
    private static void passesBound() {
        int[] all = {0, 1, 2, 3, 4, 5, 6, 7, 8, 9, 10, 11, 12, 13, 14, 15};
        int[] allButLast = {0, 1, 2, 3, 4, 5, 6, 7, 8, 9, 10, 11, 12, 13, 14};
        int[] cards = {1, 1, 1, 1, 1, 1, 1, 1, 1, 1, 1, 1, 1, 1, 2, 1};
        Check.round(passing(14, cards), 0, HOME, allButLast);
        Check.round(passing(15, cards), 0, HARVEST, all);
        Check.round(passing(16, cards), 0, HARVEST, all);
    }

    private static void worth() {
        int[][] paid = {
            {9, 10}, {15, 15}, {29, 20}, {35, 14}, {49, 20}, {59, 3}
        };
        for (int[] p : paid) {
            worth("10", p[0], p[1]);
        }
        worth("1000", 19, 108);
        worth("1000", 20, 198);
        worth("1000", 30, 98);
        worth("-1000", 5, -99);
        worth("-1000", 40, -198);
        worth("-1000", 55, -106);
        SevenInTheHay x = Check.ring(1, 12, 53, 0, 0, 20);
        Check.round(x, 0, BLOCKED, 0, 1, 5, 2);
        Check.due("worth from 0 by text 0", x.round(0, 2), 1 + 3 + 2 - 6);
        Check.due("worth from 5 by text 0", x.round(5, 2), 2 - 6);
    }

    private static void worth(String pays, int card, int due) {
        SevenInTheHay x = Check.ring(card);
        Check.rule(x, "further 0;passes 0;pays " + pays + ";");
        Check.due("worth of " + card + " paying " + pays, x.round(0, 2), due);
    }

    private static void whole() {
        SevenInTheHay x = new SevenInTheHay();
        int[] places = new int[16];
        for (int i = 0; i < 16; i++) {
            x.card(0, 1);
            places[i] = (i + 5) % 16;
        }
        Check.round(x, 5, HARVEST, places);
    }

    private static void harvests() {
        Check.due("harvests of 4", Check.ring(1, 1, 1, 1).harvests(), 15);
        Check.due("harvests with a seven", Check.ring(1, 1, 51, 1).harvests(), 0);
        // From 0: 0, 1 and the knave back at 0; from 1: 1, back at 1 as a king by 1: 0, 1.
        SevenInTheHay x = Check.ring(1, 31);
        Check.due("round(0, 0)", x.round(0, 0), HARVEST);
        Check.due("round(1, 0)", x.round(1, 0), HARVEST);
        Check.due("harvests of both", x.harvests(), 3);
        x = Check.ring(1, 30);
        Check.due("harvests of the first", x.harvests(), 1);
        Check.due("harvests of the last", Check.ring(30, 1).harvests(), 2);
        SevenInTheHay all = Check.ring(0, 0);
        Check.due("harvests of none", all.harvests(), 0);
        Check.rule(all, "further 1;passes 0;pays 1;");
        Check.due("harvests by another text", all.harvests(), 3);
    }

    private static void best() {
        SevenInTheHay x = new SevenInTheHay();
        Check.due("best(0) of none", x.best(0), NONE);
        Check.due("best(1) of none", x.best(1), 0);
        Check.due("best(2) of none", x.best(2), BAD);
        Check.due("best(-1) of none", x.best(-1), BAD);
        // Longs: 2 (0, 1), 1, 3 (2, 0, 1), 3 (3, 0, 1).
        x = Check.ring(1, 0, 2, 1);
        Check.due("best(0)", x.best(0), 2);
        Check.due("best(1)", x.best(1), 3);
        Check.due("best(2)", x.best(2), BAD);
        x = Check.ring(0, 0, 0);
        Check.due("best(0) of like ones", x.best(0), 0);
        Check.due("best(1) of like ones", x.best(1), 1);
    }
}
