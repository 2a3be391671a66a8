/** What all tests share: calls whose answers aren't those that are due are printed and counted. */
final class Check {
    private static final int MOST_PRINTED = 40;
    private static final int NONE = SevenInTheHay.NONE;
    private static String running = "";
    private static int asked;
    private static int wrong;

    private Check() { }

    /** A test by its name, which tells the promise and the sentence; what goes wrong in it is printed with that. */
    static void test(String name, Runnable test) {
        int before = asked;
        running = name;
        test.run();
        isTrue("something is asked", asked > before);
        running = "";
    }

    static void due(String call, long got, long want) {
        asked++;
        if (got != want) {
            fail(call + " answered " + got + ", due is " + want);
        }
    }

    static void same(String what, String got, String want) {
        asked++;
        if (!got.equals(want)) {
            fail(what + " is\n  " + got + "\ndue is\n  " + want);
        }
    }

    static void isTrue(String what, boolean holds) {
        due(what, holds ? 1 : 0, 1);
    }

    private static void fail(String how) {
        wrong++;
        if (wrong <= MOST_PRINTED) {
            System.out.println(running.isEmpty() ? how : running + ": " + how);
        }
    }

    static void end() {
        System.out.println(asked + " answers, " + wrong + " of them not as due");
        if (wrong != 0) {
            System.exit(1);
        }
    }

    /** A new object with cards, each told as 10 times its kind, and its number. */
    static SevenInTheHay ring(int... cards) {
        SevenInTheHay x = new SevenInTheHay();
        for (int i = 0; i < cards.length; i++) {
            due("card(" + cards[i] / 10 + ", " + cards[i] % 10 + ")", x.card(cards[i] / 10, cards[i] % 10), i);
        }
        return x;
    }

    /** A new object with n cards, all the same. */
    static SevenInTheHay ringOf(int n, int card) {
        int[] cards = new int[n];
        java.util.Arrays.fill(cards, card);
        return ring(cards);
    }

    static void dueCards(SevenInTheHay x, int... cards) {
        due("count(0)", x.count(0), cards.length);
        for (int i = 0; i < cards.length; i++) {
            due("card on " + i, 10 * x.told(i, 0) + x.told(i, 1), cards[i]);
        }
    }

    static void feed(SevenInTheHay x, String tape) {
        for (int i = 0; i < tape.length(); i++) {
            x.feed(tape.charAt(i));
        }
    }

    static int text(SevenInTheHay x, String tape) {
        feed(x, tape);
        return x.text();
    }

    /** The text becomes the rule. */
    static void rule(SevenInTheHay x, String tape) {
        int number = text(x, tape);
        isTrue("a text: " + tape, number > 0);
        x.force(number);
    }

    /** The round's end and the places that it turns, in their order. */
    static void round(SevenInTheHay x, int from, int end, int... places) {
        String round = "round from " + from + ": ";
        int bits = 0;
        for (int place : places) {
            bits |= 1 << place;
        }
        due(round + "end", x.round(from, 0), end);
        due(round + "long", x.round(from, 1), places.length);
        due(round + "last", x.round(from, 3), places[places.length - 1]);
        due(round + "bits", x.round(from, 4), bits);
        for (int i = 0; i < 16; i++) {
            due(round + "place " + i, x.round(from, 10 + i), i < places.length ? places[i] : NONE);
        }
    }

    static void sheet(SevenInTheHay x, int sheet, int sort, int... items) {
        due("sheet(" + sheet + ", " + sort + ", " + items.length + ")", x.sheet(sheet, sort, items.length), 1);
        for (int i = 0; i < items.length; i++) {
            due("cell(" + sheet + ", " + i + ", " + items[i] + ")", x.cell(sheet, i, items[i]), 1);
        }
    }

    /** An item of a sheet, read as a card's number: NONE, if it is none such. It takes sheet 3 and a place. */
    static int item(SevenInTheHay x, int sheet, int sort, int i) {
        x.sheet(3, sort, 2);
        x.copy(sheet, i, 3, 1, 1);
        return x.cards(3, sort, 0, 1) == 1 ? x.takeUp() : NONE;
    }

    static void dueItems(SevenInTheHay x, int sheet, int sort, int... items) {
        for (int i = 0; i < items.length; i++) {
            due("item " + i, item(x, sheet, sort, i), items[i]);
        }
        due("no item more", x.cell(sheet, items.length, 0), -12);
    }
}
