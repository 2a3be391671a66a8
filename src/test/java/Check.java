/** What all tests share: calls whose answers aren't those that are due are printed and counted. */
final class Check {
    private static final int MOST_PRINTED = 40;
    private static int asked;
    private static int wrong;

    private Check() { }

    static void due(String call, long got, long want) {
        asked++;
        if (got == want) {
            return;
        }
        wrong++;
        if (wrong <= MOST_PRINTED) {
            System.out.println(call + " answered " + got + ", due is " + want);
        }
    }

    static void isTrue(String what, boolean holds) {
        due(what, holds ? 1 : 0, 1);
    }

    static void end() {
        System.out.println(asked + " answers, " + wrong + " of them not as due");
        if (wrong != 0) {
            System.exit(1);
        }
    }

    /** A new object with cards, each told as 10 times its kind, and its number. */
    static SevenInTheHay ring(int... cards) {
        SevenInTheHay x = new SevenInTheHay();
        for (int i = 0; i < cards.length; i++) {
            due("card(" + cards[i] / 10 + ", " + cards[i] % 10 + ")", x.card(cards[i] / 10, cards[i] % 10), i);
        }
        return x;
    }

    static void feed(SevenInTheHay x, String tape) {
        for (int i = 0; i < tape.length(); i++) {
            x.feed(tape.charAt(i));
        }
    }

    static int text(SevenInTheHay x, String tape) {
        feed(x, tape);
        return x.text();
    }

    /** The text becomes the rule. */
    static void rule(SevenInTheHay x, String tape) {
        int number = text(x, tape);
        isTrue("a text: " + tape, number > 0);
        x.force(number);
    }

    static void sheet(SevenInTheHay x, int sheet, int sort, int... items) {
        due("sheet(" + sheet + ", " + sort + ", " + items.length + ")", x.sheet(sheet, sort, items.length), 1);
        for (int i = 0; i < items.length; i++) {
            due("cell(" + sheet + ", " + i + ", " + items[i] + ")", x.cell(sheet, i, items[i]), 1);
        }
    }
}
