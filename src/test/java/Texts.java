/** What the tests of texts share. */
final class Texts {
    static final int LONGEST = 160;
    /** Some 32 bits that numbers of four digits lead to. */
    static final String LEAST_INT = "8192*8192*32", MOST_INT = "8192*8192*32-1";

    private Texts() { }

    static void right(String tape) {
        Check.due("text() of " + tape, Check.text(new SevenInTheHay(), tape), 1);
    }

    static void fault(String tape, int place) {
        SevenInTheHay x = new SevenInTheHay();
        Check.due("text() of " + tape, Check.text(x, tape), -100 - place);
        Check.due("count(2) after the fault", x.count(2), 0);
        Check.due("count(1) after the fault", x.count(1), 1);
    }

    /** What an expression tells of a card that lies alone, within -99 .. 99. */
    static void value(String e, int due) {
        SevenInTheHay x = Check.ring(0);
        Check.rule(x, "further 0;passes 0;pays " + e + ";");
        Check.due("pays " + e, x.round(0, 2), due);
    }

    /** A right text, made as long as that by numbers that are added. */
    static String ofLength(int length) {
        StringBuilder text = new StringBuilder("further 0;passes 0;pays 1");
        while (text.length() < length - 1) {
            text.append(text.length() % 2 == 1 ? '+' : '1');
        }
        return text.append(';').toString();
    }

    static String padded(String tape, int length) {
        StringBuilder text = new StringBuilder(tape);
        while (text.length() < length) {
            text.append(' ');
        }
        return text.toString();
    }
}
