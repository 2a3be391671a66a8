/** Promises 13 to 16. */
public final class BestTest {
    private static final int NONE = SevenInTheHay.NONE, BAD = SevenInTheHay.BAD, STATE = SevenInTheHay.STATE;

    public static void main(String[] args) {
        change();
        anew();
        hay();
        layings();
        nothingIsTouched();
        Check.end();
    }

    private static void change(SevenInTheHay x, int from, int pair, int length) {
        Check.due("change(" + from + ", 0)", x.change(from, 0), pair);
        Check.due("change(" + from + ", 1)", x.change(from, 1), length);
    }

    private static void change() {
        change(Check.ring(1, 1, 1), 0, NONE, 3);
        change(Check.ring(0), 0, NONE, 1);
        // With 0 and 1 changed: 0, 1; with 0 and 2 changed: 0, 2: the first of both.
        change(Check.ring(0, 1, 2), 0, 1, 2);
        // 2, 1, 0, 0: 0, 2 now; with 0 and 1 changed: 0, 1, 3; no other change makes it more.
        change(Check.ring(2, 1, 0, 0), 0, 1, 3);
        // A change that makes it only as long as now is none.
        change(Check.ring(1, 0, 0), 0, NONE, 2);
        change(Check.ring(50, 1, 1), 0, 2, 3);
        // The seven goes to the place that is turned last.
        change(Check.ring(1, 51, 1, 1, 1), 0, 104, 5);
        SevenInTheHay x = Check.ring(0, 1, 2);
        Check.due("change(3, 0)", x.change(3, 0), BAD);
        Check.due("change(-1, 0)", x.change(-1, 0), BAD);
        Check.due("change(0, 2)", x.change(0, 2), BAD);
        Check.due("change(0, -1)", x.change(0, -1), BAD);
        Check.due("change(0, 0) of none", new SevenInTheHay().change(0, 0), BAD);
        // All is turned if the one card that points nowhere is the last one.
        int[] cards = {1, 1, 1, 1, 1, 1, 1, 1, 1, 1, 1, 1, 0, 1, 1, 1};
        change(Check.ring(cards), 0, 1215, 16);
    }

    private static void anew(SevenInTheHay x, int place, int from, int many, int least) {
        Check.due("anew(" + place + ", " + from + ", 0)", x.anew(place, from, 0), many);
        Check.due("anew(" + place + ", " + from + ", 1)", x.anew(place, from, 1), least);
    }

    private static void anew() {
        anew(Check.ring(5), 0, 0, 50, 0);
        // From 1 to 2: CARD 1, 4, 7, KING 2, 5, 8, any QUEEN; a JOKER and a KNAVE point to 0, a SEVEN blocks.
        anew(Check.ring(1, 0, 1), 1, 0, 16, 1);
        // As the first one a KNAVE is as a KING.
        anew(Check.ring(0, 1, 1), 0, 0, 3 + 3 + 10 + 3, 1);
        // Turned from 0, any KNAVE sends back there.
        anew(Check.ring(1, 0), 1, 0, 5 + 5 + 10 + 10, 1);
        anew(Check.ring(0, 0), 1, 0, 0, NONE);
        anew(Check.ring(51, 1), 0, 0, 5 + 5 + 10 + 5, 1);
        // From 0 to 3: CARD 3, 7, KING and KNAVE 1, 5, 9, any JOKER.
        anew(Check.ring(0, 11, 11, 11), 0, 0, 2 + 3 + 3 + 10, 3);
        SevenInTheHay x = Check.ring(1, 1);
        Check.due("anew(2, 0, 0)", x.anew(2, 0, 0), BAD);
        Check.due("anew(-1, 0, 0)", x.anew(-1, 0, 0), BAD);
        Check.due("anew(0, 2, 0)", x.anew(0, 2, 0), BAD);
        Check.due("anew(0, -1, 0)", x.anew(0, -1, 0), BAD);
        Check.due("anew(0, 0, 2)", x.anew(0, 0, 2), BAD);
        Check.due("anew(0, 0, -1)", x.anew(0, 0, -1), BAD);
    }

    private static void hay(SevenInTheHay x, int from, int place, int worth) {
        Check.due("hay(" + from + ", 0)", x.hay(from, 0), place);
        Check.due("hay(" + from + ", 1)", x.hay(from, 1), worth);
    }

    private static void hay() {
        hay(Check.ring(1, 1, 1, 1), 0, 3, 3 - 6);
        hay(Check.ring(1, 1, 1, 1), 2, 1, 3 - 6);
        // Where nothing is turned a seven costs nothing: 1 and 2 are alike, 1 is the first.
        hay(Check.ring(0, 1, 1), 0, 1, 1);
        hay(Check.ring(50), 0, 0, -6);
        // A seven that lies there already stays one.
        hay(Check.ring(1, 51, 1), 0, 1, 1 - 6);
        SevenInTheHay x = Check.ring(1, 1, 1);
        Check.rule(x, "further 0;passes 0;pays number*50;");
        hay(x, 0, 2, 50 + 50 + 43);
        // The seven keeps its number, which pays.
        x = Check.ring(0, 8);
        Check.rule(x, "further step=0;passes 0;pays number;");
        hay(x, 0, 1, 0 + 8 - 7);
        Check.due("hay(2, 0)", x.hay(2, 0), -100000);
        Check.due("hay(-1, 0)", x.hay(-1, 0), -100000);
        Check.due("hay(0, 2)", x.hay(0, 2), -100000);
        Check.due("hay(0, -1)", x.hay(0, -1), -100000);
        Check.due("hay(0, 0) of none", new SevenInTheHay().hay(0, 0), -100000);
    }

    private static void layings(SevenInTheHay x, int many, int first) {
        Check.due("layings(0)", x.layings(0), many);
        Check.due("layings(1)", x.layings(1), first);
    }

    private static void layings() {
        layings(new SevenInTheHay(), 0, 0);
        layings(Check.ring(5), 1, 1);
        layings(Check.ring(1, 1), 2, 12);
        layings(Check.ring(1, 1, 1, 1, 1, 1), 720, 123456);
        layings(Check.ring(1, 1, 51), 0, 0);
        layings(Check.ring(0, 1), 0, 0);
        // The harvests are 2 K 2 1, 2 1 2 K, K 2 1 2 and 1 2 K 2 as they are turned, each with both 2s.
        layings(Check.ring(11, 2, 1, 2), 8, 1324);
        layings(Check.ring(1, 11, 2, 2), 8, 1342);
        layings(Check.ring(2, 11, 1, 2), 8, 1234);
        SevenInTheHay x = Check.ring(1, 1, 1, 1, 1, 1, 1);
        Check.due("layings(0) of 7", x.layings(0), STATE);
        Check.due("layings(1) of 7", x.layings(1), STATE);
        Check.due("layings(2) of 7", x.layings(2), BAD);
        Check.due("layings(-1)", x.layings(-1), BAD);
    }

    private static void nothingIsTouched() {
        SevenInTheHay x = Check.ring(2, 31, 14, 0, 25);
        for (int what = 0; what < 2; what++) {
            x.change(1, what);
            x.anew(1, 2, what);
            x.hay(1, what);
            x.layings(what);
        }
        int[] cards = {2, 31, 14, 0, 25};
        for (int i = 0; i < 5; i++) {
            Check.due("card on " + i, 10 * x.told(i, 0) + x.told(i, 1), cards[i]);
        }
    }
}
