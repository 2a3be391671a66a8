/** Promises 17 to 23. */
public final class ToldTest {
    private static final int NONE = SevenInTheHay.NONE, BAD = SevenInTheHay.BAD, STATE = SevenInTheHay.STATE;
    private static final long NO = SevenInTheHay.NO;

    public static void main(String[] args) {
        tellsRefusals();
        otherwise();
        starts();
        kindsAndNumbers();
        numbersAsked();
        texts();
        film();
        drawn();
        chance();
        image();
        count();
        Check.end();
    }

    private static void tellsRefusals() {
        SevenInTheHay x = Check.ring(1, 1, 1);
        int[] none = {-1, 3, 9, 13, 25, 26, 29, 33, 45, 46, Integer.MIN_VALUE, Integer.MAX_VALUE};
        for (int what : none) {
            Check.due("tells(0, " + what + ") of a missing one", x.tells(0, what), BAD);
        }
        Check.due("tells(-1, 0)", x.tells(-1, 0), BAD);
        Check.due("tells(4, 0)", x.tells(4, 0), BAD);
        int[] some = {0, 1, 2, 10, 12, 30, 32};
        for (int what : some) {
            Check.due("tells(3, " + what + ") of a missing one", x.tells(3, what), -11);
        }
        x.sheet(0, 0, 0);
        Check.due("tells(0, 0) of size 0", x.tells(0, 0), BAD);
        x.sheet(0, 2, 17);
        Check.due("tells(0, 0) of size 17", x.tells(0, 0), BAD);
        x.sheet(0, 2, 16);
        Check.due("tells(0, 0) of size 16", x.tells(0, 0), 1);
        Check.sheet(x, 1, 2, 0, 1, 3);
        Check.due("tells(1, 0) of no such place", x.tells(1, 0), BAD);
        Check.due("tells(1, 1) of no such place", x.tells(1, 1), BAD);
        Check.sheet(x, 1, 2, 0, -1);
        Check.due("tells(1, 0) of a place below 0", x.tells(1, 0), BAD);
        Check.sheet(x, 1, 2, 256);
        Check.due("tells(1, 0) of 256", x.tells(1, 0), BAD);
        Check.sheet(x, 1, 0, 256);
        Check.due("tells(1, 0) of 256, a byte", x.tells(1, 0), 1);
        Check.due("tells(1, 0) of an empty ring", told(new SevenInTheHay(), 0), BAD);
    }

    private static SevenInTheHay sheet0(SevenInTheHay x, int... places) {
        Check.sheet(x, 0, 1, places);
        return x;
    }

    private static int told(SevenInTheHay x, int... places) {
        return sheet0(x, places).tells(0, 0);
    }

    private static void otherwise() {
        SevenInTheHay x = Check.ring(1, 1, 2, 1, 50);
        // From 0: 0, 1, 2, 4.
        Check.due("just so", told(x, 0, 1, 2, 4), NONE);
        Check.due("more were turned", told(x, 0, 1), 2);
        Check.due("more were turned than one", told(x, 0), 1);
        Check.due("another place", told(x, 0, 1, 3), 2);
        Check.due("another one ahead", told(x, 0, 2, 2, 4), 1);
        Check.due("what isn't turned any more", told(x, 0, 1, 2, 4, 0), 4);
        Check.due("the first of two", told(x, 0, 4, 3, 3, 3, 3, 3), 1);
        Check.due("one alone", told(x, 4), NONE);
        Check.due("the same again", told(x, 4, 4), 1);
    }

    private static void starts() {
        // From 0: 0 1 2, from 1: 1 2, from 2: 2, from 3: 3 0 1 2.
        SevenInTheHay x = Check.ring(1, 1, 0, 1);
        Check.due("starts of 3, ending with 2", sheet0(x, 3, 3, 2).tells(0, 1), 1);
        Check.due("starts of 3, ending with 1", sheet0(x, 0, 2, 1).tells(0, 1), 0);
        Check.due("starts of 4, ending with 2", sheet0(x, 0, 0, 0, 2).tells(0, 1), 8);
        Check.due("starts of 1, ending with 2", sheet0(x, 2).tells(0, 1), 4);
        x = Check.ring(1, 0, 1, 2);
        // From 0: 0 1, from 2: 2 3 1, from 3: 3 1.
        Check.due("starts of 2, ending with 1", sheet0(x, 2, 1).tells(0, 1), 9);
    }

    private static void kindsAndNumbers() {
        // From 0: 0, 2, 3; the knave was turned from 2, as a king by 2 it would come to 1.
        SevenInTheHay x = Check.ring(2, 0, 1, 32, 5);
        Check.due("just so", told(x, 0, 2, 3), NONE);
        // On 0 a CARD or a QUEEN point to 2; a KNAVE as a KING to 3, a JOKER too.
        Check.due("kinds on 0", x.tells(0, 10), 1 + 4);
        Check.due("numbers on 0", x.tells(0, 30), 4 + 128);
        Check.due("kinds on 1", x.tells(0, 11), 63);
        Check.due("numbers on 1", x.tells(0, 31), 1023);
        // On 2 a CARD by 1; a KING comes to 1, a QUEEN to 4.
        Check.due("kinds on 2", x.tells(0, 12), 1);
        Check.due("numbers on 2", x.tells(0, 32), 2 + 64);
        // On 3 a CARD and a QUEEN by 2 come to 0, a KNAVE to 2; a KING to 1, a JOKER to 1; a SEVEN blocks.
        Check.due("kinds on 3", x.tells(0, 13), 1 + 4 + 8 + 32);
        Check.due("numbers on 3", x.tells(0, 33), 1023);
        Check.due("kinds on 4", x.tells(0, 14), 63);
        Check.due("kinds on 5", x.tells(0, 15), BAD);
        Check.due("numbers on 5", x.tells(0, 35), BAD);
        sheet0(x, 0, 2);
        Check.due("kinds on 0 of another round", x.tells(0, 10), 0);
        // On 2 a KNAVE and a JOKER come to 0.
        Check.due("kinds on 2 of another round", x.tells(0, 12), 8 + 16 + 32);
        Check.due("told(2, 0) is untouched", x.told(2, 0), 0);
    }

    private static void numbersAsked() {
        SevenInTheHay x = Check.ring(1, 2, 2);
        x.anew(1, 0, 0);
        Check.due("numbers on 0 asked first", sheet0(x, 0, 1).tells(0, 30), 2 + 16 + 128);
        x = Check.ring(1, 2, 2);
        x.hay(0, 0);
        Check.due("kinds on 0 asked first", sheet0(x, 0, 1).tells(0, 10), 1 + 4);
    }

    private static void texts() {
        SevenInTheHay x = Check.ring(1, 1, 1, 1);
        Check.due("texts of 0 1 2 3", sheet0(x, 0, 1, 2, 3).tells(0, 2), 1);
        Check.text(x, "further 1;passes 0;pays 1;");
        Check.text(x, "further 0;passes 5;pays 9;");
        Check.text(x, "further 1;passes 1;pays 9;");
        Check.text(x, "further step=1;passes 0;pays 9;");
        Check.text(x, "further 4;passes 0;pays 9;");
        Check.due("texts of 0 1 2 3 then", sheet0(x, 0, 1, 2, 3).tells(0, 2), 1 + 4 + 32);
        Check.due("texts of 0 2", sheet0(x, 0, 2).tells(0, 2), 2);
        Check.due("texts of 0 2 1 3", sheet0(x, 0, 2, 1, 3).tells(0, 2), 8);
        Check.due("texts of 0 1 3", sheet0(x, 0, 1, 3).tells(0, 2), 16);
        Check.due("the rule is untouched", x.count(3), 0);
        x.force(1);
        Check.due("otherwise by the rule", sheet0(x, 0, 2).tells(0, 0), NONE);
        Check.due("texts by another rule", x.tells(0, 2), 2);
    }

    private static void film() {
        SevenInTheHay x = Check.ring(2, 0, 1, 1);
        Check.due("film(4, 0)", x.film(4, 0), BAD);
        Check.due("film(-1, 0)", x.film(-1, 0), BAD);
        Check.due("film(0, 4)", x.film(0, 4), BAD);
        Check.due("film(0, -1)", x.film(0, -1), BAD);
        Check.due("the sheet is missing still", x.tells(0, 0), -11);
        x.sheet(3, 2, 7);
        Check.due("film(3, 0)", x.film(3, 0), 3);
        Check.due("it is of 3 items", x.cell(3, 3, 0), -12);
        Check.due("they are as turned", x.tells(3, 0), NONE);
        x.sheet(0, 0, 3);
        Check.due("they are bytes", x.copy(3, 0, 0, 0, 3), 3);
        Check.due("the copy tells the same", x.tells(0, 0), NONE);
        Check.due("film(3, 1)", x.film(3, 1), 1);
        Check.due("it is of 1 item", x.cell(3, 1, 0), -12);
        Check.due("which is as turned", x.tells(3, 0), NONE);
    }

    // SEED 0 of 2: z is 12345, >>> 9 is 24, even: 1 and 0 change. SEED 1: z is 1103527590, >>> 9 is 2155327: not.
    private static void drawn() {
        Check.due("drawn of none", new SevenInTheHay().drawn(1), STATE);
        Check.due("drawn of one", Check.ring(3).drawn(77), 1);
        SevenInTheHay x = Check.ring(1, 0);
        Check.due("drawn(0)", x.drawn(0), 1);
        Check.due("drawn(1)", x.drawn(1), 2);
        Check.due("told(0, 1) is untouched", x.told(0, 1), 1);
        // SEED -1 of 2: z is -1103502900, >>> 9 is 6233328, even: 1 and 0 change.
        Check.due("drawn(-1)", x.drawn(-1), 1);
        // SEED 0 of 3: 24 % 3: 2 and 0 change; then z is -740551042, >>> 9 is 6942219, odd.
        Check.due("drawn(0) of 3", Check.ring(0, 0, 1).drawn(0), 2);
        // SEED 1 of 3: 2155327 % 3: 2 and 1 change; then z is -1770082073, >>> 9 is 4931416: 1 and 0 change.
        Check.due("drawn(1) of 3", Check.ring(1, 0, 1).drawn(1), 3);
    }

    private static void chance() {
        SevenInTheHay none = new SevenInTheHay();
        Check.due("chance of none", none.chance(0, 1, 0), NO);
        SevenInTheHay x = Check.ring(1, 31);
        Check.due("chance(0, 0, 0)", x.chance(0, 0, 0), NO);
        Check.due("chance(0, -1, 0)", x.chance(0, -1, 0), NO);
        Check.due("chance(0, 21, 0)", x.chance(0, 21, 0), NO);
        Check.due("chance(0, 1, 2)", x.chance(0, 1, 2), NO);
        Check.due("chance(0, 1, -1)", x.chance(0, 1, -1), NO);
        Check.due("always, above", x.chance(5, 20, 0), 1);
        Check.due("always, below", x.chance(5, 20, 1), 1);
        SevenInTheHay never = Check.ring(1, 50);
        Check.due("never, above", never.chance(5, 20, 0), 0);
        Check.due("never, below", never.chance(5, 20, 1), 1);
        // Turned from 0 the knave 0 comes back; from itself it stays: a HARVEST only if nothing changes.
        SevenInTheHay half = Check.ring(1, 30);
        int[] seeds = {0, 1, -3, Integer.MAX_VALUE - 4, Integer.MIN_VALUE, 123456789};
        for (int seed : seeds) {
            for (int n = 1; n <= 20; n++) {
                int above = 0;
                for (int i = 0; i < n; i++) {
                    int z = (seed + i) * 1103515245 + 12345;
                    above += z >>> 9 & 1;
                }
                Check.due("chance above", half.chance(seed, n, 0), above / divisor(above, n));
                Check.due("chance below", half.chance(seed, n, 1), n / divisor(above, n));
            }
        }
    }

    private static int divisor(int a, int b) {
        return b == 0 ? a : divisor(b, a % b);
    }

    private static void image() {
        SevenInTheHay x = Check.ring(1, 12, 23);
        Check.text(x, "further 0;passes 0;pays 2;");
        Check.text(x, "further 0;passes 0;pays 3;");
        x.force(1);
        Check.due("back() of none", x.back(), STATE);
        Check.due("image()", x.image(), 3);
        x.lay(0, 5, 5);
        x.swap(1, 2);
        x.card(4, 4);
        x.force(2);
        Check.due("count(0) ahead", x.count(0), 4);
        Check.due("back()", x.back(), 3);
        Check.dueCards(x, 1, 12, 23);
        Check.due("the rule is back", x.count(3), 1);
        Check.due("texts stay", x.count(1), 3);
        x.takeUp();
        x.takeUp();
        x.lay(0, 0, 9);
        x.feed(32);
        x.sheet(0, 0, 1);
        Check.due("back() again", x.back(), 3);
        Check.dueCards(x, 1, 12, 23);
        Check.due("the tape stays", x.count(2), 1);
        Check.due("sheets stay", x.cell(0, 0, 0), 1);
        x.takeUp();
        x.force(0);
        Check.due("another image()", x.image(), 2);
        x.card(0, 0);
        x.force(2);
        Check.due("back() to the other", x.back(), 2);
        Check.dueCards(x, 1, 12);
        Check.due("the rule then", x.count(3), 0);
        x.lay(0, 3, 3);
        Check.due("lay is not of the image", x.back(), 2);
        Check.dueCards(x, 1, 12);
        SevenInTheHay none = new SevenInTheHay();
        Check.due("image() of none", none.image(), 0);
        none.card(0, 0);
        Check.due("back() to none", none.back(), 0);
        Check.due("count(0) then", none.count(0), 0);
    }

    private static void count() {
        SevenInTheHay x = Check.ring(1, 2, 3);
        Check.text(x, "further 0;passes 0;pays 1;");
        Check.feed(x, "abcd");
        x.force(1);
        Check.due("count(0)", x.count(0), 3);
        Check.due("count(1)", x.count(1), 2);
        Check.due("count(2)", x.count(2), 4);
        Check.due("count(3)", x.count(3), 1);
        Check.due("count(4)", x.count(4), BAD);
        Check.due("count(-1)", x.count(-1), BAD);
    }
}
