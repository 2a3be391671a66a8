/** Promises 1 to 6. */
public final class RingTest {
    private static final int BAD = SevenInTheHay.BAD, STATE = SevenInTheHay.STATE, FULL = SevenInTheHay.FULL;

    public static void main(String[] args) {
        newObject();
        card();
        lay();
        takeUp();
        swap();
        told();
        Check.end();
    }

    private static void newObject() {
        SevenInTheHay x = new SevenInTheHay();
        Check.due("new: count(0)", x.count(0), 0);
        Check.due("new: count(1)", x.count(1), 1);
        Check.due("new: count(2)", x.count(2), 0);
        Check.due("new: count(3)", x.count(3), 0);
        Check.due("new: told(0, 0)", x.told(0, 0), -100);
        Check.due("new: round(0, 0)", x.round(0, 0), -100000);
        Check.due("new: harvests()", x.harvests(), 0);
        Check.due("new: back()", x.back(), STATE);
        for (int sheet = 0; sheet < 4; sheet++) {
            Check.due("new: cell(" + sheet + ", 0, 0)", x.cell(sheet, 0, 0), -11);
        }
    }

    private static void card() {
        SevenInTheHay x = new SevenInTheHay();
        Check.due("card(-1, 0)", x.card(-1, 0), BAD);
        Check.due("card(6, 0)", x.card(6, 0), BAD);
        Check.due("card(0, -1)", x.card(0, -1), BAD);
        Check.due("card(0, 10)", x.card(0, 10), BAD);
        Check.due("card(min, max)", x.card(Integer.MIN_VALUE, Integer.MAX_VALUE), BAD);
        Check.due("count(0) of none", x.count(0), 0);
        for (int i = 0; i < 16; i++) {
            Check.due("card " + i, x.card(i % 6, i % 10), i);
        }
        Check.due("card(0, 0), the 17th", x.card(0, 0), FULL);
        Check.due("card(6, 0), the 17th", x.card(6, 0), BAD);
        Check.due("count(0) of 16", x.count(0), 16);
        for (int i = 0; i < 16; i++) {
            Check.due("told(" + i + ", 0)", x.told(i, 0), i % 6);
            Check.due("told(" + i + ", 1)", x.told(i, 1), i % 10);
        }
        Check.due("told(16, 0)", x.told(16, 0), -100);
    }

    private static void lay() {
        SevenInTheHay x = Check.ring(12, 53);
        Check.due("lay(1, 4, 9)", x.lay(1, 4, 9), 53);
        Check.due("lay(1, 0, 0)", x.lay(1, 0, 0), 49);
        Check.due("lay(2, 0, 0)", x.lay(2, 0, 0), BAD);
        Check.due("lay(-1, 0, 0)", x.lay(-1, 0, 0), BAD);
        Check.due("lay(0, 6, 0)", x.lay(0, 6, 0), BAD);
        Check.due("lay(0, -1, 0)", x.lay(0, -1, 0), BAD);
        Check.due("lay(0, 0, 10)", x.lay(0, 0, 10), BAD);
        Check.due("lay(0, 0, -1)", x.lay(0, 0, -1), BAD);
        Check.due("lay(0, 1, 2), as it was", x.lay(0, 1, 2), 12);
        Check.due("count(0)", x.count(0), 2);
    }

    private static void takeUp() {
        SevenInTheHay x = Check.ring(7, 59);
        Check.due("takeUp()", x.takeUp(), 59);
        Check.due("count(0) then", x.count(0), 1);
        Check.due("told(1, 0) then", x.told(1, 0), -100);
        Check.due("takeUp() again", x.takeUp(), 7);
        Check.due("takeUp() of none", x.takeUp(), STATE);
        Check.due("card(2, 1) then", x.card(2, 1), 0);
    }

    private static void swap() {
        SevenInTheHay x = Check.ring(1, 12, 23);
        Check.due("swap(0, 2)", x.swap(0, 2), 1);
        Check.due("swap(1, 1)", x.swap(1, 1), 0);
        Check.due("swap(3, 0)", x.swap(3, 0), BAD);
        Check.due("swap(0, 3)", x.swap(0, 3), BAD);
        Check.due("swap(-1, 0)", x.swap(-1, 0), BAD);
        Check.due("swap(0, -1)", x.swap(0, -1), BAD);
        Check.due("swap(3, 3)", x.swap(3, 3), BAD);
        int[] due = {23, 12, 1};
        for (int i = 0; i < 3; i++) {
            Check.due("card on " + i, 10 * x.told(i, 0) + x.told(i, 1), due[i]);
        }
    }

    private static void told() {
        SevenInTheHay x = Check.ring(3, 14, 25, 36, 47, 58, 10);
        int[] points = {3, -4, 3, -6, 4, 8, 0};
        int[] kinds = {0, 1, 2, 3, 4, 5, 1};
        int[] numbers = {3, 4, 5, 6, 7, 8, 0};
        for (int i = 0; i < 7; i++) {
            Check.due("told(" + i + ", 0)", x.told(i, 0), kinds[i]);
            Check.due("told(" + i + ", 1)", x.told(i, 1), numbers[i]);
            Check.due("told(" + i + ", 2)", x.told(i, 2), i == 5 ? 1 : 0);
            Check.due("told(" + i + ", 3)", x.told(i, 3), points[i]);
        }
        x.card(0, 0);
        Check.due("told(2, 3), a queen of 8", x.told(2, 3), 4);
        Check.due("told(4, 3), a joker of 8", x.told(4, 3), 5);
        Check.due("told(0, 4)", x.told(0, 4), -100);
        Check.due("told(0, -1)", x.told(0, -1), -100);
        Check.due("told(8, 0)", x.told(8, 0), -100);
        Check.due("told(-1, 0)", x.told(-1, 0), -100);
        SevenInTheHay one = Check.ring(20);
        Check.due("told(0, 3), a queen alone", one.told(0, 3), 0);
        one.lay(0, 4, 0);
        Check.due("told(0, 3), a joker alone", one.told(0, 3), 1);
    }
}
