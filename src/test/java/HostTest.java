/** Promises 24 to 28. Nothing reads a sheet's items but tells() and cards(), so these show what is there. */
public final class HostTest {
    private static final int BAD = SevenInTheHay.BAD, FULL = SevenInTheHay.FULL;
    private static final int MAX = Integer.MAX_VALUE, MIN = Integer.MIN_VALUE;

    public static void main(String[] args) {
        sheet();
        cell();
        copy();
        copyRefusals();
        cards();
        cardsOutside();
        taken();
        Check.end();
    }

    private static void sheet() {
        SevenInTheHay x = new SevenInTheHay();
        Check.due("sheet(-1, 0, 1)", x.sheet(-1, 0, 1), BAD);
        Check.due("sheet(4, 0, 1)", x.sheet(4, 0, 1), BAD);
        Check.due("sheet(4, -1, 1)", x.sheet(4, -1, 1), BAD);
        Check.due("sheet(0, 3, 1)", x.sheet(0, 3, 1), BAD);
        Check.due("sheet(0, -2, 1)", x.sheet(0, -2, 1), BAD);
        Check.due("sheet(0, 0, 41)", x.sheet(0, 0, 41), BAD);
        Check.due("sheet(0, 3, -1)", x.sheet(0, 3, -1), BAD);
        Check.due("sheet(0, 0, -1)", x.sheet(0, 0, -1), -14);
        Check.due("sheet(0, 2, min)", x.sheet(0, 2, MIN), -14);
        Check.due("it is missing still", x.cell(0, 0, 0), -11);
        Check.due("sheet(0, 0, 40)", x.sheet(0, 0, 40), 1);
        Check.due("cell(0, 39, 1)", x.cell(0, 39, 1), 1);
        Check.due("sheet(0, 0, 41) again", x.sheet(0, 0, 41), BAD);
        Check.due("sheet(0, 0, -1) again", x.sheet(0, 0, -1), -14);
        Check.due("it is as it was", x.cell(0, 39, 1), 1);
        Check.due("sheet(0, -1, -5)", x.sheet(0, -1, -5), 1);
        Check.due("it is missing then", x.cell(0, 0, 0), -11);
        Check.due("sheet(0, -1, 99)", x.sheet(0, -1, 99), 1);
        Check.due("sheet(3, 2, 0)", x.sheet(3, 2, 0), 1);
        Check.due("it has no item", x.cell(3, 0, 0), -12);
        Check.sheet(x, 1, 2, 5, 5);
        x.sheet(1, 2, 4);
        Check.due("cards of zeros", x.cards(1, 2, 0, 2), 2);
        Check.due("told(0, 0), 0 anew", x.told(0, 0), 0);
        Check.due("told(0, 1), 0 anew", x.told(0, 1), 0);
    }

    private static void cell() {
        SevenInTheHay x = new SevenInTheHay();
        x.sheet(0, 0, 2);
        Check.due("cell(-1, 0, 0)", x.cell(-1, 0, 0), BAD);
        Check.due("cell(4, 0, 0)", x.cell(4, 0, 0), BAD);
        Check.due("cell(1, 0, 0)", x.cell(1, 0, 0), -11);
        Check.due("cell(1, -1, 0)", x.cell(1, -1, 0), -11);
        Check.due("cell(0, -1, 0)", x.cell(0, -1, 0), -12);
        Check.due("cell(0, 2, 0)", x.cell(0, 2, 0), -12);
        Check.due("cell(0, max, 0)", x.cell(0, MAX, 0), -12);
        Check.due("cell(0, min, 0)", x.cell(0, MIN, 0), -12);
        int[][] narrowed = {{256 + 3, 0, 3}, {-256 + 3, 0, 3}, {65536 + 3, 1, 3}, {3, 2, 3}, {65536 * 255 + 3, 0, 3}};
        for (int[] v : narrowed) {
            x = new SevenInTheHay();
            Check.sheet(x, 0, v[1], v[0], v[0]);
            Check.due("cards of " + v[0] + ", sort " + v[1], x.cards(0, v[1], 0, 1), 1);
            Check.due("its kind", x.told(0, 0), v[2]);
            Check.due("its number", x.told(0, 1), v[2]);
        }
        int[][] kept = {{256 + 3, 1}, {256 + 3, 2}, {65536 + 3, 2}, {-3, 0}, {253, 0}, {-3, 1}};
        for (int[] v : kept) {
            x = new SevenInTheHay();
            Check.sheet(x, 0, v[1], v[0], v[0]);
            Check.due("cards of " + v[0] + ", sort " + v[1], x.cards(0, v[1], 0, 1), 0);
        }
    }

    private static void copy() {
        SevenInTheHay x = new SevenInTheHay();
        Check.sheet(x, 0, 0, 1, 2, 3, 4, 5);
        Check.sheet(x, 1, 0, 9, 9, 9);
        Check.due("copy(0, 1, 1, 0, 2)", x.copy(0, 1, 1, 0, 2), 2);
        Check.dueItems(x, 1, 0, 2, 3, 9);
        Check.due("copy(0, 0, 0, 1, 4)", x.copy(0, 0, 0, 1, 4), 4);
        Check.dueItems(x, 0, 0, 1, 1, 2, 3, 4);
        Check.due("copy(0, 2, 0, 0, 3)", x.copy(0, 2, 0, 0, 3), 3);
        Check.dueItems(x, 0, 0, 2, 3, 4, 3, 4);
        Check.due("copy(0, 0, 0, 0, 5)", x.copy(0, 0, 0, 0, 5), 5);
        Check.due("copy(0, 5, 1, 3, 0)", x.copy(0, 5, 1, 3, 0), 0);
        Check.due("copy(0, 4, 1, 2, 1)", x.copy(0, 4, 1, 2, 1), 1);
        Check.dueItems(x, 1, 0, 2, 3, 4);
        Check.dueItems(x, 0, 0, 2, 3, 4, 3, 4);
    }

    private static void copyRefusals() {
        SevenInTheHay x = new SevenInTheHay();
        Check.sheet(x, 0, 0, 1, 2, 3);
        Check.sheet(x, 1, 0, 4, 5);
        Check.sheet(x, 2, 1, 4, 5);
        Check.due("copy(4, 0, 0, 0, 1)", x.copy(4, 0, 0, 0, 1), BAD);
        Check.due("copy(-1, 0, 0, 0, 1)", x.copy(-1, 0, 0, 0, 1), BAD);
        Check.due("copy(0, 0, 4, 0, 1)", x.copy(0, 0, 4, 0, 1), BAD);
        Check.due("copy(3, 0, -1, 0, 1)", x.copy(3, 0, -1, 0, 1), BAD);
        Check.due("copy(0, 0, 3, 0, 1)", x.copy(0, 0, 3, 0, 1), -11);
        Check.due("copy(3, 0, 0, 0, 1)", x.copy(3, 0, 0, 0, 1), -11);
        Check.due("copy(3, 9, 2, 0, -1)", x.copy(3, 9, 2, 0, -1), -11);
        Check.due("copy(0, 0, 2, 0, 1)", x.copy(0, 0, 2, 0, 1), -13);
        Check.due("copy(0, 9, 2, 0, -1)", x.copy(0, 9, 2, 0, -1), -13);
        int[][] outside = {
            {0, 0, -1}, {-1, 0, 1}, {0, -1, 1}, {0, 0, 3}, {2, 0, 2}, {1, 1, 2}, {3, 0, 1}, {0, 2, 1},
            {4, 0, 0}, {0, 3, 0}, {MAX, 0, 1}, {1, 0, MAX}, {0, MAX, MAX}, {MIN, MIN, MIN}, {MAX, MAX, 0}
        };
        for (int[] o : outside) {
            String call = "copy(0, " + o[0] + ", 1, " + o[1] + ", " + o[2] + ")";
            Check.due(call, x.copy(0, o[0], 1, o[1], o[2]), -12);
        }
        Check.dueItems(x, 0, 0, 1, 2, 3);
        Check.dueItems(x, 1, 0, 4, 5);
    }

    private static void cards() {
        SevenInTheHay x = new SevenInTheHay();
        Check.due("cards(4, 0, 0, 0)", x.cards(4, 0, 0, 0), BAD);
        Check.due("cards(-1, 0, 0, 0)", x.cards(-1, 0, 0, 0), BAD);
        Check.due("cards(0, 3, 0, 0)", x.cards(0, 3, 0, 0), BAD);
        Check.due("cards(0, -1, 0, 0)", x.cards(0, -1, 0, 0), BAD);
        Check.due("cards(0, 0, 0, 17)", x.cards(0, 0, 0, 17), BAD);
        Check.due("cards(0, 0, 0, -1)", x.cards(0, 0, 0, -1), BAD);
        Check.due("cards(0, 0, 0, 0)", x.cards(0, 0, 0, 0), -11);
        Check.sheet(x, 0, 2, 7, 1, 2, 6, 0, 0, 10, 5, 9, 4, -1, 3, 3);
        Check.due("cards(0, 0, 0, 0) of another sort", x.cards(0, 0, 0, 0), -13);
        Check.due("cards(0, 1, 99, 1) of another sort", x.cards(0, 1, 99, 1), -13);
        Check.due("cards(0, 2, -1, 0), none", x.cards(0, 2, -1, 0), 0);
        Check.due("cards(0, 2, 1, 6)", x.cards(0, 2, 1, 6), 3);
        int[] due = {12, 59, 33};
        for (int i = 0; i < 3; i++) {
            Check.due("card on " + i, 10 * x.told(i, 0) + x.told(i, 1), due[i]);
        }
        x.sheet(1, 0, 32);
        Check.due("cards(1, 0, 0, 16), as many as have room", x.cards(1, 0, 0, 16), 13);
        Check.due("count(0)", x.count(0), 16);
        Check.due("cards(1, 0, 0, 16), full", x.cards(1, 0, 0, 16), 0);
        Check.due("card(0, 0)", x.card(0, 0), FULL);
    }

    private static void cardsOutside() {
        SevenInTheHay x = new SevenInTheHay();
        Check.sheet(x, 0, 1, 1, 2, 2, 3, 4);
        Check.due("cards(0, 1, 0, 3), half of one outside", x.cards(0, 1, 0, 3), -12);
        Check.due("what stood ahead came", x.count(0), 2);
        Check.due("cards(0, 1, 3, 2)", x.cards(0, 1, 3, 2), -12);
        Check.due("what stood ahead came too", x.count(0), 3);
        int[] outside = {-1, -2, 5, 40, MAX, MAX - 1, MIN};
        for (int from : outside) {
            Check.due("cards(0, 1, " + from + ", 1)", x.cards(0, 1, from, 1), -12);
        }
        Check.due("nothing came", x.count(0), 3);
        Check.due("told(2, 0)", x.told(2, 0), 3);
        Check.due("told(2, 1)", x.told(2, 1), 4);
    }

    private static void taken() {
        int[][] above = {{0}, {1, 0}, {2, 0}, {3, 1, 0}, {4, 2, 0}, {5, 0}};
        for (int kind = 0; kind < 6; kind++) {
            SevenInTheHay x = Check.ring(0, 10 * kind + 7);
            for (int k = 0; k < 6; k++) {
                boolean isOne = false;
                for (int a : above[kind]) {
                    isOne |= a == k;
                }
                Check.due("taken(1, " + k + ") of kind " + kind, x.taken(1, k), isOne ? 7 : -13);
            }
        }
        SevenInTheHay x = Check.ring(0);
        Check.due("taken(0, 6)", x.taken(0, 6), BAD);
        Check.due("taken(0, -1)", x.taken(0, -1), BAD);
        Check.due("taken(9, 6)", x.taken(9, 6), BAD);
        Check.due("taken(1, 0)", x.taken(1, 0), -11);
        Check.due("taken(-1, 0)", x.taken(-1, 0), -11);
    }
}
