/** All that can be seen of an object, as a text. Looking takes some 300 calls, and changes the object. */
final class Look {
    private final SevenInTheHay x;
    private final StringBuilder seen = new StringBuilder();

    private Look(SevenInTheHay x) {
        this.x = x;
    }

    /** Sheet 3 is to be missing, and no row longer than 9; else not all is seen. */
    static String at(SevenInTheHay x) {
        Look look = new Look(x);
        look.counts();
        look.ring();
        look.see("sheet 3", x.cell(3, 0, 0));
        look.see("image", x.back());
        look.counts();
        look.ring();
        look.sheets();
        look.texts();
        look.tape();
        return look.seen.toString();
    }

    private void see(String what, long answer) {
        seen.append(what).append(' ').append(answer).append("; ");
    }

    private void counts() {
        for (int what = 0; what < 4; what++) {
            see("count " + what, x.count(what));
        }
    }

    private void ring() {
        int n = x.count(0);
        for (int place = 0; place < n; place++) {
            see("card", 10 * x.told(place, 0) + x.told(place, 1));
        }
    }

    // An empty place is made first, by which the items can be read.
    private void sheets() {
        if (x.count(0) == 16) {
            x.takeUp();
        }
        for (int sheet = 0; sheet < 3; sheet++) {
            int sort = 0;
            while (sort < 3 && x.cards(sheet, sort, 0, 0) != 0) {
                sort++;
            }
            see("sort", sort);
            int size = 0;
            while (sort < 3 && size < 9 && x.copy(sheet, 0, sheet, 0, size + 1) > 0) {
                size++;
            }
            see("size", size);
            for (int i = 0; i < size; i++) {
                see("item", Check.item(x, sheet, sort, i));
            }
        }
    }

    // What each text makes of a ring of five; it ends the ring that was.
    private void texts() {
        for (int i = x.count(0); i > 0; i--) {
            x.takeUp();
        }
        for (int i = 0; i < 5; i++) {
            x.card(0, i);
        }
        int n = x.count(1);
        for (int text = 0; text < n; text++) {
            byText(text);
        }
    }

    private void byText(int text) {
        see("force", x.force(text));
        see("worth", x.round(3, 2));
        see("turned", x.round(3, 4));
        see("turned", x.round(1, 4));
    }

    private void tape() {
        int text = x.text();
        see("text", text);
        if (text > 0) {
            byText(text);
        }
    }
}
