import java.util.Random;

/** Long runs of calls, most of them sensible, some wild; each answer is compared with the model's. */
public final class ModelTest {
    private static final int CALLS = 512;
    private static final int[] EDGES = {
        Integer.MIN_VALUE, Integer.MIN_VALUE + 1, -100, -17, -2, -1, 16, 17, 20, 21, 39, 40, 41, 45, 46,
        100, 255, 256, 65536, Integer.MAX_VALUE - 1, Integer.MAX_VALUE
    };

    private final Random random;
    private final SevenInTheHay x = new SevenInTheHay();
    private final Model m = new Model();
    private int calls;

    private ModelTest(long seed) {
        random = new Random(seed);
    }

    public static void main(String[] args) {
        for (long seed = 0; seed < 1500; seed++) {
            new ModelTest(seed).run();
        }
        for (long seed = 0; seed < 4000; seed++) {
            new ModelTest(-1 - seed).readTexts();
        }
        Check.end();
    }

    private void due(String call, long got, long want) {
        calls++;
        Check.due(call, got, want);
    }

    private int upTo(int n) {
        return random.nextInt(n);
    }

    // Mostly one of 0 .. n less 1, at times a number near the edges.
    private int some(int n) {
        return upTo(25) == 0 ? EDGES[upTo(EDGES.length)] : upTo(Math.max(1, n));
    }

    private int place() {
        return some(m.count(0));
    }

    private int what() {
        return some(2);
    }

    private void run() {
        int style = upTo(4);
        int cards = style == 0 ? upTo(17) : style == 1 ? 1 + upTo(6) : 2 + upTo(8);
        for (int i = 0; i < cards; i++) {
            addCard();
        }
        if (upTo(3) > 0) {
            feedAll(new TextMaker(random).text());
        }
        int kinds = style == 3 ? 22 : 26;
        // Some kinds of calls are two: none may be a 513th, of which nothing is promised.
        while (calls < CALLS - 1) {
            int kind = upTo(kinds);
            if (kind < 6) {
                callOfRing(kind);
            } else if (kind < 14) {
                callOfRounds(kind);
            } else if (kind < 20) {
                callOfTold(kind);
            } else {
                callOfHost(kind);
            }
        }
    }

    private void addCard() {
        boolean easy = upTo(3) > 0;
        int kind = easy ? upTo(5) % 4 : some(6), number = easy ? upTo(4) : some(10);
        due("card(" + kind + ", " + number + ")", x.card(kind, number), m.card(kind, number));
    }

    private void callOfRing(int kind) {
        int a = place(), b = place(), c = some(6), d = some(10);
        switch (kind) {
            case 0:
                if (m.count(0) < 6 || upTo(8) == 0) {
                    addCard();
                }
                break;
            case 1:
                due("lay", x.lay(a, c, d), m.lay(a, c, d));
                break;
            case 2:
                if (upTo(5) == 0) {
                    due("takeUp", x.takeUp(), m.takeUp());
                }
                break;
            case 3:
                due("swap", x.swap(a, b), m.swap(a, b));
                break;
            case 4:
                due("told", x.told(a, c), m.told(a, c));
                break;
            default:
                due("force", x.force(c), m.force(c));
        }
    }

    private void callOfRounds(int kind) {
        int a = place(), b = place(), w = what(), r = some(26);
        switch (kind) {
            case 6:
            case 7:
                due("round(" + a + ", " + r + ")", x.round(a, r), m.round(a, r));
                break;
            case 8:
                due("harvests", x.harvests(), m.harvests());
                break;
            case 9:
                due("best", x.best(w), m.best(w));
                break;
            case 10:
                due("change", x.change(a, w), m.change(a, w));
                break;
            case 11:
                due("anew", x.anew(a, b, w), m.anew(a, b, w));
                break;
            case 12:
                due("hay", x.hay(a, w), m.hay(a, w));
                break;
            default:
                if (m.count(0) > 5 || upTo(10) == 0) {
                    due("layings", x.layings(w), m.layings(w));
                }
        }
    }

    private void callOfTold(int kind) {
        int s = some(4), a = place(), n = some(21), w = what();
        int seed = upTo(9) == 0 ? EDGES[upTo(EDGES.length)] : random.nextInt();
        switch (kind) {
            case 14:
            case 15:
                int t = upTo(3) == 0 ? some(3) : upTo(2) == 0 ? 10 + place() : 30 + place();
                due("tells(" + s + ", " + t + ")", x.tells(s, t), m.tells(s, t));
                break;
            case 16:
                due("film", x.film(s, a), m.film(s, a));
                break;
            case 17:
                due("drawn", x.drawn(seed), m.drawn(seed));
                due("chance", x.chance(seed, n, w), m.chance(seed, n, w));
                break;
            case 18:
                if (upTo(4) == 0) {
                    due("image", x.image(), m.image());
                } else if (upTo(4) == 0) {
                    due("back", x.back(), m.back());
                }
                break;
            default:
                due("count", x.count(n), m.count(n));
                due("count", x.count(w), m.count(w));
        }
    }

    private void callOfHost(int kind) {
        int s = some(4), t = some(4), sort = some(3), i = some(12), j = some(12), n = some(12);
        switch (kind) {
            case 20:
                if (upTo(4) == 0) {
                    int size = upTo(6) == 0 ? some(41) : n;
                    int other = upTo(9) == 0 ? -1 : sort;
                    due("sheet", x.sheet(s, other, size), m.sheet(s, other, size));
                }
                break;
            case 21:
            case 22:
                int v = upTo(4) == 0 ? some(400) - 200 : place();
                due("cell", x.cell(s, i, v), m.cell(s, i, v));
                break;
            case 23:
                due("copy", x.copy(s, i, t, j, n), m.copy(s, i, t, j, n));
                break;
            case 24:
                if (upTo(5) == 0) {
                    int many = upTo(4) == 0 ? some(17) : upTo(3);
                    due("cards", x.cards(s, sort, i, many), m.cards(s, sort, i, many));
                }
                break;
            default:
                int p = place(), k = some(6);
                due("taken(" + p + ", " + k + ")", x.taken(p, k), m.taken(p, k));
        }
    }

    private void feedAll(String text) {
        for (int i = 0; i < text.length(); i++) {
            int letter = text.charAt(i);
            due("feed", x.feed(letter), m.feed(letter));
        }
        due("text() of " + text, x.text(), m.text());
        int last = m.count(1) - 1;
        due("force(" + last + ") of " + text, x.force(last), m.force(last));
    }

    private void readTexts() {
        for (int i = 0; i < 3; i++) {
            feedAll(new TextMaker(random).text());
        }
        for (int i = 0; i < 5; i++) {
            addCard();
        }
        for (int text = 0; text < 4; text++) {
            due("force", x.force(text), m.force(text));
            for (int from = 0; from < 5; from++) {
                due("round", x.round(from, 4), m.round(from, 4));
                due("round", x.round(from, 2), m.round(from, 2));
            }
        }
    }
}
