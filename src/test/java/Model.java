import java.util.ArrayList;
import java.util.List;

/** The document's words again, written another way and without care for speed, to compare answers with. */
final class Model {
    private interface Value {
        int of(Turn t);
    }

    private record Turn(int place, int from, int step, int number, int left, int all) { }

    private record Card(int kind, int number) { }

    private record Text(Value further, Value passes, Value pays) { }

    private record Played(int end, List<Integer> places, int worth) { }

    private static final class Fault extends RuntimeException {
        final int place;

        Fault(int place) {
            this.place = place;
        }
    }

    private List<Card> ring = new ArrayList<>();
    private List<Card> imageRing;
    private int imageRule;
    private final List<Text> texts = new ArrayList<>();
    private int rule;
    private final StringBuilder tape = new StringBuilder();
    private final Object[] sheets = new Object[4];

    Model() {
        texts.add(new Text(t -> 0, t -> 0, t -> 1));
    }

    // ---- the ring

    private boolean no(int place) {
        return place < 0 || place >= ring.size();
    }

    int card(int kind, int number) {
        if (kind < 0 || kind > 5 || number < 0 || number > 9) return -2;
        if (ring.size() == 16) return -4;
        ring.add(new Card(kind, number));
        return ring.size() - 1;
    }

    int lay(int place, int kind, int number) {
        if (no(place) || kind < 0 || kind > 5 || number < 0 || number > 9) return -2;
        Card was = ring.set(place, new Card(kind, number));
        return 10 * was.kind + was.number;
    }

    int takeUp() {
        if (ring.isEmpty()) return -3;
        Card was = ring.remove(ring.size() - 1);
        return 10 * was.kind + was.number;
    }

    int swap(int a, int b) {
        if (no(a) || no(b)) return -2;
        ring = swapped(a, b);
        return a == b ? 0 : 1;
    }

    private List<Card> swapped(int a, int b) {
        List<Card> other = new ArrayList<>(ring);
        other.set(a, ring.get(b));
        other.set(b, ring.get(a));
        return other;
    }

    private List<Card> with(int place, Card card) {
        List<Card> other = new ArrayList<>(ring);
        other.set(place, card);
        return other;
    }

    private static int points(List<Card> cards, int p, int q) {
        int number = cards.get(p).number, half = cards.size() / 2;
        int kind = cards.get(p).kind;
        if (kind == 3) kind = p == q ? 1 : 33;
        return kind == 1 ? -number : kind == 2 ? half : kind == 4 ? half + 1 : kind == 33 ? q - p : number;
    }

    private static int pays(Card card, int v) {
        int king = v + card.number;
        int[] byKind = {v, king, v + v, king - 1, v + v, v - 7};
        return byKind[card.kind];
    }

    int told(int place, int what) {
        if (no(place) || what < 0 || what > 3) return -100;
        Card card = ring.get(place);
        return new int[] {card.kind, card.number, card.kind == 5 ? 1 : 0, points(ring, place, place)}[what];
    }

    // ---- texts

    int feed(int letter) {
        if (letter < 0 || letter > 255) return -2;
        if (tape.length() == 160) return -4;
        tape.append((char) letter);
        return tape.length();
    }

    int text() {
        if (texts.size() == 6) return -4;
        String all = tape.toString();
        tape.setLength(0);
        try {
            texts.add(new Parser(all).text());
            return texts.size() - 1;
        } catch (Fault fault) {
            return -100 - fault.place;
        }
    }

    int force(int text) {
        if (text < 0 || text >= texts.size()) return -2;
        int was = rule;
        rule = text;
        return was;
    }

    private static final class Parser {
        final List<String> tokens = new ArrayList<>();
        final List<Integer> places = new ArrayList<>();
        int at;

        Parser(String s) {
            int i = 0;
            while (i < s.length()) {
                int j = i + 1;
                char c = s.charAt(i);
                if (c == ' ' || c == '\n') {
                    i++;
                    continue;
                }
                String run = c >= 'a' && c <= 'z' ? "[a-z]" : c >= '0' && c <= '9' ? "[0-9]" : null;
                while (run != null && j < s.length() && s.substring(j, j + 1).matches(run)) j++;
                tokens.add(s.substring(i, j));
                places.add(i);
                i = j;
            }
            tokens.add("");
            places.add(s.length());
        }

        boolean sees(String token) {
            return tokens.get(at).equals(token);
        }

        Fault fault() {
            return new Fault(places.get(at));
        }

        void must(String token) {
            if (!sees(token)) throw fault();
            at++;
        }

        void opens(int open) {
            if (open == 5) throw fault();
            at++;
        }

        Text text() {
            Value[] v = new Value[3];
            String[] keys = {"further", "passes", "pays"};
            for (int i = 0; i < 3; i++) {
                must(keys[i]);
                v[i] = e(0);
                must(";");
            }
            must("");
            return new Text(v[0], v[1], v[2]);
        }

        Value e(int open) {
            Value a = and(open);
            while (sees("or")) {
                at++;
                Value l = a, r = and(open);
                a = t -> l.of(t) != 0 | r.of(t) != 0 ? 1 : 0;
            }
            return a;
        }

        Value and(int open) {
            Value a = not(open);
            while (sees("and")) {
                at++;
                Value l = a, r = not(open);
                a = t -> l.of(t) != 0 & r.of(t) != 0 ? 1 : 0;
            }
            return a;
        }

        Value not(int open) {
            if (sees("not")) {
                opens(open);
                Value a = not(open + 1);
                return t -> a.of(t) == 0 ? 1 : 0;
            }
            Value l = sum(open);
            if (sees("<")) {
                at++;
                Value r = sum(open);
                return t -> l.of(t) < r.of(t) ? 1 : 0;
            }
            if (sees("=")) {
                at++;
                Value r = sum(open);
                return t -> l.of(t) == r.of(t) ? 1 : 0;
            }
            return l;
        }

        Value sum(int open) {
            Value a = term(open);
            while (sees("+") || sees("-")) {
                boolean plus = sees("+");
                at++;
                Value l = a, r = term(open);
                a = plus ? t -> l.of(t) + r.of(t) : t -> l.of(t) - r.of(t);
            }
            return a;
        }

        Value term(int open) {
            Value a = one(open);
            while (sees("*")) {
                at++;
                Value l = a, r = one(open);
                a = t -> l.of(t) * r.of(t);
            }
            return a;
        }

        Value one(int open) {
            String token = tokens.get(at);
            if (token.equals("-")) {
                opens(open);
                Value a = one(open + 1);
                return t -> -a.of(t);
            }
            if (token.equals("(")) {
                opens(open);
                Value a = e(open + 1);
                must(")");
                return a;
            }
            Value a = token.matches("[0-9]{1,4}") ? number(Integer.parseInt(token)) : name(token);
            at++;
            return a;
        }

        Value number(int n) {
            return t -> n;
        }

        Value name(String token) {
            switch (token) {
                case "place": return Turn::place;
                case "from": return Turn::from;
                case "step": return Turn::step;
                case "number": return Turn::number;
                case "left": return Turn::left;
                case "all": return Turn::all;
                default: throw fault();
            }
        }
    }

    // ---- rounds

    private static int bound(int v, int low, int high) {
        return v < low ? low : v > high ? high : v;
    }

    private static Played play(List<Card> cards, int from, Text text) {
        int n = cards.size();
        List<Integer> turned = new ArrayList<>();
        int worth = 0, p = from, q = from;
        while (true) {
            turned.add(p);
            int step = turned.size() - 1;
            Turn t = new Turn(p, q, step, cards.get(p).number, n - turned.size(), n);
            worth += pays(cards.get(p), bound(text.pays.of(t), -99, 99));
            if (cards.get(p).kind == 5) return new Played(3, turned, worth);
            int aim = p + points(cards, p, q) + bound(text.further.of(t), -20, 20);
            while (aim < 0) aim += n;
            while (aim >= n) aim -= n;
            int next = -1;
            for (int i = bound(text.passes.of(t), 0, 15); i >= 0; i--) {
                if (!turned.contains((aim + i) % n)) next = (aim + i) % n;
            }
            if (!turned.contains(aim)) next = aim;
            if (next < 0) {
                int end = aim == from ? (turned.size() == n ? 0 : 1) : 2;
                return new Played(end, turned, worth);
            }
            q = p;
            p = next;
        }
    }

    private Played play(List<Card> cards, int from) {
        return play(cards, from, texts.get(rule));
    }

    private static int length(Played played) {
        return played.places.size();
    }

    int round(int from, int what) {
        if (no(from) || what < 0 || what > 4 && what < 10 || what > 25) return -100000;
        Played played = play(ring, from);
        if (what >= 10) return what - 10 < length(played) ? played.places.get(what - 10) : -1;
        int bits = 0;
        for (int p : played.places) bits += 1 << p;
        int last = played.places.get(length(played) - 1);
        return new int[] {played.end, length(played), played.worth, last, bits}[what];
    }

    int harvests() {
        int bits = 0;
        for (int p = 0; p < ring.size(); p++) if (play(ring, p).end == 0) bits += 1 << p;
        return bits;
    }

    int best(int what) {
        if (what != 0 && what != 1) return -2;
        int most = 0, where = -1;
        for (int p = ring.size() - 1; p >= 0; p--) {
            if (length(play(ring, p)) >= most) {
                most = length(play(ring, p));
                where = p;
            }
        }
        return what == 0 ? where : most;
    }

    // ---- what would be best

    int change(int from, int what) {
        if (no(from) || what != 0 && what != 1) return -2;
        int most = length(play(ring, from)), pair = -1;
        for (int a = 0; a < ring.size(); a++) {
            for (int b = a + 1; b < ring.size(); b++) {
                int then = length(play(swapped(a, b), from));
                if (then > most) {
                    most = then;
                    pair = 100 * a + b;
                }
            }
        }
        return what == 0 ? pair : most;
    }

    int anew(int place, int from, int what) {
        if (no(place) || no(from) || what != 0 && what != 1) return -2;
        List<Integer> found = new ArrayList<>();
        for (int k = 0; k < 6; k++) {
            for (int i = 0; i < 10; i++) {
                if (play(with(place, new Card(k, i)), from).end == 0) found.add(10 * k + i);
            }
        }
        return what == 0 ? found.size() : found.isEmpty() ? -1 : found.get(0);
    }

    int hay(int from, int what) {
        if (no(from) || what != 0 && what != 1) return -100000;
        int most = Integer.MIN_VALUE, where = -1;
        for (int p = 0; p < ring.size(); p++) {
            int worth = play(with(p, new Card(5, ring.get(p).number)), from).worth;
            if (worth > most) {
                most = worth;
                where = p;
            }
        }
        return what == 0 ? where : most;
    }

    int layings(int what) {
        if (what != 0 && what != 1) return -2;
        if (ring.size() > 6) return -3;
        int[] found = new int[2];
        if (!ring.isEmpty()) layRest(new ArrayList<>(), found);
        return found[what];
    }

    private void layRest(List<Integer> laid, int[] found) {
        if (laid.size() < ring.size()) {
            for (int p = 0; p < ring.size(); p++) {
                if (laid.contains(p)) continue;
                laid.add(p);
                layRest(laid, found);
                laid.remove(laid.size() - 1);
            }
            return;
        }
        List<Card> cards = new ArrayList<>();
        StringBuilder digits = new StringBuilder();
        for (int p : laid) {
            cards.add(ring.get(p));
            digits.append(p + 1);
        }
        if (play(cards, 0).end != 0) return;
        found[0]++;
        if (found[0] == 1) found[1] = Integer.parseInt(digits.toString());
    }

    // ---- rounds that were told

    private static List<Integer> numbers(Object sheet) {
        List<Integer> all = new ArrayList<>();
        for (int i = 0; i < java.lang.reflect.Array.getLength(sheet); i++) {
            all.add(java.lang.reflect.Array.getInt(sheet, i));
        }
        return all;
    }

    private static int otherwise(List<Integer> told, List<Integer> turned) {
        if (told.equals(turned)) return -1;
        int i = 0;
        while (i < told.size() && i < turned.size() && told.get(i).equals(turned.get(i))) i++;
        return i;
    }

    int tells(int sheet, int what) {
        if (sheet < 0 || sheet > 3 || what < 0 || what > 45) return -2;
        if (what > 2 && what < 10 || what > 25 && what < 30) return -2;
        int place = what >= 30 ? what - 30 : what - 10;
        if (what >= 10 && no(place)) return -2;
        if (sheets[sheet] == null) return -11;
        List<Integer> told = numbers(sheets[sheet]);
        if (told.isEmpty() || told.size() > 16) return -2;
        for (int p : told) if (no(p)) return -2;
        int first = told.get(0), bits = 0;
        if (what == 0) return otherwise(told, play(ring, first).places);
        if (what == 1) {
            for (int p = 0; p < ring.size(); p++) {
                List<Integer> turned = play(ring, p).places;
                boolean ends = turned.get(turned.size() - 1).equals(told.get(told.size() - 1));
                if (turned.size() == told.size() && ends) bits += 1 << p;
            }
        } else if (what == 2) {
            for (int t = 0; t < texts.size(); t++) {
                if (play(ring, first, texts.get(t)).places.equals(told)) bits += 1 << t;
            }
        } else {
            Card now = ring.get(place);
            for (int k = 0; k < (what >= 30 ? 10 : 6); k++) {
                Card other = what >= 30 ? new Card(now.kind, k) : new Card(k, now.number);
                if (play(with(place, other), first).places.equals(told)) bits += 1 << k;
            }
        }
        return bits;
    }

    int film(int sheet, int from) {
        if (sheet < 0 || sheet > 3 || no(from)) return -2;
        List<Integer> turned = play(ring, from).places;
        byte[] row = new byte[turned.size()];
        for (int i = 0; i < row.length; i++) row[i] = turned.get(i).byteValue();
        sheets[sheet] = row;
        return row.length;
    }

    private Played draw(int seed) {
        List<Card> cards = new ArrayList<>(ring);
        long z = seed;
        for (int k = ring.size() - 1; k > 0; k--) {
            z = (z * 1103515245L + 12345L) & 0xffffffffL;
            int j = (int) ((z >> 9) % (k + 1));
            Card one = cards.get(k);
            cards.set(k, cards.get(j));
            cards.set(j, one);
        }
        return play(cards, 0);
    }

    int drawn(int seed) {
        return ring.isEmpty() ? -3 : length(draw(seed));
    }

    long chance(int seed, int n, int part) {
        if (n < 1 || n > 20 || part < 0 || part > 1 || ring.isEmpty()) return -4611686018427387904L;
        int above = 0, below = n;
        for (int i = 0; i < n; i++) if (draw(seed + i).end == 0) above++;
        for (int d = 2; d <= n; d++) {
            while (above % d == 0 && below % d == 0) {
                above /= d;
                below /= d;
                if (above == 0 && below == 1) break;
            }
        }
        return part == 0 ? above : below;
    }

    int image() {
        imageRing = new ArrayList<>(ring);
        imageRule = rule;
        return ring.size();
    }

    int back() {
        if (imageRing == null) return -3;
        ring = new ArrayList<>(imageRing);
        rule = imageRule;
        return ring.size();
    }

    int count(int what) {
        if (what < 0 || what > 3) return -2;
        return new int[] {ring.size(), texts.size(), tape.length(), rule}[what];
    }

    // ---- the host: here the machine's own rows and exceptions say what is due

    int sheet(int sheet, int sort, int n) {
        if (sheet < 0 || sheet > 3 || sort < -1 || sort > 2) return -2;
        if (sort >= 0 && n > 40) return -2;
        try {
            sheets[sheet] = sort == -1 ? null : sort == 0 ? new byte[n] : sort == 1 ? new short[n] : new int[n];
            return 1;
        } catch (NegativeArraySizeException e) {
            return -14;
        }
    }

    int cell(int sheet, int i, int v) {
        if (sheet < 0 || sheet > 3) return -2;
        try {
            Object row = sheets[sheet];
            if (row instanceof byte[] bytes) bytes[i] = (byte) v;
            else if (row instanceof short[] shorts) shorts[i] = (short) v;
            else ((int[]) row)[i] = v;
            return 1;
        } catch (NullPointerException e) {
            return -11;
        } catch (ArrayIndexOutOfBoundsException e) {
            return -12;
        }
    }

    int copy(int sheet, int i, int other, int j, int n) {
        if (sheet < 0 || sheet > 3 || other < 0 || other > 3) return -2;
        try {
            System.arraycopy(sheets[sheet], i, sheets[other], j, n);
            return n;
        } catch (NullPointerException e) {
            return -11;
        } catch (ArrayStoreException e) {
            return -13;
        } catch (IndexOutOfBoundsException e) {
            return -12;
        }
    }

    int cards(int sheet, int sort, int from, int n) {
        if (sheet < 0 || sheet > 3 || sort < 0 || sort > 2 || n < 0 || n > 16) return -2;
        Class<?>[] sorts = {byte[].class, short[].class, int[].class};
        int came = 0;
        try {
            Object row = sorts[sort].cast(sheets[sheet]);
            java.lang.reflect.Array.getLength(row);
            for (int i = 0; i < n; i++) {
                int kind = java.lang.reflect.Array.getInt(row, from + 2 * i);
                int number = java.lang.reflect.Array.getInt(row, from + 2 * i + 1);
                if (card(kind, number) >= 0) came++;
            }
            return came;
        } catch (ClassCastException e) {
            return -13;
        } catch (NullPointerException e) {
            return -11;
        } catch (ArrayIndexOutOfBoundsException e) {
            return -12;
        }
    }

    private static class Plain { }

    private static class King extends Plain { }

    private static class Queen extends Plain { }

    private static final class Knave extends King { }

    private static final class Joker extends Queen { }

    private static final class Seven extends Plain { }

    int taken(int place, int k) {
        Plain[] all = {new Plain(), new King(), new Queen(), new Knave(), new Joker(), new Seven()};
        if (k < 0 || k > 5) return -2;
        if (no(place)) return -11;
        return all[k].getClass().isInstance(all[ring.get(place).kind]) ? ring.get(place).number : -13;
    }
}
