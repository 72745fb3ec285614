import java.util.ArrayList;
import java.util.Arrays;
import java.util.List;
import java.util.Random;

/** Long random runs against a model that is written in another way: brute force, recursion, real kinds. */
public final class ModelTest {
    private static final Check check = new Check();
    private static final long NONE = Long.MIN_VALUE;

    public static void main(String[] args) {
        for (int seed = 0; seed < 1500 && check.wrong() < 20; seed++) {
            new ModelTest(seed).run();
        }
        check.end();
    }

    private final Random random;
    private final int seed;
    private final CardUnsigned x = new CardUnsigned();
    private final Model model = new Model();
    private String call = "";

    private ModelTest(int seed) {
        this.seed = seed;
        this.random = new Random(seed);
    }

    private int any(int least, int most) {
        if (random.nextInt(60) == 0) {
            int[] odd = {least - 1, most + 1, Integer.MIN_VALUE, Integer.MAX_VALUE, -1, 0};
            return odd[random.nextInt(odd.length)];
        }
        return least + random.nextInt(most - least + 1);
    }

    private int one() {
        return any(0, Math.max(0, model.people.size() - 1));
    }

    private int card() {
        return any(0, Math.max(0, model.cards.size() - 1));
    }

    private int way() {
        return 100 * any(0, random.nextBoolean() ? 0 : 8) + 10 * any(0, 4) + any(0, 1);
    }

    private void due(int promise, String called, long got, long want) {
        call = called;
        check.due(promise, "seed " + seed + ": " + call, got, want);
    }

    private void run() {
        for (int i = 0; i < 4; i++) {
            person();
        }
        for (int i = 0; i < 508 && check.wrong() < 20; i++) {
            switch (random.nextInt(12)) {
                case 0:
                    person();
                    break;
                case 1:
                case 2:
                    cardsAndDeeds();
                    break;
                case 3:
                case 4:
                    mend();
                    break;
                case 5:
                    if (random.nextInt(4) == 0) {
                        i += law();
                    }
                    break;
                case 6:
                    i += shelves();
                    break;
                case 7:
                    acts();
                    break;
                default:
                    ask();
            }
        }
    }

    private void person() {
        int hand = any(0, 3);
        due(2, "person(" + hand + ")", x.person(hand), model.person(hand));
    }

    private void cardsAndDeeds() {
        int what = way();
        int a = one();
        int b = one();
        int c = 10 * card() + one();
        switch (random.nextInt(8)) {
            case 0:
                int ta = 100 * a + any(0, 99);
                due(4, "card(" + ta + ", " + what + ")", x.card(ta, what), model.card(ta, what));
                break;
            case 1:
            case 2:
                due(31, "send(" + (10 * a + b) + ", " + what + ")", x.send(10 * a + b, what), model.send(10 * a + b, what));
                break;
            case 3:
                due(32, "thanked(" + c + ")", x.thanked(c), model.thanked(c));
                break;
            case 4:
                int n = any(1, 5);
                due(30, "pass(" + n + ")", x.pass(n), model.pass(n));
                break;
            case 5:
                due(34, "image()", x.image(), model.image());
                break;
            case 6:
                due(35, "back()", x.back(), model.back());
                break;
            default:
                int w = any(0, 4);
                due(33, "led(" + w + ")", x.led(w), model.led(w));
        }
    }

    private void mend() {
        int what = any(0, 12);
        int number = what >= 10 ? any(0, 0) : what >= 6 ? card() : one();
        int[] most = {60, 99, 3, 9, 255, 255, 99, 3, 7, 1, 12, 99, 99};
        int v = what < 0 || what > 12 ? 0 : any(what == 7 || what == 8 ? -1 : 0, most[what]);
        switch (random.nextInt(6)) {
            case 0:
                due(36, "undo()", x.undo(), model.undo());
                break;
            case 1:
                due(37, "redo()", x.redo(), model.redo());
                break;
            case 2:
                int w = any(0, 15);
                due(6, "of(" + number + ", " + w + ")", x.of(number, w), model.of(number, w));
                break;
            default:
                due(5, "mend(" + number + ", " + what + ", " + v + ")", x.mend(number, what, v), model.mend(number, what, v));
        }
    }

    private String expression(int depth) {
        String[] signs = {"+", "-", "*", "/", "%", "<", "=", ">", "&", "|"};
        int kind = random.nextInt(depth > 3 ? 3 : 9);
        if (kind == 0) {
            return String.valueOf(random.nextInt(random.nextBoolean() ? 10 : 10000));
        }
        if (kind < 3) {
            return String.valueOf("lhskmc".charAt(random.nextInt(6)));
        }
        if (kind == 3) {
            return "(" + expression(depth + 1) + ")";
        }
        if (kind == 4) {
            return (random.nextBoolean() ? "!" : "-") + expression(depth + 1);
        }
        return expression(depth + 1) + signs[random.nextInt(signs.length)] + expression(depth + 1);
    }

    private int law() {
        StringBuilder text = new StringBuilder(expression(0));
        for (int i = random.nextInt(3); i > 0; i--) {
            text.append(random.nextBoolean() ? "?" : ";").append(expression(0));
        }
        if (random.nextInt(3) == 0 && text.length() > 0) {
            String signs = "lhskmc0123456789+-*/%<=>&|!?;() ";
            text.setCharAt(random.nextInt(text.length()), signs.charAt(random.nextInt(signs.length())));
        }
        int length = Math.min(text.length(), 121);
        for (int i = 0; i < length; i++) {
            due(7, "feed(" + text.charAt(i) + ")", x.feed(text.charAt(i)), model.feed(text.charAt(i)));
        }
        due(8, "law() of " + text, x.law(), model.law());
        return length;
    }

    private int shelves() {
        int shelf = any(0, 5);
        int sort = any(0, 4) % 3;
        if (random.nextBoolean() && shelf >= 0 && shelf < 6) {
            int n = random.nextInt(13);
            x.row(shelf, 1 - shelf % 2, n);
            model.row(shelf, 1 - shelf % 2, n);
            for (int i = 0; i < n; i++) {
                int v = shelf % 2 == 1 ? one() : i % 2 == 0 ? card() : random.nextInt(3) == 0 ? -1 : one();
                due(43, "put(" + shelf + ", " + i + ", " + v + ")", x.put(shelf, i, v), model.put(shelf, i, v));
            }
            return n + 1;
        }
        int i = any(0, 20);
        int j = any(0, 20);
        int n = any(0, 9);
        int other = any(0, 5);
        switch (random.nextInt(5)) {
            case 0:
                due(42, "row(" + shelf + ", " + sort + ", " + i + ")", x.row(shelf, sort, i), model.row(shelf, sort, i));
                break;
            case 1:
                String called = "shift(" + shelf + ", " + i + ", " + other + ", " + j + ", " + n + ")";
                due(45, called, x.shift(shelf, i, other, j, n), model.shift(shelf, i, other, j, n));
                break;
            case 2:
                due(44, "element(" + shelf + ", " + i + ")", x.element(shelf, i), model.element(shelf, i));
                break;
            case 3:
                due(3, "people(" + shelf + ", " + i + ", " + n + ")", x.people(shelf, i, n), model.people(shelf, i, n));
                break;
            default:
                int body = any(-1, 3);
                due(41, "keep(" + shelf + ", " + body + ")", x.keep(shelf, body), model.keep(shelf, body));
        }
        return 0;
    }

    private void acts() {
        int body = any(0, 20);
        int act = any(0, 3);
        int v = random.nextInt();
        int shelf = any(0, 5);
        int kind = any(0, 7);
        switch (random.nextInt(4)) {
            case 0:
                due(38, "body(" + kind + ")", x.body(kind), model.body(kind));
                break;
            case 1:
                due(46, "taken(" + shelf + ", " + kind + ")", x.taken(shelf, kind), model.taken(shelf, kind));
                break;
            default:
                due(39, "act(" + body + ", " + act + ", " + v + ")", x.act(body, act, v), model.act(body, act, v));
                for (int i = -1; i < 17; i++) {
                    due(40, "trace(" + i + ")", x.trace(i), model.trace(i));
                }
        }
        for (int what = -1; what < 7; what++) {
            due(47, "count(" + what + ")", x.count(what), model.count(what));
        }
    }

    private void ask() {
        int c = card();
        int ct = 10 * card() + one();
        int w = any(0, 1);
        int set = any(0, (1 << model.cards.size()) - 1);
        int secret = any(0, 7);
        switch (random.nextInt(11)) {
            case 0:
                due(9, "could(" + c + ")", x.could(c), model.could(c));
                due(10, "counts(" + ct + ")", x.counts(ct), model.counts(ct));
                due(11, "likely(" + ct + ", " + w + ")", x.likely(ct, w), model.likely(ct, w));
                break;
            case 1:
                due(12, "likeliest(" + c + ", " + w + ")", x.likeliest(c, w), model.likeliest(c, w));
                due(13, "allByOne(" + set + ")", x.allByOne(set), model.allByOne(set));
                break;
            case 2:
                due(14, "hands(" + set + ", " + w + ")", x.hands(set, w), model.hands(set, w));
                due(15, "unlike(" + set + ")", x.unlike(set), model.unlike(set));
                break;
            case 3:
                int n = any(0, 9);
                due(16, "evenings(" + secret + ", " + n + ")", x.evenings(secret, n), model.evenings(secret, n));
                int one = one();
                due(17, "hears(" + secret + ", " + one + ")", x.hears(secret, one), model.hears(secret, one));
                break;
            case 4:
                due(18, "ask(" + c + ", " + w + ")", x.ask(c, w), model.ask(c, w));
                due(21, "next(" + c + ", " + w + ")", x.next(c, w), model.next(c, w));
                break;
            case 5:
                due(19, "worth(" + ct + ")", x.worth(ct), model.worth(ct));
                due(20, "thank(" + c + ")", x.thank(c), model.thank(c));
                break;
            case 6:
            case 7:
                int ft = 10 * one() + one();
                int minute = any(0, 99);
                due(22, "write(" + ft + ", " + minute + ", " + w + ")", x.write(ft, minute, w), model.write(ft, minute, w));
                int hp = 10 * w + any(0, 1);
                due(23, "written(" + ft + ", " + minute + ", " + hp + ")", x.written(ft, minute, hp), model.written(ft, minute, hp));
                break;
            case 8:
                int shelf = any(0, 5);
                int who = any(-2, model.people.size());
                int m = any(0, 12);
                due(24, "looks(" + shelf + ", " + who + ")", x.looks(shelf, who), model.looks(shelf, who));
                due(25, "since(" + shelf + ", " + m + ")", x.since(shelf, m), model.since(shelf, m));
                break;
            case 9:
                int s = any(0, 5);
                due(26, "judge(" + s + ")", x.judge(s), model.judge(s));
                due(27, "filled(" + s + ", " + w + ")", x.filled(s, w), model.filled(s, w));
                break;
            default:
                due(28, "hope(" + c + ", " + w + ")", x.hope(c, w), model.hope(c, w));
                int z = random.nextInt();
                int times = any(1, 50);
                int o = any(-1, model.people.size());
                due(29, "drawn(" + c + ", " + z + ", " + times + ", " + o + ")", x.drawn(c, z, times, o), model.drawn(c, z, times, o));
        }
    }

    static final class P {
        int[] v = {0, 99, 0, 0, 0, 0};
    }

    static final class C {
        int[] v = new int[4];
        int to;
        int sender = -2;
        int thanked = -2;

        C(int to, int at, int what) {
            this.to = to;
            v = new int[] {at, what / 10 % 10 - 1, what / 100 - 1, what % 10};
        }
    }

    /** Stands for a text that goes on no more at a place. */
    static final class Fault extends RuntimeException {
        private static final long serialVersionUID = 1L;
        final int place;

        Fault(int place) {
            this.place = place;
        }
    }

    static final class Model {
        final List<P> people = new ArrayList<>();
        final List<C> cards = new ArrayList<>();
        final int[] general = {2, 10, 10};
        final StringBuilder tape = new StringBuilder();
        String text = null;
        final List<int[]> done = new ArrayList<>();
        final List<int[]> undone = new ArrayList<>();
        int[] led = new int[5];
        int[] imageLed = null;
        List<Integer> imageThanked = null;
        final List<Look> bodies = new ArrayList<>();
        final Object[] shelves = new Object[6];
        final int[] sorts = new int[6];

        int person(int hand) {
            if (hand < 0 || hand > 3) return -1;
            if (people.size() == 8) return -3;
            P p = new P();
            p.v[2] = hand;
            people.add(p);
            return people.size() - 1;
        }

        boolean isPerson(long p) {
            return p >= 0 && p < people.size();
        }

        boolean isCard(long c) {
            return c >= 0 && c < cards.size();
        }

        boolean isWay(int what) {
            return what >= 0 && what <= 841 && what / 10 % 10 <= 4 && what % 10 <= 1;
        }

        int people(int shelf, int i, int n) {
            if (shelf < 0 || shelf > 5 || n < 1 || n > 8) return -1;
            if (shelves[shelf] == null) return 0;
            if (!(shelves[shelf] instanceof short[])) return -12;
            short[] row = (short[]) shelves[shelf];
            if (i < 0) return 0;
            int came = 0;
            for (long at = i; at + 2 < row.length && came < n && people.size() < 8; at += 3) {
                int h = row[(int) at], l = row[(int) at + 1], k = row[(int) at + 2];
                if (h < 0 || h > 3 || l < 0 || l > 255 || k < 0 || k > 255) break;
                person(h);
                people.get(people.size() - 1).v[4] = l;
                people.get(people.size() - 1).v[5] = k;
                came++;
            }
            return came;
        }

        int card(int ta, int what) {
            if (ta < 0 || !isPerson(ta / 100) || !isWay(what)) return -1;
            if (cards.size() == 6) return -3;
            cards.add(new C(ta / 100, ta % 100, what));
            return cards.size() - 1;
        }

        int[] numbersOf(int number, int what) {
            if (what < 0) return null;
            if (what < 6) return isPerson(number) ? people.get(number).v : null;
            if (what < 10) return isCard(number) ? cards.get(number).v : null;
            return number == 0 && what < 13 ? general : null;
        }

        int placeOf(int what) {
            return what < 6 ? what : what < 10 ? what - 6 : what - 10;
        }

        int mend(int number, int what, int v) {
            int[] at = numbersOf(number, what);
            if (at == null) return CardUnsigned.VOID;
            int[] most = {99, 99, 3, 9, 255, 255, 99, 3, 7, 1, 12, 99, 99};
            if (v < (what == 7 || what == 8 ? -1 : 0) || v > most[what]) return CardUnsigned.VOID;
            int old = at[placeOf(what)];
            if (old != v) {
                done.add(new int[] {number, what, old, v});
                if (done.size() > 40) done.remove(0);
                undone.clear();
                at[placeOf(what)] = v;
            }
            return old;
        }

        int undo() {
            if (done.isEmpty()) return -5;
            int[] d = done.remove(done.size() - 1);
            numbersOf(d[0], d[1])[placeOf(d[1])] = d[2];
            undone.add(d);
            return done.size();
        }

        int redo() {
            if (undone.isEmpty()) return -5;
            int[] d = undone.remove(undone.size() - 1);
            numbersOf(d[0], d[1])[placeOf(d[1])] = d[3];
            done.add(d);
            return undone.size();
        }

        int of(int number, int what) {
            if (what >= 13 && what <= 15 && isCard(number)) {
                C c = cards.get(number);
                return what == 13 ? c.to : what == 14 ? c.sender : c.thanked;
            }
            int[] at = numbersOf(number, what);
            return at == null ? CardUnsigned.VOID : at[placeOf(what)];
        }

        int feed(int letter) {
            if (letter < 0 || letter > 255) return -1;
            if (tape.length() == 120) return -3;
            tape.append((char) letter);
            return tape.length();
        }

        int law() {
            String t = tape.toString();
            tape.setLength(0);
            try {
                new Reading(t, new int[6]).lines();
            } catch (Fault f) {
                return -100 - f.place;
            }
            text = t;
            return 1;
        }

        boolean could(C c, int one) {
            P p = people.get(one);
            if (one == c.to) return false;
            if (c.v[2] >= 0 && (p.v[5] & 1 << c.v[2]) == 0) return false;
            return c.v[3] == 0 || p.v[0] <= c.v[0] && p.v[1] >= c.v[0];
        }

        int couldBits(C c) {
            int bits = 0;
            for (int p = 0; p < people.size(); p++) if (could(c, p)) bits += 1 << p;
            return bits;
        }

        int could(int card) {
            return isCard(card) ? couldBits(cards.get(card)) : -1;
        }

        int counts(C c, int number, int one) {
            if (!could(c, one)) return 0;
            P p = people.get(one);
            int l = (p.v[4] >> c.to) % 2;
            int h = c.v[1] == -1 ? 1 : c.v[1] == p.v[2] ? 2 : 0;
            if (text == null) {
                int f = general[0];
                return Math.min(99, (l == 1 ? 5 : 1) * new int[] {f, 12, 12 - f}[h]);
            }
            int k = 0;
            for (P q : people) if (c.v[2] >= 0 && (q.v[5] & 1 << c.v[2]) != 0) k++;
            int v = new Reading(text, new int[] {l, h, p.v[3], k, c.v[3], number}).lines();
            return v < 0 ? 0 : v > 99 ? 99 : v;
        }

        int[] all(C c, int number) {
            int[] a = new int[people.size()];
            for (int p = 0; p < a.length; p++) a[p] = counts(c, number, p);
            return a;
        }

        int[] all(int card) {
            return all(cards.get(card), card);
        }

        int sum(int[] a) {
            return Arrays.stream(a).sum();
        }

        boolean isCt(int ct) {
            return ct >= 0 && isCard(ct / 10) && isPerson(ct % 10);
        }

        int counts(int ct) {
            return isCt(ct) ? counts(cards.get(ct / 10), ct / 10, ct % 10) : -1;
        }

        long lowest(int top, int below, int part) {
            if (top == 0) return part;
            for (int d = below; d > 1; d--) {
                if (top % d == 0 && below % d == 0) {
                    top /= d;
                    below /= d;
                }
            }
            return part == 0 ? top : below;
        }

        long likely(int ct, int part) {
            if (!isCt(ct) || part < 0 || part > 1) return NONE;
            int[] a = all(ct / 10);
            return lowest(a[ct % 10], sum(a), part);
        }

        int likeliest(int card, int what) {
            if (!isCard(card) || what < 0 || what > 1) return -1;
            int[] a = all(card);
            int max = Arrays.stream(a).max().orElse(0);
            if (max == 0) return -2;
            if (what == 1 && Arrays.stream(a).filter(v -> v > 0).count() > 1) return -2;
            for (int p = 0; ; p++) if (a[p] == max) return p;
        }

        boolean isSet(int set) {
            return set >= 0 && set < 1 << cards.size();
        }

        int allByOne(int set) {
            if (!isSet(set)) return -1;
            int bits = 0;
            for (int p = 0; p < people.size(); p++) {
                boolean every = true;
                for (int c = 0; c < cards.size(); c++) every &= (set >> c) % 2 == 0 || could(cards.get(c), p);
                if (every) bits |= 1 << p;
            }
            return bits;
        }

        int hands(int set, int what) {
            if (!isSet(set) || what < 0 || what > 1) return -1;
            for (int many = 0; many <= people.size(); many++) {
                for (int who = 0; who < 1 << people.size(); who++) {
                    if (Integer.bitCount(who) != many) continue;
                    boolean every = true;
                    for (int c = 0; c < cards.size(); c++) every &= (set >> c) % 2 == 0 || (couldBits(cards.get(c)) & who) != 0;
                    if (every) return what == 0 ? many : who;
                }
            }
            return -2;
        }

        int unlike(int set) {
            return isSet(set) ? unlikeFrom(set, 0, 0) : -1;
        }

        int unlikeFrom(int set, int card, int used) {
            if (card == cards.size()) return 1;
            if ((set >> card) % 2 == 0) return unlikeFrom(set, card + 1, used);
            int n = 0;
            for (int p = 0; p < people.size(); p++) {
                if ((used >> p) % 2 == 0 && could(cards.get(card), p)) n += unlikeFrom(set, card + 1, used | 1 << p);
            }
            return n;
        }

        int evenings(int secret, int n) {
            if (secret < 0 || secret > 7 || n < 0 || n > 9) return -1;
            boolean[] k = new boolean[people.size()];
            for (int p = 0; p < k.length; p++) k[p] = (people.get(p).v[5] & 1 << secret) != 0;
            for (int e = 0; e < n; e++) {
                boolean[] then = k.clone();
                for (int p = 0; p < k.length; p++) {
                    for (int q = 0; q < k.length; q++) then[q] |= k[p] && (people.get(p).v[4] & 1 << q) != 0;
                }
                k = then;
            }
            int bits = 0;
            for (int p = 0; p < k.length; p++) if (k[p]) bits |= 1 << p;
            return bits;
        }

        int hears(int secret, int one) {
            if (secret < 0 || secret > 7 || !isPerson(one)) return -1;
            for (int n = 0; n <= 9; n++) if ((evenings(secret, n) >> one) % 2 == 1) return n;
            return -2;
        }

        int ask(int card, int what) {
            if (!isCard(card) || what < 0 || what > 1) return -1;
            int[] a = all(card);
            int best = -1;
            int least = Integer.MAX_VALUE;
            for (int q = 0; q <= 12; q++) {
                int yes = 0;
                int no = 0;
                for (int p = 0; p < a.length; p++) {
                    int[] v = people.get(p).v;
                    boolean says = q < 8 ? (v[5] & 1 << q) != 0 : q < 12 ? v[2] == q - 8 : (v[4] & 1 << cards.get(card).to) != 0;
                    if (says) yes += a[p]; else no += a[p];
                }
                if (Math.max(yes, no) < least) {
                    least = Math.max(yes, no);
                    best = q;
                }
            }
            return what == 0 ? best : least;
        }

        int worth(int ct) {
            if (!isCt(ct)) return CardUnsigned.VOID;
            int[] a = all(ct / 10);
            long t = sum(a);
            long c = a[ct % 10];
            return t == 0 ? 0 : (int) ((general[1] * c - general[2] * (t - c)) * 1000L / t);
        }

        int thank(int card) {
            if (!isCard(card)) return -1;
            int best = -2;
            for (int p = people.size() - 1; p >= 0; p--) {
                int w = worth(10 * card + p);
                if (w > 0 && (best == -2 || w >= worth(10 * card + best))) best = p;
            }
            return best;
        }

        int next(int card, int what) {
            if (!isCard(card) || what < 0 || what > 1) return -1;
            C c = cards.get(card);
            int old = c.v[2];
            for (int few = 1; few <= 8; few++) {
                for (int s = 0; s < 8; s++) {
                    c.v[2] = s;
                    int n = Integer.bitCount(couldBits(c));
                    c.v[2] = old;
                    if (n == few) return what == 0 ? s : n;
                }
            }
            return -2;
        }

        boolean isFt(int ft) {
            return ft >= 0 && isPerson(ft / 10) && isPerson(ft % 10) && ft / 10 != ft % 10;
        }

        /** The way, and its fraction as it is. */
        int[] best(int ft, int minute, int how) {
            int[] best = {-2, 0, 1};
            P p = people.get(ft / 10);
            for (int what = 0; what <= 841; what++) {
                if (!isWay(what)) continue;
                if (what >= 100 && (p.v[5] & 1 << what / 100 - 1) == 0) continue;
                if (what % 10 == 1 && (minute < p.v[0] || minute > p.v[1])) continue;
                int[] a = all(new C(ft % 10, minute, what), cards.size());
                int t = sum(a);
                if (t == 0) continue;
                long cross = (long) a[ft / 10] * best[2] - (long) best[1] * t;
                if (best[0] == -2 || how == 0 && cross > 0 || how == 1 && cross < 0) best = new int[] {what, a[ft / 10], t};
            }
            return best;
        }

        int write(int ft, int minute, int how) {
            return isFt(ft) && minute >= 0 && minute <= 99 && how >= 0 && how <= 1 ? best(ft, minute, how)[0] : -1;
        }

        long written(int ft, int minute, int hp) {
            boolean ok = hp == 0 || hp == 1 || hp == 10 || hp == 11;
            if (!ok || !isFt(ft) || minute < 0 || minute > 99) return NONE;
            int[] b = best(ft, minute, hp / 10);
            return lowest(b[1], b[2], hp % 10);
        }

        int looks(int shelf, int one) {
            if (shelf < 0 || shelf > 5 || one < -2 || one >= people.size()) return -1;
            if (shelves[shelf] == null) return -11;
            if (!(shelves[shelf] instanceof byte[]) || sorts[shelf] != 0) return -12;
            byte[] row = (byte[]) shelves[shelf];
            int[] n = new int[256];
            for (int m = 0; m < row.length; m++) {
                if (isPerson(row[m])) n[row[m]]++;
                if (one == -2 && isPerson(row[m]) && (people.get(row[m]).v[0] > m || people.get(row[m]).v[1] < m)) return m;
            }
            if (one == -2) return -2;
            if (one >= 0) return n[one];
            int max = Arrays.stream(n).max().getAsInt();
            for (int p = 0; max > 0; p++) if (n[p] == max) return p;
            return -2;
        }

        int since(int shelf, int m) {
            if (shelf < 0 || shelf > 5 || m < 0 || m > 99) return -1;
            if (shelves[shelf] == null) return -11;
            if (!(shelves[shelf] instanceof byte[]) || sorts[shelf] != 0) return -12;
            byte[] row = (byte[]) shelves[shelf];
            int best = -2;
            int most = 0;
            for (int p = 0; p < people.size(); p++) {
                int before = 0;
                int behind = 0;
                for (int i = 0; i < row.length; i++) {
                    if (row[i] == p && i < m) before++;
                    if (row[i] == p && i >= m) behind++;
                }
                if (behind - before > most) {
                    most = behind - before;
                    best = p;
                }
            }
            return best;
        }

        int judge(int shelf) {
            if (shelf < 0 || shelf > 5) return -1;
            if (shelves[shelf] == null) return -11;
            if (!(shelves[shelf] instanceof short[])) return -12;
            short[] row = (short[]) shelves[shelf];
            for (int i = 0; i < row.length; i += 2) {
                if (i + 1 == row.length || !isCard(row[i])) return i / 2;
                int p = row[i + 1];
                int bits = could(row[i]);
                if (p == -1 ? bits == 0 : !isPerson(p) || (bits & 1 << p) == 0) return i / 2;
            }
            return -2;
        }

        long filled(int shelf, int what) {
            if (what < 0 || what > 1 || judge(shelf) == -1 || judge(shelf) < -2) return NONE;
            short[] row = (short[]) shelves[shelf];
            if (judge(shelf) != -2) return 0;
            long product = 1;
            for (int i = 0; i < row.length; i += 2) {
                int[] a = all(row[i]);
                int p = row[i + 1];
                if (what == 0) product *= p == -1 ? Integer.bitCount(could(row[i])) : 1;
                else product *= p == -1 ? sum(a) : a[p];
            }
            return product;
        }

        int hope(int card, int what) {
            if (!isCard(card) || what < 0 || what > 1) return -1;
            int[] a = all(card);
            int likes = people.get(cards.get(card).to).v[4];
            int best = -2;
            for (int p = a.length - 1; p >= 0; p--) {
                if ((likes & 1 << p) != 0 && a[p] > 0 && (best == -2 || a[p] >= a[best])) best = p;
            }
            if (what == 0) return best;
            if (best == -2) return 0;
            return (int) ((a[best] - Arrays.stream(a).max().getAsInt()) * 1000000L / sum(a));
        }

        int drawn(int card, int seed, int n, int one) {
            if (!isCard(card) || n < 1 || n > 50 || one < -1 || one >= people.size()) return -1;
            int[] a = all(card);
            List<Integer> urn = new ArrayList<>();
            for (int p = 0; p < a.length; p++) for (int i = 0; i < a[p]; i++) urn.add(p);
            int[] times = new int[8];
            for (int i = 0; i < n && !urn.isEmpty(); i++) {
                seed = seed * 1103515245 + 12345;
                times[urn.get((seed >>> 8) % urn.size())]++;
            }
            return one == -1 ? Arrays.stream(times).max().getAsInt() : times[one];
        }

        int pass(int n) {
            if (n < 1 || n > 99) return -1;
            if (led[4] + n > 99) return -5;
            return led[4] += n;
        }

        int send(int ft, int what) {
            if (!isFt(ft) || !isWay(what)) return -1;
            int[] v = people.get(ft / 10).v;
            if (what >= 100 && (v[5] >> what / 100 - 1) % 2 == 0) return -1;
            if (what % 10 == 1 && (led[4] < v[0] || led[4] > v[1])) return -1;
            if (cards.size() == 6) return -3;
            C c = new C(ft % 10, led[4], what);
            c.sender = ft / 10;
            cards.add(c);
            led[0]++;
            return cards.size() - 1;
        }

        int thanked(int ct) {
            if (!isCt(ct)) return -1;
            C c = cards.get(ct / 10);
            if (c.sender == -2 || c.thanked != -2) return -5;
            c.thanked = ct % 10;
            led[1]++;
            led[c.thanked == c.sender ? 2 : 3]++;
            return c.thanked == c.sender ? 1 : 0;
        }

        int led(int what) {
            return what < 0 || what > 4 ? -1 : led[what];
        }

        int image() {
            imageLed = led.clone();
            imageThanked = new ArrayList<>();
            for (C c : cards) imageThanked.add(c.thanked);
            return led[4];
        }

        int back() {
            if (imageLed == null) return -5;
            led = imageLed.clone();
            for (int i = 0; i < cards.size(); i++) cards.get(i).thanked = i < imageThanked.size() ? imageThanked.get(i) : -2;
            return led[4];
        }

        int body(int kind) {
            if (kind < 0 || kind > 7) return -1;
            if (bodies.size() == 50) return -3;
            Look[] made = {new Look(), new Card(), new Hand(), new Scent(), new Joke(), new Heron(), new Stamp(), new Owl()};
            made[kind].n = bodies.size();
            bodies.add(made[kind]);
            return bodies.size() - 1;
        }

        final List<Integer> trace = new ArrayList<>();

        int act(int body, int act, int v) {
            trace.clear();
            if (body < 0 || body >= bodies.size() || act < 0 || act > 3) return 0;
            Look look = bodies.get(body);
            look.trace = trace;
            return act == 0 ? look.looks(v) : act == 1 ? look.writes(v) : act == 2 ? look.hides(v) : look.tells(v);
        }

        int trace(int i) {
            return i < 0 || i >= Math.min(24, trace.size()) ? -1 : trace.get(i);
        }

        int keep(int shelf, int body) {
            if (shelf < 0 || shelf > 5 || body < -1 || body >= bodies.size()) return -1;
            shelves[shelf] = body == -1 ? null : bodies.get(body);
            return 1;
        }

        int row(int shelf, int sort, int n) {
            if (shelf < 0 || shelf > 5 || sort < 0 || sort > 4 || n > 60) return -1;
            if (n < 0) return -14;
            sorts[shelf] = sort;
            shelves[shelf] = sort == 0 ? new byte[n] : sort == 1 ? new short[n] : sort == 2 ? new int[n] : sort == 3 ? new long[n] : new boolean[n];
            return 1;
        }

        int put(int shelf, int i, long v) {
            if (shelf < 0 || shelf > 5) return -1;
            Object row = shelves[shelf];
            if (row == null) return -11;
            if (row instanceof Look) return -12;
            if (i < 0 || i >= java.lang.reflect.Array.getLength(row)) return -13;
            if (row instanceof byte[]) ((byte[]) row)[i] = (byte) v;
            if (row instanceof short[]) ((short[]) row)[i] = (short) v;
            if (row instanceof int[]) ((int[]) row)[i] = (int) v;
            if (row instanceof long[]) ((long[]) row)[i] = v;
            if (row instanceof boolean[]) ((boolean[]) row)[i] = v != 0;
            return 1;
        }

        long element(int shelf, int i) {
            if (shelf < 0 || shelf > 5) return NONE;
            Object row = shelves[shelf];
            if (row == null || row instanceof Look || i < 0 || i >= java.lang.reflect.Array.getLength(row)) return NONE;
            if (row instanceof boolean[]) return ((boolean[]) row)[i] ? 1 : 0;
            return java.lang.reflect.Array.getLong(row, i);
        }

        /** The host's own refusals: what arraycopy throws tells which. */
        int shift(int shelf, int i, int other, int j, int n) {
            if (shelf < 0 || shelf > 5 || other < 0 || other > 5) return -1;
            try {
                System.arraycopy(shelves[shelf], i, shelves[other], j, n);
                return n;
            } catch (NullPointerException e) {
                return -11;
            } catch (ArrayStoreException e) {
                return -12;
            } catch (IndexOutOfBoundsException e) {
                return -13;
            }
        }

        int taken(int shelf, int k) {
            if (shelf < 0 || shelf > 5 || k < 0 || k > 7) return -1;
            if (shelves[shelf] == null) return -11;
            Class<?>[] kinds = {Look.class, Card.class, Hand.class, Scent.class, Joke.class, Heron.class, Stamp.class, Owl.class};
            return kinds[k].isInstance(shelves[shelf]) ? Arrays.asList(kinds).indexOf(shelves[shelf].getClass()) : -12;
        }

        int count(int what) {
            int[] n = {people.size(), cards.size(), tape.length(), done.size(), bodies.size(), trace.size()};
            return what < 0 || what > 5 ? -1 : n[what];
        }
    }

    /** Reads a text by its grammar and works it out at once. */
    static final class Reading {
        private final String text;
        private final int[] names;
        private int at = 0;
        private int open = 0;

        Reading(String text, int[] names) {
            this.text = text;
            this.names = names;
        }

        private boolean is(String signs) {
            return at < text.length() && signs.indexOf(text.charAt(at)) >= 0;
        }

        int lines() {
            int value = 0;
            boolean found = false;
            do {
                int first = e();
                boolean counts = true;
                if (is("?")) {
                    at++;
                    counts = first != 0;
                    first = e();
                }
                if (!found && counts) {
                    found = true;
                    value = first;
                }
            } while (is(";") && at++ >= 0);
            if (at < text.length()) throw new Fault(at);
            return value;
        }

        private int e() {
            int v = a();
            while (is("|")) {
                at++;
                int w = a();
                v = v != 0 | w != 0 ? 1 : 0;
            }
            return v;
        }

        private int a() {
            int v = b();
            while (is("&")) {
                at++;
                int w = b();
                v = v != 0 & w != 0 ? 1 : 0;
            }
            return v;
        }

        private int b() {
            int v = s();
            if (is("<=>")) {
                char sign = text.charAt(at++);
                int w = s();
                return (sign == '<' ? v < w : sign == '=' ? v == w : v > w) ? 1 : 0;
            }
            return v;
        }

        private int s() {
            int v = p();
            while (is("+-")) {
                boolean plus = text.charAt(at++) == '+';
                int w = p();
                v = plus ? v + w : v - w;
            }
            return v;
        }

        private int p() {
            int v = o();
            while (is("*/%")) {
                char sign = text.charAt(at++);
                int w = o();
                v = sign == '*' ? v * w : w == 0 ? 0 : sign == '/' ? v / w : v % w;
            }
            return v;
        }

        private int o() {
            if (is("0123456789")) {
                int v = 0;
                for (int i = 0; i < 4 && is("0123456789"); i++) v = v * 10 + text.charAt(at++) - '0';
                return v;
            }
            if (is("lhskmc")) return names["lhskmc".indexOf(text.charAt(at++))];
            if (!is("(!-") || open == 6) throw new Fault(at);
            char sign = text.charAt(at++);
            open++;
            int v = sign == '(' ? e() : o();
            if (sign == '(') {
                if (!is(")")) throw new Fault(at);
                at++;
            }
            open--;
            return sign == '(' ? v : sign == '-' ? -v : v == 0 ? 1 : 0;
        }
    }

    interface Looks {
        int n();

        void ran(int body);

        default int looks(int x) {
            ran(1);
            return x + n();
        }
    }

    interface Tells {
        void ran(int body);

        int writes(int x);

        int hides(int x);

        default int tells(int x) {
            ran(2);
            return writes(x) - hides(1);
        }
    }

    static class Look implements Looks, Tells {
        int n;
        List<Integer> trace;

        public int n() {
            return n;
        }

        public void ran(int body) {
            trace.add(body);
        }

        public int writes(int x) {
            ran(10);
            return looks(x) * 2;
        }

        public int hides(int x) {
            ran(11);
            return x ^ n;
        }
    }

    static class Card extends Look {
        public int looks(int x) {
            ran(20);
            return super.looks(x) + 3;
        }
    }

    static class Hand extends Look {
        public int writes(int x) {
            ran(30);
            return -super.writes(x);
        }
    }

    static class Scent extends Hand {
        public int hides(int x) {
            ran(40);
            return super.hides(x) * 3;
        }

        public int writes(int x) {
            ran(41);
            return super.writes(x + 1);
        }
    }

    static class Joke extends Card {
        public int hides(int x) {
            ran(50);
            return super.hides(x) - looks(2);
        }
    }

    static class Heron extends Scent {
        public int tells(int x) {
            ran(60);
            return super.tells(x) ^ 5;
        }
    }

    static class Stamp extends Look {
        public int looks(int x) {
            ran(70);
            return super.looks(x) * 2;
        }
    }

    static class Owl extends Joke {
        public int writes(int x) {
            ran(80);
            return super.writes(x) + hides(2);
        }

        public int tells(int x) {
            ran(81);
            return super.tells(x) - 1;
        }
    }
}
