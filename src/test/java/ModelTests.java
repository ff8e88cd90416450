import java.math.BigInteger;
import java.util.ArrayList;
import java.util.List;
import java.util.function.ToIntFunction;

/**
 * Runs of many calls by lot, each answer held against a second, slow and plain telling of the document:
 * sayings as objects of a tree of kinds, nests as lists, texts cut by patterns. The lots are always the same ones.
 */
public final class ModelTests {
    private static final int RUNS = 3200;
    /** What is promised of an object ends with its 512th call; a text may take 121 calls, a look at all the state 89. */
    private static final int CALLS = 512 - 121 - 89;

    private static int wrong = 0;
    private static long calls = 0;

    // ---- the second telling ----

    static class Gossip {
        int figure, woman, worn;
        boolean in, unwearing, hushed;
        int fresh() { return Math.max(0, figure - worn); }
        int number() { return 0; }
        int soft() { return fresh(); }
        int binds() { return 1; }
        int weighs() { return 1; }
    }

    static class Praise extends Gossip {
        @Override int number() { return 1; }
        @Override int soft() { return super.soft() + 3; }
        @Override int binds() { return 0; }
    }

    static class Mud extends Gossip {
        @Override int number() { return 2; }
        @Override int soft() { return 0; }
        @Override int binds() { return fresh() / 2 + 2; }
        @Override int weighs() { return super.weighs() + 1; }
    }

    static class Hearsay extends Gossip {
        @Override int number() { return 3; }
        @Override int soft() { return super.soft() / 2; }
        @Override int weighs() { return fresh() < 3 ? 0 : super.weighs(); }
    }

    static class Truth extends Mud {
        @Override int number() { return 4; }
        @Override int soft() { return 1; }
        @Override int binds() { return super.binds() + 3; }
        @Override int weighs() { return super.weighs() + 1; }
    }

    static class Lie extends Praise {
        @Override int number() { return 5; }
        @Override int soft() { return fresh() > 4 ? super.soft() * 2 : 0; }
    }

    static Gossip make(int kind, int figure, int woman) {
        Gossip g = kind == 0 ? new Gossip() : kind == 1 ? new Praise() : kind == 2 ? new Mud()
            : kind == 3 ? new Hearsay() : kind == 4 ? new Truth() : new Lie();
        g.figure = figure;
        g.woman = woman;
        return g;
    }

    static Gossip copy(Gossip from, int kind) {
        Gossip to = make(kind, from.figure, from.woman);
        to.worn = from.worn;
        to.in = from.in;
        return to;
    }

    static final class World {
        final List<Gossip> all = new ArrayList<>();
        int robbed, day, falls;

        World copy() {
            World w = new World();
            for (Gossip g : all) w.all.add(ModelTests.copy(g, g.number()));
            w.robbed = robbed;
            w.day = day;
            return w;
        }

        World after(int n) {
            World w = copy();
            for (int i = 0; i < n; i++) w.passDay();
            return w;
        }

        List<Gossip> nest(int woman) {
            List<Gossip> list = new ArrayList<>();
            for (Gossip g : all) if (g.in && g.woman == woman) list.add(g);
            return list;
        }

        boolean fall(int woman) {
            List<Gossip> nest = nest(woman);
            if (nest.isEmpty()) return false;
            for (Gossip g : nest) g.in = false;
            robbed = Math.min(999, robbed + 1);
            falls++;
            return true;
        }

        /** The women whose nests fell. */
        List<Integer> passDay() {
            List<Integer> fell = new ArrayList<>();
            day++;
            if (day % 3 == 0) for (Gossip g : all) if (!g.unwearing && g.worn < 9) g.worn++;
            for (int w = 0; w < 4; w++) {
                for (Gossip g : all) {
                    if (g.woman == w && !g.in && !g.hushed) {
                        g.in = true;
                        break;
                    }
                }
            }
            for (int w = 0; w < 4; w++) if (!holds(nest(w)) && fall(w)) fell.add(w);
            return fell;
        }

        int bits(List<Gossip> list) {
            int b = 0;
            for (int i = 0; i < all.size(); i++) if (list.contains(all.get(i))) b += 1 << i;
            return b;
        }

        List<Gossip> set(int bits) {
            List<Gossip> list = new ArrayList<>();
            for (int i = 0; i < all.size(); i++) if ((bits & 1 << i) != 0) list.add(all.get(i));
            return list;
        }

        List<Gossip> inNests() {
            List<Gossip> list = new ArrayList<>();
            for (Gossip g : all) if (g.in) list.add(g);
            return list;
        }
    }

    static int sum(List<Gossip> list, ToIntFunction<Gossip> of) {
        int sum = 0;
        for (Gossip g : list) sum += of.applyAsInt(g);
        return sum;
    }

    static int soft(List<Gossip> list) { return sum(list, Gossip::soft); }

    static boolean holds(List<Gossip> list) { return sum(list, Gossip::binds) >= sum(list, Gossip::weighs); }

    static final class Model {
        World now = new World();
        World image = null;
        String text = "";
        final List<Integer> row = new ArrayList<>();
        final int[] refused = new int[7];

        int no(int r) { refused[-r]++; return r; }
        boolean noWoman(int w) { return w < 0 || w > 3; }
        boolean noSaying(int s) { return s < 0 || s >= now.all.size(); }

        int letter(int c) {
            if (c < 0) return no(-4);
            if (c > 255 || text.length() == 96) return no(-6);
            text += (char) c;
            return text.length();
        }

        /** Whether some text of statements begins with this one. */
        static boolean canGoOn(String s) {
            if (s.isEmpty()) return true;
            for (String ending : new String[] {"", ";", "0;", "00;", "g00;"}) {
                if ((s + ending).matches("(s[gpmhtl]\\d\\d;|[tb]\\d;|[wad]\\d\\d;)+")) return true;
            }
            return false;
        }

        int close() {
            String told = text;
            text = "";
            for (int i = 0; i < told.length(); i++) if (!canGoOn(told.substring(0, i + 1))) return -1000 - i;
            if (!told.endsWith(";")) return -1000 - told.length();
            World w = now.copy();
            int place = 0, many = 0;
            for (String st : told.split(";")) {
                if (!tell(w, st)) return -2000 - place;
                place += st.length() + 1;
                many++;
            }
            now = w;
            return many;
        }

        static boolean tell(World w, String st) {
            int d1 = st.charAt(1) - '0', d2 = st.length() > 2 ? st.charAt(2) - '0' : 0;
            boolean known = d1 < w.all.size();
            switch (st.charAt(0)) {
                case 's': {
                    int woman = st.charAt(3) - '0';
                    if (w.all.size() == 9 || woman > 3) return false;
                    w.all.add(make("gpmhtl".indexOf(st.charAt(1)), d2, woman));
                    return true;
                }
                case 't':
                    if (known) w.all.get(d1).in = !w.all.get(d1).in;
                    return known;
                case 'w':
                    if (known) w.all.get(d1).worn = d2;
                    return known;
                case 'a':
                    if (!known || d2 > 3) return false;
                    w.all.get(d1).woman = d2;
                    w.all.get(d1).in = false;
                    return true;
                case 'b':
                    if (d1 < 4) w.fall(d1);
                    return d1 < 4;
                default: {
                    int n = d1 * 10 + d2;
                    if (n == 0 || n > 60 || w.day + n > 999) return false;
                    for (int i = 0; i < n; i++) w.passDay();
                    return true;
                }
            }
        }

        int saying(int s, int what) {
            if (noSaying(s)) return no(-1);
            if (what < 0 || what > 7) return no(-2);
            Gossip g = now.all.get(s);
            return new int[] {g.number(), g.figure, g.woman, g.worn, g.in ? 1 : 0, g.soft(), g.binds(), g.weighs()}[what];
        }

        int nest(int w, int what) {
            if (noWoman(w)) return no(-1);
            if (what < 0 || what > 5) return no(-2);
            List<Gossip> n = now.nest(w);
            int b = sum(n, Gossip::binds), x = sum(n, Gossip::weighs);
            return new int[] {now.bits(n), soft(n), b, x, b >= x ? 1 : 0, b >= x ? 0 : x - b}[what];
        }

        int takes(int s) {
            if (noSaying(s)) return no(-1);
            Gossip g = now.all.get(s);
            g.in = !g.in;
            return g.in ? 1 : 0;
        }

        int wears(int s, int v) {
            if (noSaying(s)) return no(-1);
            if (v < 0) return no(-4);
            if (v > 9) return no(-6);
            int old = now.all.get(s).worn;
            now.all.get(s).worn = v;
            return old;
        }

        int concerns(int s, int w) {
            if (noSaying(s) || noWoman(w)) return no(-1);
            Gossip g = now.all.get(s);
            int old = g.woman;
            g.woman = w;
            g.in = false;
            return old;
        }

        int boy(int w) {
            if (noWoman(w)) return no(-1);
            int many = now.nest(w).size();
            if (many == 0) return no(-3);
            now.fall(w);
            return many;
        }

        int turn(int s, int kind, int figure) {
            if (noSaying(s)) return no(-1);
            if (kind < 0 || kind > 5) return no(-2);
            if (figure < 0) return no(-4);
            if (figure > 9) return no(-6);
            Gossip old = now.all.get(s);
            Gossip g = copy(old, kind);
            g.figure = figure;
            now.all.set(s, g);
            return 10 * old.number() + old.figure;
        }

        int days(int n) {
            if (n < 1) return no(-4);
            if (n > 60 || now.day + n > 999) return no(-6);
            for (int i = 0; i < n; i++) now.passDay();
            return now.robbed;
        }

        int nestThen(int w, int n, int what) {
            if (noWoman(w)) return no(-1);
            if (n < 0) return no(-4);
            if (n > 60) return no(-6);
            if (what < 0 || what > 3) return no(-2);
            World then = now.after(n);
            List<Gossip> nest = then.nest(w);
            return new int[] {then.bits(nest), soft(nest), sum(nest, Gossip::binds), sum(nest, Gossip::weighs)}[what];
        }

        int robbedThen(int n) { return n < 0 ? no(-4) : n > 60 ? no(-6) : now.after(n).robbed; }

        int falls(int w) {
            if (noWoman(w)) return no(-1);
            World then = now.copy();
            for (int d = 1; d <= 60; d++) if (then.passDay().contains(w)) return d;
            return -9;
        }

        int first(int what) {
            if (what < 0 || what > 2) return no(-2);
            if (what == 2) {
                for (int n = 0; n <= 60; n++) {
                    World a = now.after(n), b = now.after(n + 1);
                    if (a.bits(a.inNests()) == b.bits(b.inNests())) return n;
                }
                return -9;
            }
            int which = -9, when = -9;
            for (int w = 3; w >= 0; w--) {
                World then = now.copy();
                for (int d = 1; d <= 60; d++) {
                    if (then.passDay().contains(w)) {
                        if (when == -9 || d <= when) {
                            which = w;
                            when = d;
                        }
                        break;
                    }
                }
            }
            return what == 0 ? which : when;
        }

        int cushion(int what) {
            if (what < 0 || what > 1) return no(-2);
            for (int n = 0; n <= 60; n++) {
                World then = now.after(n);
                for (int w = 0; w < 4; w++) if (soft(then.nest(w)) >= 20) return what == 0 ? n : w;
            }
            return -9;
        }

        int more(int w) {
            if (noWoman(w)) return no(-1);
            int best = -9;
            for (int bits = (1 << now.all.size()) - 1; bits >= 0; bits--) {
                boolean may = true;
                for (Gossip g : now.set(bits)) may &= g.woman == w && !g.in;
                List<Gossip> with = now.nest(w);
                with.addAll(now.set(bits));
                if (may && holds(with) && (best < 0 || now.set(bits).size() <= now.set(best).size())) best = bits;
            }
            return best;
        }

        int softest(int w, int what) {
            if (noWoman(w)) return no(-1);
            if (what < 0 || what > 1) return no(-2);
            int best = 0;
            for (int bits = (1 << now.all.size()) - 1; bits >= 0; bits--) {
                boolean may = holds(now.set(bits));
                for (Gossip g : now.set(bits)) may &= g.woman == w;
                if (may && soft(now.set(bits)) >= soft(now.set(best))) best = bits;
            }
            return what == 0 ? best : soft(now.set(best));
        }

        int prop(int w) {
            if (noWoman(w)) return no(-1);
            List<Gossip> props = new ArrayList<>();
            for (Gossip g : now.nest(w)) {
                List<Gossip> rest = now.nest(w);
                rest.remove(g);
                if (!holds(rest)) props.add(g);
            }
            return now.bits(props);
        }

        int lighten(int w) {
            if (noWoman(w)) return no(-1);
            int best = -9;
            for (int bits = (1 << now.all.size()) - 1; bits >= 0; bits--) {
                List<Gossip> out = now.set(bits), rest = now.nest(w);
                if (!rest.containsAll(out)) continue;
                rest.removeAll(out);
                if (holds(rest) && (best < 0 || out.size() <= now.set(best).size())) best = bits;
            }
            return best;
        }

        int about(int s, int what) {
            if (noSaying(s)) return no(-1);
            if (what < 0 || what > 1) return no(-2);
            int best = -9, much = 0;
            for (int w = 3; w >= 0; w--) {
                World then = now.copy();
                then.all.get(s).woman = w;
                then.all.get(s).in = true;
                List<Gossip> nest = then.nest(w);
                if (holds(nest) && soft(nest) >= much) {
                    best = w;
                    much = soft(nest);
                }
            }
            return what == 0 ? best : much;
        }

        int known() {
            int[] many = new int[4];
            for (Gossip g : now.all) many[g.woman]++;
            int best = 3;
            for (int w = 3; w >= 0; w--) if (many[w] >= many[best]) best = w;
            return best;
        }

        int lodge() {
            int best = -9;
            for (int w = 3; w >= 0; w--) {
                List<Gossip> n = now.nest(w);
                if (n.isEmpty() || !holds(n)) continue;
                if (best < 0 || soft(n) >= soft(now.nest(best))) best = w;
            }
            return best;
        }

        int fullest() {
            int best = 3;
            for (int w = 3; w >= 0; w--) if (now.nest(w).size() >= now.nest(best).size()) best = w;
            return now.nest(best).isEmpty() ? -9 : best;
        }

        int talk() {
            int bits = 0;
            for (int i = 0; i < now.all.size(); i++) if (!now.all.get(i).in) bits |= 1 << i;
            return bits;
        }

        int spare(int n, boolean hush) {
            if (n < 1) return no(-4);
            if (n > 60) return no(-6);
            int best = -9, fewest = now.after(n).falls;
            for (int s = 0; s < now.all.size(); s++) {
                World then = now.copy();
                if (hush) then.all.remove(s);
                else then.all.get(s).unwearing = true;
                for (int i = 0; i < n; i++) then.passDay();
                if (then.falls < fewest) {
                    fewest = then.falls;
                    best = s;
                }
            }
            return best;
        }

        int add(int w, int n, int what) {
            if (noWoman(w)) return no(-1);
            if (n < 0) return no(-4);
            if (n > 60) return no(-6);
            if (what < 0 || what > 1) return no(-2);
            if (now.all.size() == 9) return -9;
            int best = 5, much = -1;
            for (int k = 5; k >= 0; k--) {
                World then = now.copy();
                then.all.add(make(k, 9, w));
                int got = soft(then.after(n).nest(w));
                if (got >= much) {
                    best = k;
                    much = got;
                }
            }
            return what == 0 ? best : much;
        }

        int gap(int a, int b, int n, int x, int y) {
            World then = now.copy();
            if (x == 1 && then.all.size() < 9) then.all.add(make(4, 5, b));
            if (y == 1 && then.all.size() < 9) then.all.add(make(4, 5, a));
            then = then.after(n);
            return soft(then.nest(a)) - soft(then.nest(b));
        }

        int two(int a, int b, int n) {
            if (noWoman(a) || noWoman(b) || a == b) return no(-1);
            if (n < 0) return no(-4);
            if (n > 30) return no(-6);
            for (int x = 0; x < 2; x++) {
                for (int y = 0; y < 2; y++) {
                    int has = gap(a, b, n, x, y);
                    boolean firstWants = gap(a, b, n, 1 - x, y) > has;
                    boolean otherWants = -gap(a, b, n, x, 1 - y) > -has;
                    if (!firstWants && !otherWants) return 10 * x + y;
                }
            }
            return -9;
        }

        static BigInteger wet(World w, int woman, int n, int t) {
            if (n == 0) return w.nest(woman).isEmpty() ? BigInteger.ZERO : BigInteger.ONE;
            World rained = w.copy();
            for (Gossip g : rained.inNests()) g.worn = Math.min(9, g.worn + 1);
            return wet(rained.after(1), woman, n - 1, t)
                .add(wet(w.after(1), woman, n - 1, t).multiply(BigInteger.valueOf(t - 1)));
        }

        static long part(BigInteger above, BigInteger below, int part) {
            return (part == 0 ? above : below).divide(above.gcd(below)).longValueExact();
        }

        long rain(int w, int n, int t, int part) {
            if (noWoman(w)) return 4000000000000000000L - no(-1);
            if (n < 0 || t < 2) return 4000000000000000000L - no(-4);
            if (n > 7 || t > 20) return 4000000000000000000L - no(-6);
            if (part < 0 || part > 1) return 4000000000000000000L - no(-2);
            return part(wet(now, w, n, t), BigInteger.valueOf(t).pow(n), part);
        }

        long mean(int part) {
            if (part < 0 || part > 1) return 4000000000000000000L - no(-2);
            int many = 0, much = 0;
            for (int w = 0; w < 4; w++) {
                if (now.nest(w).isEmpty()) continue;
                many++;
                much += soft(now.nest(w));
            }
            return part(BigInteger.valueOf(much), BigInteger.valueOf(many == 0 ? 1 : many), part);
        }

        int whatWas(int s, int what) {
            if (noSaying(s)) return no(-1);
            if (what < 0 || what > 1) return no(-2);
            int bits = 0;
            for (int c = 0; c < (what == 0 ? 6 : 10); c++) {
                World then = now.copy();
                Gossip g = copy(now.all.get(s), what == 0 ? c : now.all.get(s).number());
                if (what == 1) g.figure = c;
                then.all.set(s, g);
                boolean fits = true;
                for (int d = 0; d < row.size(); d++) fits &= soft(then.after(d).nest(g.woman)) == row.get(d);
                if (fits) bits |= 1 << c;
            }
            return bits;
        }

        int row(int v) {
            if (v < 0) return no(-4);
            if (v > 99 || row.size() == 16) return no(-6);
            row.add(v);
            return row.size();
        }

        int judge() {
            int answer = -9;
            for (int d = row.size() - 1; d >= 0; d--) if (now.after(d).inNests().size() != row.get(d)) answer = d;
            row.clear();
            return answer;
        }

        int clear() {
            int many = row.size();
            row.clear();
            return many;
        }

        int lots(int n, int z, int what) {
            if (n < 1) return no(-4);
            if (n > 20) return no(-6);
            if (what < 0 || what > 1) return no(-2);
            BigInteger seed = BigInteger.valueOf(z), word = BigInteger.ONE.shiftLeft(32);
            int falls = 0, soft = 0;
            for (int i = 0; i < n; i++) {
                World then = now.copy();
                for (Gossip g : then.all) {
                    seed = seed.multiply(BigInteger.valueOf(1664525)).add(BigInteger.valueOf(1013904223)).mod(word);
                    g.woman = seed.clearBit(31).shiftRight(8).mod(BigInteger.valueOf(4)).intValue();
                    g.in = false;
                }
                then = then.copy();
                for (int d = 0; d < 15; d++) then.passDay();
                falls += then.falls;
                soft += soft(then.inNests());
            }
            return what == 0 ? falls : soft;
        }

        int image() {
            image = now.copy();
            return now.day;
        }

        int on() {
            if (image == null) return no(-3);
            now = image.copy();
            return now.day;
        }

        int count(int what) {
            switch (what) {
                case 0: return now.all.size();
                case 1: return now.day;
                case 2: return now.robbed;
                case 3: return now.bits(now.inNests());
                case 4: return soft(now.inNests());
                case 5: return sum(now.all, g -> g.worn);
                case 6: return row.size();
                case 7: return text.length();
                default: return what >= 11 && what <= 16 ? refused[what - 10] : -9;
            }
        }
    }

    // ---- runs by lot ----

    private static long seed = 20261118L;

    private static int below(int m) {
        seed = seed * 6364136223846793005L + 1442695040888963407L;
        return (int) ((seed >>> 33) % m);
    }

    /** Mostly from least to most, now and then just or far outside. */
    private static int number(int least, int most) {
        int odd = below(60);
        if (odd == 0) return least - 1;
        if (odd == 1) return most + 1;
        if (odd == 2) return below(2) == 0 ? Integer.MIN_VALUE : Integer.MAX_VALUE;
        return least + below(most - least + 1);
    }

    private static String statement(int sayings) {
        int s = below(12) == 0 ? below(10) : below(Math.max(1, sayings));
        int w = below(20) == 0 ? below(10) : below(4);
        switch (below(10)) {
            case 0: case 1: case 2: case 3: case 4: return "s" + "gpmhtl".charAt(below(6)) + below(10) + w + ";";
            case 5: return "t" + s + ";";
            case 6: return "w" + s + below(10) + ";";
            case 7: return "a" + s + w + ";";
            case 8: return "b" + w + ";";
            default: return below(6) == 0 ? "d" + below(10) + below(10) + ";" : "d0" + (1 + below(9)) + ";";
        }
    }

    private static String someText(int sayings) {
        StringBuilder b = new StringBuilder();
        int many = below(4) == 0 ? below(25) : 1 + below(4);
        for (int i = 0; i < many; i++) b.append(statement(Math.min(9, sayings + i)));
        if (below(6) == 0 && b.length() > 0) {
            int at = below(b.length());
            if (below(2) == 0) b.setCharAt(at, (char) (below(3) == 0 ? below(256) : "sgt0;9:/wabdx".charAt(below(13))));
            else b.setLength(at);
        }
        return b.toString();
    }

    private static boolean due(int run, String call, long got, long want) {
        calls++;
        if (got == want) return true;
        wrong++;
        System.out.println("model run " + run + ": " + call + " answered " + got + ", due is " + want);
        return false;
    }

    private static boolean tell(int run, NestsOfTalk x, Model m, String text) {
        for (char c : text.toCharArray()) if (!due(run, "letter(" + (int) c + ")", x.letter(c), m.letter(c))) return false;
        return due(run, "close() of " + text, x.close(), m.close());
    }

    private static boolean oneCall(int run, NestsOfTalk x, Model m) {
        int s = below(8) == 0 ? number(0, 8) : m.now.all.isEmpty() ? 0 : below(m.now.all.size());
        int w = number(0, 3), what = number(0, 1), n = number(0, 60), f = number(0, 9);
        switch (below(46)) {
            case 0: { int c = number(0, 255); return due(run, "letter(" + c + ")", x.letter(c), m.letter(c)); }
            case 1: return due(run, "close()", x.close(), m.close());
            case 2: case 3: case 4: return tell(run, x, m, someText(m.now.all.size()));
            case 5: { int q = number(0, 7); return due(run, "saying(" + s + ", " + q + ")", x.saying(s, q), m.saying(s, q)); }
            case 6: { int q = number(0, 5); return due(run, "nest(" + w + ", " + q + ")", x.nest(w, q), m.nest(w, q)); }
            case 7: case 8: case 9: return due(run, "takes(" + s + ")", x.takes(s), m.takes(s));
            case 10: return due(run, "wears(" + s + ", " + f + ")", x.wears(s, f), m.wears(s, f));
            case 11: return due(run, "concerns(" + s + ", " + w + ")", x.concerns(s, w), m.concerns(s, w));
            case 12: return due(run, "boy(" + w + ")", x.boy(w), m.boy(w));
            case 13: case 14: {
                int k = number(0, 5);
                return due(run, "turn(" + s + ", " + k + ", " + f + ")", x.turn(s, k, f), m.turn(s, k, f));
            }
            case 15: {
                int d = below(10) == 0 ? number(1, 60) : number(1, 4);
                return due(run, "days(" + d + ")", x.days(d), m.days(d));
            }
            case 16: {
                int q = number(0, 3);
                return due(run, "nestThen(" + w + ", " + n + ", " + q + ")", x.nestThen(w, n, q), m.nestThen(w, n, q));
            }
            case 17: return due(run, "robbedThen(" + n + ")", x.robbedThen(n), m.robbedThen(n));
            case 18: return due(run, "falls(" + w + ")", x.falls(w), m.falls(w));
            case 19: { int q = number(0, 2); return due(run, "first(" + q + ")", x.first(q), m.first(q)); }
            case 20: return due(run, "cushion(" + what + ")", x.cushion(what), m.cushion(what));
            case 21: return due(run, "more(" + w + ")", x.more(w), m.more(w));
            case 22: return due(run, "softest(" + w + ", " + what + ")", x.softest(w, what), m.softest(w, what));
            case 23: return due(run, "prop(" + w + ")", x.prop(w), m.prop(w));
            case 24: return due(run, "lighten(" + w + ")", x.lighten(w), m.lighten(w));
            case 25: return due(run, "about(" + s + ", " + what + ")", x.about(s, what), m.about(s, what));
            case 26: return due(run, "known()", x.known(), m.known());
            case 27: return due(run, "lodge()", x.lodge(), m.lodge());
            case 28: return due(run, "fullest()", x.fullest(), m.fullest());
            case 29: return due(run, "talk()", x.talk(), m.talk());
            case 30: { int d = number(1, 60); return due(run, "keep(" + d + ")", x.keep(d), m.spare(d, false)); }
            case 31: { int d = number(1, 60); return due(run, "hush(" + d + ")", x.hush(d), m.spare(d, true)); }
            case 32: return due(run, "add(" + w + ", " + n + ", " + what + ")", x.add(w, n, what), m.add(w, n, what));
            case 33: case 34: {
                int b = number(0, 3), d = number(0, 30);
                return due(run, "two(" + w + ", " + b + ", " + d + ")", x.two(w, b, d), m.two(w, b, d));
            }
            case 35: case 36: {
                int d = below(4) == 0 ? number(0, 7) : number(0, 4), t = number(2, 20);
                return due(run, "rain(" + w + ", " + d + ", " + t + ", " + what + ")",
                    x.rain(w, d, t, what), m.rain(w, d, t, what));
            }
            case 37: return due(run, "mean(" + what + ")", x.mean(what), m.mean(what));
            case 38: return due(run, "whatWas(" + s + ", " + what + ")", x.whatWas(s, what), m.whatWas(s, what));
            case 39: { int v = number(0, below(3) == 0 ? 99 : 3); return due(run, "row(" + v + ")", x.row(v), m.row(v)); }
            case 40: return rowThatMayBeSo(run, x, m);
            case 41: return below(3) > 0 || due(run, "clear()", x.clear(), m.clear());
            case 42: {
                int d = below(4) == 0 ? number(1, 20) : number(1, 3), z = below(1 << 30) * 4 + below(4);
                return due(run, "lots(" + d + ", " + z + ", " + what + ")", x.lots(d, z, what), m.lots(d, z, what));
            }
            case 43: return below(3) > 0 || due(run, "image()", x.image(), m.image());
            case 44: return below(3) > 0 || due(run, "on()", x.on(), m.on());
            default: { int q = number(-1, 18); return due(run, "count(" + q + ")", x.count(q), m.count(q)); }
        }
    }

    /** Rows by lot are hardly ever as days go, so this tells one that is, or is but for one number. */
    private static boolean rowThatMayBeSo(int run, NestsOfTalk x, Model m) {
        boolean judged = below(2) == 0;
        int s = m.now.all.isEmpty() ? -1 : below(m.now.all.size());
        if (!due(run, "clear()", x.clear(), m.clear())) return false;
        int many = 1 + below(16), spoilt = below(3) == 0 ? below(many) : -1;
        for (int d = 0; d < many; d++) {
            World then = m.now.after(d);
            int v = judged || s < 0 ? then.inNests().size() : soft(then.nest(m.now.all.get(s).woman));
            if (d == spoilt) v++;
            if (!due(run, "row(" + v + ")", x.row(v), m.row(v))) return false;
        }
        if (judged) return due(run, "judge()", x.judge(), m.judge());
        return due(run, "whatWas(" + s + ", 0)", x.whatWas(s, 0), m.whatWas(s, 0))
            && due(run, "whatWas(" + s + ", 1)", x.whatWas(s, 1), m.whatWas(s, 1));
    }

    /** Where DAY and ROBBED are near 999, or there already. */
    private static boolean farOn(int run, NestsOfTalk x, Model m) {
        String[] texts = {"sp00;", "sp01;sp02;sp03;sp00;", "sg00;sp00;sl91;", "b0;"};
        if (!tell(run, x, m, texts[below(4)])) return false;
        for (int i = 0; i < 16; i++) if (!due(run, "days(60)", x.days(60), m.days(60))) return false;
        int n = 1 + below(39);
        return due(run, "days(" + n + ")", x.days(n), m.days(n));
    }

    private static boolean allOfTheState(int run, NestsOfTalk x, Model m) {
        boolean so = true;
        for (int q = 0; q <= 16; q++) so &= due(run, "count(" + q + ") at the end", x.count(q), m.count(q));
        for (int s = 0; s < m.now.all.size(); s++) {
            for (int q = 0; q < 8; q++) so &= due(run, "saying(" + s + ", " + q + ") at the end", x.saying(s, q), m.saying(s, q));
        }
        return so;
    }

    public static void main(String[] args) {
        for (int run = 1; run <= RUNS && wrong < 20; run++) {
            NestsOfTalk x = new NestsOfTalk();
            Model m = new Model();
            long callsAhead = calls;
            boolean so = run % 4 > 0 || farOn(run, x, m);
            if (so) so = tell(run, x, m, someText(m.now.all.size()));
            while (calls - callsAhead < CALLS && so) so = oneCall(run, x, m);
            if (so) allOfTheState(run, x, m);
        }
        System.out.println(calls + " answers held against the model, " + wrong + " wrong");
        if (wrong != 0) System.exit(1);
    }
}
