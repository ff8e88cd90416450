import java.util.ArrayList;
import java.util.List;

/**
 * Every refusal of every call: each by itself, and, where more than one fits, the one that comes is told first. Each call is
 * tried with all its least and greatest numbers, with those just beyond them and with the utmost ints, one with another. A
 * refused call is held against a twin that was not called: but for how many refusals there were both must answer alike.
 */
public final class RefusalTests {
    private static final long LONG = 4000000000000000000L;
    private static final int LEAST = Integer.MIN_VALUE;
    private static final int MOST = Integer.MAX_VALUE;
    private static final int NOTHING = 0;

    private static int wrong = 0;
    private static int calls = 0;

    private interface Call {
        long of(NestsOfTalk x, int[] a);
    }

    private interface Maker {
        NestsOfTalk make();
    }

    /** Numbers to be tried for an argument, each with the refusal that it has (or NOTHING). */
    private record Argument(int[] values, int[] refusals) {
    }

    private static final Argument SAYING = new Argument(new int[] {0, 5, -1, 6, 9, LEAST, MOST}, new int[] {0, 0, -1, -1, -1, -1, -1});
    private static final Argument WOMAN = new Argument(new int[] {0, 3, -1, 4, LEAST, MOST}, new int[] {0, 0, -1, -1, -1, -1});
    private static final Argument ANY = new Argument(new int[] {0, -1, LEAST, MOST}, new int[] {0, 0, 0, 0});

    private static Argument what(int most) {
        return new Argument(new int[] {0, most, -1, most + 1, LEAST, MOST}, new int[] {0, 0, -2, -2, -2, -2});
    }

    private static Argument number(int least, int most) {
        return new Argument(new int[] {least, most, least - 1, most + 1, LEAST, MOST}, new int[] {0, 0, -4, -6, -4, -6});
    }

    // ---- objects that are called ----

    private static void letters(NestsOfTalk x, String text) {
        for (int i = 0; i < text.length(); i++) x.letter(text.charAt(i));
    }

    private static NestsOfTalk told(String text) {
        NestsOfTalk x = new NestsOfTalk();
        letters(x, text);
        x.close();
        return x;
    }

    /** Six sayings on DAY 3, nests of 0 and of 3 with something in them, an image that is not as it is now, a row, letters. */
    private static NestsOfTalk some() {
        NestsOfTalk x = told("sp01;d03;sg50;sm92;st43;sl80;sh62;t1;t3;w24;");
        x.image();
        x.wears(5, 2);
        x.row(2);
        x.row(3);
        letters(x, "t5");
        return x;
    }

    /** Nine sayings, DAY 999, ROBBED 999, 96 letters, 16 numbers in the row, an image. */
    private static NestsOfTalk full() {
        NestsOfTalk x = told("sp00;sp01;sp02;sp03;sp00;sp01;sp02;sp03;sg90;");
        for (int i = 0; i < 16; i++) x.days(60);
        x.days(39);
        x.image();
        x.takes(8);
        letters(x, "b0;".repeat(32));
        for (int i = 0; i < 16; i++) x.row(1);
        return x;
    }

    // ---- what they answer ----

    private static void state(NestsOfTalk x, List<Long> answers) {
        for (int what = 0; what < 8; what++) answers.add((long) x.count(what));
        for (int s = 0; s < x.count(0); s++) {
            for (int what = 0; what < 5; what++) answers.add((long) x.saying(s, what));
        }
        for (int woman = 0; woman < 4; woman++) answers.add((long) x.nest(woman, 0));
        answers.add((long) x.talk());
    }

    /** All that can be seen: as it is, what the letters tell, what the row is, the image, and days on from there. */
    private static List<Long> story(NestsOfTalk x, boolean imaged) {
        List<Long> answers = new ArrayList<>();
        state(x, answers);
        if (x.count(0) > 0) answers.add((long) x.whatWas(0, 0));
        x.letter(';');
        answers.add((long) x.close());
        answers.add((long) x.judge());
        state(x, answers);
        if (imaged) answers.add((long) x.on());
        answers.add((long) x.days(1));
        state(x, answers);
        return answers;
    }

    private static int[] refusals(NestsOfTalk x) {
        int[] many = new int[6];
        for (int i = 0; i < 6; i++) many[i] = x.count(11 + i);
        return many;
    }

    private static void due(String call, Object got, Object want) {
        if (got.equals(want)) return;
        wrong++;
        System.out.println("refusals: " + call + " answered " + got + ", due is " + want);
    }

    private static String words(String name, int[] a) {
        StringBuilder b = new StringBuilder(name).append("(");
        for (int i = 0; i < a.length; i++) b.append(i > 0 ? ", " : "").append(a[i]);
        return b.append(")").toString();
    }

    private static void refused(String name, Maker maker, boolean imaged, int refusal, boolean ofLong, Call call, int... a) {
        calls++;
        String words = words(name, a);
        NestsOfTalk x = maker.make();
        NestsOfTalk twin = maker.make();
        int[] want = refusals(twin);
        want[-refusal - 1]++;
        due(words, call.of(x, a), ofLong ? LONG - refusal : (long) refusal);
        int[] got = refusals(x);
        for (int i = 0; i < 6; i++) due("count(" + (11 + i) + ") behind " + words, got[i], want[i]);
        due("what there is behind " + words, story(x, imaged), story(twin, imaged));
    }

    private static void taken(String name, Maker maker, Call call, int... a) {
        calls++;
        NestsOfTalk x = maker.make();
        int[] want = refusals(x);
        call.of(x, a);
        int[] got = refusals(x);
        for (int i = 0; i < 6; i++) due("count(" + (11 + i) + ") behind " + words(name, a), got[i], want[i]);
    }

    // ---- all numbers with all others ----

    private static int toldFirst(int[] order, boolean[] fits) {
        for (int refusal : order) {
            if (fits[-refusal]) return refusal;
        }
        return NOTHING;
    }

    private static void each(String name, boolean ofLong, int[] order, Call call, Argument... arguments) {
        int[] at = new int[arguments.length];
        while (true) {
            int[] a = new int[arguments.length];
            boolean[] fits = new boolean[7];
            for (int i = 0; i < a.length; i++) {
                a[i] = arguments[i].values()[at[i]];
                fits[-arguments[i].refusals()[at[i]]] = true;
            }
            if (name.equals("two") && a[0] == a[1]) fits[1] = true;
            int refusal = toldFirst(order, fits);
            if (refusal == NOTHING) taken(name, RefusalTests::some, call, a);
            else refused(name, RefusalTests::some, true, refusal, ofLong, call, a);
            int next = 0;
            while (next < at.length && ++at[next] == arguments[next].values().length) at[next++] = 0;
            if (next == at.length) return;
        }
    }

    private static void whatIsTold() {
        each("letter", false, new int[] {-4, -6}, (x, a) -> x.letter(a[0]), number(0, 255));
        each("saying", false, new int[] {-1, -2}, (x, a) -> x.saying(a[0], a[1]), SAYING, what(7));
        each("nest", false, new int[] {-1, -2}, (x, a) -> x.nest(a[0], a[1]), WOMAN, what(5));
        each("takes", false, new int[] {-1}, (x, a) -> x.takes(a[0]), SAYING);
        each("wears", false, new int[] {-1, -4, -6}, (x, a) -> x.wears(a[0], a[1]), SAYING, number(0, 9));
        each("concerns", false, new int[] {-1}, (x, a) -> x.concerns(a[0], a[1]), SAYING, WOMAN);
        each("boy", false, new int[] {-1}, (x, a) -> x.boy(a[0]), WOMAN);
        each("turn", false, new int[] {-1, -2, -4, -6}, (x, a) -> x.turn(a[0], a[1], a[2]), SAYING, what(5), number(0, 9));
        each("days", false, new int[] {-4, -6}, (x, a) -> x.days(a[0]), number(1, 60));
        each("row", false, new int[] {-4, -6}, (x, a) -> x.row(a[0]), number(0, 99));
    }

    private static void whatIsThought() {
        each("nestThen", false, new int[] {-1, -4, -6, -2}, (x, a) -> x.nestThen(a[0], a[1], a[2]), WOMAN, number(0, 60), what(3));
        each("robbedThen", false, new int[] {-4, -6}, (x, a) -> x.robbedThen(a[0]), number(0, 60));
        each("falls", false, new int[] {-1}, (x, a) -> x.falls(a[0]), WOMAN);
        each("first", false, new int[] {-2}, (x, a) -> x.first(a[0]), what(2));
        each("cushion", false, new int[] {-2}, (x, a) -> x.cushion(a[0]), what(1));
        each("more", false, new int[] {-1}, (x, a) -> x.more(a[0]), WOMAN);
        each("softest", false, new int[] {-1, -2}, (x, a) -> x.softest(a[0], a[1]), WOMAN, what(1));
        each("prop", false, new int[] {-1}, (x, a) -> x.prop(a[0]), WOMAN);
        each("lighten", false, new int[] {-1}, (x, a) -> x.lighten(a[0]), WOMAN);
        each("about", false, new int[] {-1, -2}, (x, a) -> x.about(a[0], a[1]), SAYING, what(1));
        each("keep", false, new int[] {-4, -6}, (x, a) -> x.keep(a[0]), number(1, 60));
        each("hush", false, new int[] {-4, -6}, (x, a) -> x.hush(a[0]), number(1, 60));
        each("add", false, new int[] {-1, -4, -6, -2}, (x, a) -> x.add(a[0], a[1], a[2]), WOMAN, number(0, 60), what(1));
        each("two", false, new int[] {-1, -4, -6}, (x, a) -> x.two(a[0], a[1], a[2]), WOMAN, WOMAN, number(0, 30));
        each("rain", true, new int[] {-1, -4, -6, -2}, (x, a) -> x.rain(a[0], a[1], a[2], a[3]),
            WOMAN, number(0, 7), number(2, 20), what(1));
        each("mean", true, new int[] {-2}, (x, a) -> x.mean(a[0]), what(1));
        each("whatWas", false, new int[] {-1, -2}, (x, a) -> x.whatWas(a[0], a[1]), SAYING, what(1));
        each("lots", false, new int[] {-4, -6, -2}, (x, a) -> x.lots(a[0], a[1], a[2]), number(1, 20), ANY, what(1));
    }

    // ---- refusals that rest on what there is ----

    private static void whereItIsFull() {
        for (int c : new int[] {0, ';', 255, 256, MOST}) {
            refused("letter", RefusalTests::full, true, -6, false, (x, a) -> x.letter(a[0]), c);
        }
        for (int c : new int[] {-1, LEAST}) refused("letter", RefusalTests::full, true, -4, false, (x, a) -> x.letter(a[0]), c);
        for (int v : new int[] {0, 1, 99, 100, MOST}) {
            refused("row", RefusalTests::full, true, -6, false, (x, a) -> x.row(a[0]), v);
        }
        for (int v : new int[] {-1, LEAST}) refused("row", RefusalTests::full, true, -4, false, (x, a) -> x.row(a[0]), v);
        for (int n : new int[] {1, 60, 61, MOST}) {
            refused("days", RefusalTests::full, true, -6, false, (x, a) -> x.days(a[0]), n);
        }
        for (int n : new int[] {0, -1, LEAST}) refused("days", RefusalTests::full, true, -4, false, (x, a) -> x.days(a[0]), n);
        for (int s : new int[] {-1, 9, 10, 31, 32, LEAST, MOST}) {
            refused("saying", RefusalTests::full, true, -1, false, (x, a) -> x.saying(a[0], 0), s);
            refused("takes", RefusalTests::full, true, -1, false, (x, a) -> x.takes(a[0]), s);
            refused("about", RefusalTests::full, true, -1, false, (x, a) -> x.about(a[0], 0), s);
            refused("whatWas", RefusalTests::full, true, -1, false, (x, a) -> x.whatWas(a[0], 0), s);
        }
        // Where nine sayings are there add answers -9, but what is refused is refused.
        refused("add", RefusalTests::full, true, -1, false, (x, a) -> x.add(a[0], a[1], a[2]), 4, 0, 0);
        refused("add", RefusalTests::full, true, -4, false, (x, a) -> x.add(a[0], a[1], a[2]), 0, -1, 0);
        refused("add", RefusalTests::full, true, -6, false, (x, a) -> x.add(a[0], a[1], a[2]), 0, 61, 0);
        refused("add", RefusalTests::full, true, -2, false, (x, a) -> x.add(a[0], a[1], a[2]), 0, 60, 2);
        taken("add", RefusalTests::full, (x, a) -> x.add(a[0], a[1], a[2]), 0, 60, 1);
    }

    private static NestsOfTalk onDay(int day) {
        NestsOfTalk x = told("sg50;");
        for (int to = 60; to <= day; to += 60) x.days(60);
        if (day % 60 > 0) x.days(day % 60);
        return x;
    }

    private static void whereDaysEnd() {
        for (int n = 1; n <= 60; n++) {
            int day = 999 - n;
            Maker there = () -> onDay(day);
            Maker further = () -> onDay(day + 1);
            taken("days", there, (x, a) -> x.days(a[0]), n);
            refused("days", further, false, -6, false, (x, a) -> x.days(a[0]), n);
        }
    }

    private static void whereItIsEmpty() {
        for (int woman : new int[] {1, 2}) refused("boy", RefusalTests::some, true, -3, false, (x, a) -> x.boy(a[0]), woman);
        for (int woman : new int[] {0, 1, 2, 3}) refused("boy", NestsOfTalk::new, false, -3, false, (x, a) -> x.boy(a[0]), woman);
        for (int woman : new int[] {-1, 4}) refused("boy", NestsOfTalk::new, false, -1, false, (x, a) -> x.boy(a[0]), woman);
        refused("on", NestsOfTalk::new, false, -3, false, (x, a) -> x.on());
        refused("on", () -> told("sg50;t0;d02;"), false, -3, false, (x, a) -> x.on());
        refused("saying", NestsOfTalk::new, false, -1, false, (x, a) -> x.saying(a[0], 0), 0);
        refused("takes", NestsOfTalk::new, false, -1, false, (x, a) -> x.takes(a[0]), 0);
        refused("wears", NestsOfTalk::new, false, -1, false, (x, a) -> x.wears(a[0], 0), 0);
        refused("concerns", NestsOfTalk::new, false, -1, false, (x, a) -> x.concerns(a[0], 0), 0);
        refused("turn", NestsOfTalk::new, false, -1, false, (x, a) -> x.turn(a[0], 0, 0), 0);
        refused("about", NestsOfTalk::new, false, -1, false, (x, a) -> x.about(a[0], 0), 0);
        refused("whatWas", NestsOfTalk::new, false, -1, false, (x, a) -> x.whatWas(a[0], 0), 0);
    }

    /** A CLOSE with a FAULT told of two more, and add thought of one more: there is still only one. */
    private static NestsOfTalk thoughtOfMore() {
        NestsOfTalk x = told("sg50;");
        letters(x, "sg51;sg52;b9;");
        x.close();
        return x;
    }

    private static NestsOfTalk thoughtOfOneMore() {
        NestsOfTalk x = told("sg50;");
        x.add(0, 0, 0);
        return x;
    }

    private static void whereMoreWasThoughtOf() {
        List<Maker> makers = List.of(RefusalTests::thoughtOfMore, RefusalTests::thoughtOfOneMore);
        for (Maker maker : makers) {
            refused("saying", maker, false, -1, false, (x, a) -> x.saying(a[0], 0), 1);
            refused("takes", maker, false, -1, false, (x, a) -> x.takes(a[0]), 1);
            refused("wears", maker, false, -1, false, (x, a) -> x.wears(a[0], 4), 1);
            refused("concerns", maker, false, -1, false, (x, a) -> x.concerns(a[0], 2), 1);
            refused("turn", maker, false, -1, false, (x, a) -> x.turn(a[0], 2, 4), 1);
            refused("about", maker, false, -1, false, (x, a) -> x.about(a[0], 0), 1);
            refused("whatWas", maker, false, -1, false, (x, a) -> x.whatWas(a[0], 0), 1);
        }
    }

    /** Calls that refuse nothing: whatever they answer, and also a close with a FAULT, no refusal is counted. */
    private static void neverRefused() {
        List<Maker> makers = List.of(NestsOfTalk::new, RefusalTests::some, RefusalTests::full);
        for (Maker maker : makers) {
            taken("close", maker, (x, a) -> x.close());
            taken("known", maker, (x, a) -> x.known());
            taken("lodge", maker, (x, a) -> x.lodge());
            taken("fullest", maker, (x, a) -> x.fullest());
            taken("talk", maker, (x, a) -> x.talk());
            taken("judge", maker, (x, a) -> x.judge());
            taken("clear", maker, (x, a) -> x.clear());
            taken("image", maker, (x, a) -> x.image());
            for (int what : new int[] {0, 7, 11, 16, -1, 8, 10, 17, LEAST, MOST}) {
                taken("count", maker, (x, a) -> x.count(a[0]), what);
            }
        }
        taken("close of a fault of kind 1", () -> told("x"), (x, a) -> x.close());
        taken("close of a fault of kind 2", () -> told("t0;"), (x, a) -> x.close());
        due("refusals of a fault of kind 1", refusals(told("x"))[0], 0);
        for (int many : refusals(told("sg00;x"))) due("refusals of a fault of kind 1", many, 0);
        for (int many : refusals(told("sg00;t1;"))) due("refusals of a fault of kind 2", many, 0);
    }

    /** How many there were goes on and on, each kind by itself; -5 never is. */
    private static void counted() {
        NestsOfTalk x = new NestsOfTalk();
        for (int i = 1; i <= 30; i++) {
            x.takes(0);
            x.mean(2);
            x.on();
            x.letter(-1);
            x.letter(256);
            int[] got = refusals(x);
            for (int kind = 0; kind < 6; kind++) due("count(" + (11 + kind) + ")", got[kind], kind == 4 ? 0 : i);
        }
    }

    public static void main(String[] args) {
        whatIsTold();
        whatIsThought();
        whereItIsFull();
        whereDaysEnd();
        whereItIsEmpty();
        whereMoreWasThoughtOf();
        neverRefused();
        counted();
        System.out.println(calls + " calls refused or taken as due, " + wrong + " answers wrong");
        if (wrong != 0) System.exit(1);
    }
}
