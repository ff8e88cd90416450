/**
 * Each sentence of the document that names a boundary, by a test of its own (refusals have RefusalTests). A test begins with
 * the sentence's words, so that what is wrong tells which sentence is broken. The answers are reckoned by hand.
 */
public final class EdgeTests {
    private static final int LEAST = Integer.MIN_VALUE;
    private static final int MOST = Integer.MAX_VALUE;

    private static String sentence = "";
    private static int sentences = 0;
    private static int answers = 0;
    private static int wrong = 0;

    private static void says(String words) {
        sentence = words;
        sentences++;
    }

    private static void due(String call, long got, long want) {
        answers++;
        if (got == want) return;
        wrong++;
        System.out.println("\"" + sentence + "\": " + call + " answered " + got + ", due is " + want);
    }

    private static int tell(NestsOfTalk x, String text) {
        for (int i = 0; i < text.length(); i++) x.letter(text.charAt(i));
        return x.close();
    }

    private static int closeOf(String text) {
        return tell(new NestsOfTalk(), text);
    }

    private static int statements(String text) {
        int many = 0;
        for (int i = 0; i < text.length(); i++) if (text.charAt(i) == ';') many++;
        return many;
    }

    private static NestsOfTalk told(String text) {
        return onDay(0, text);
    }

    /** Told on a DAY to which nothing was there. */
    private static NestsOfTalk onDay(int day, String text) {
        NestsOfTalk x = new NestsOfTalk();
        for (int to = 60; to <= day; to += 60) x.days(60);
        if (day % 60 > 0) x.days(day % 60);
        due("DAY", x.count(1), day);
        due("close() of " + text, tell(x, text), statements(text));
        return x;
    }

    /** Told where all that is told in it is IN NESTS then. */
    private static NestsOfTalk nested(String text) {
        NestsOfTalk x = told(text);
        for (int s = 0; s < x.count(0); s++) due("takes(" + s + ")", x.takes(s), 1);
        return x;
    }

    private static void rowOf(NestsOfTalk x, int... numbers) {
        x.clear();
        for (int i = 0; i < numbers.length; i++) due("row(" + numbers[i] + ")", x.row(numbers[i]), i + 1);
    }

    private static void fraction(String call, long above, long below, long wantAbove, long wantBelow) {
        due(call + " above the line", above, wantAbove);
        due(call + " below the line", below, wantBelow);
    }

    private static void rainIs(NestsOfTalk x, int woman, int n, int t, long above, long below) {
        fraction("rain(" + woman + ", " + n + ", " + t + ")", x.rain(woman, n, t, 0), x.rain(woman, n, t, 1), above, below);
    }

    private static void meanIs(NestsOfTalk x, long above, long below) {
        fraction("mean", x.mean(0), x.mean(1), above, below);
    }

    // ---- Terms: women, sayings, numbers that stop ----

    private static void womenAndSayings() {
        says("WOMEN 0 .. 3 (4), each with a NEST");
        NestsOfTalk x = nested("sg10;sg21;sg32;sg43;");
        for (int woman = 0; woman < 4; woman++) {
            due("nest(" + woman + ", 0)", x.nest(woman, 0), 1 << woman);
            due("nest(" + woman + ", 1)", x.nest(woman, 1), woman + 1);
            due("saying(" + woman + ", 2)", x.saying(woman, 2), woman);
        }
        due("nest(-1, 0)", x.nest(-1, 0), -1);
        due("nest(4, 0)", x.nest(4, 0), -1);

        says("SAYINGS 0 .. as they come (9 at most)");
        x = new NestsOfTalk();
        for (int s = 0; s < 9; s++) {
            due("saying(" + s + ", 0) ahead of it", x.saying(s, 0), -1);
            due("close() that tells saying " + s, tell(x, "sg" + s + "0;"), 1);
            due("count(0)", x.count(0), s + 1);
            for (int known = 0; known <= s; known++) due("saying(" + known + ", 1)", x.saying(known, 1), known);
        }
        due("saying(9, 0)", x.saying(9, 0), -1);
        due("close() that tells a tenth", tell(x, "sg00;"), -2000);
        due("count(0)", x.count(0), 9);
        due("takes(8)", x.takes(8), 1);
        due("nest(0, 0)", x.nest(0, 0), 256);
        due("nest(0, 1)", x.nest(0, 1), 8);

        says("FIGURE (0 .. 9)");
        for (int figure = 0; figure <= 9; figure++) {
            x = told("sg" + figure + "0;");
            due("saying(0, 1)", x.saying(0, 1), figure);
            due("turn(0, 0, 0)", x.turn(0, 0, 0), figure);
            due("turn(0, 5, 9)", x.turn(0, 5, 9), 0);
            due("saying(0, 1)", x.saying(0, 1), 9);
        }

        says("WORN (0 .. 9; 0 at first)");
        x = onDay(59, "sg50;");
        due("saying(0, 3)", x.saying(0, 3), 0);
        due("wears(0, 9)", x.wears(0, 9), 0);
        due("wears(0, 0)", x.wears(0, 0), 9);
        due("close() by which it is WORN 9", tell(x, "w09;"), 1);
        due("saying(0, 3)", x.saying(0, 3), 9);
        due("close() by which it is WORN 0", tell(x, "w00;"), 1);
        due("saying(0, 3)", x.saying(0, 3), 0);

        says("SAID (lying about, at first)");
        due("saying(0, 4)", x.saying(0, 4), 0);
        due("talk()", x.talk(), 1);
        due("nest(0, 0)", x.nest(0, 0), 0);
    }

    /** Four praises that fell on each of 249 days: ROBBED is 996. */
    private static NestsOfTalk robbedOften() {
        NestsOfTalk x = told("sp00;sp01;sp02;sp03;d60;d60;d60;d60;d09;");
        due("ROBBED", x.count(2), 996);
        return x;
    }

    private static void robbedStops() {
        says("ROBBED (0 .. 999): by a DAY");
        NestsOfTalk x = robbedOften();
        due("days(1): four fall", x.days(1), 999);
        due("days(1)", x.days(1), 999);
        due("days(60)", x.days(60), 999);
        due("count(2)", x.count(2), 999);

        says("ROBBED is 1 more (999 at most): by a boy");
        x = robbedOften();
        int[] robbed = {997, 998, 999, 999, 999};
        for (int want : robbed) {
            x.takes(0);
            due("boy(0)", x.boy(0), 1);
            due("count(2)", x.count(2), want);
        }

        says("ROBBED is 1 more (999 at most): by a boy in a CLOSE");
        x = robbedOften();
        for (int want : robbed) {
            due("close()", tell(x, "t3;b3;"), 2);
            due("count(2)", x.count(2), want);
        }

        says("ROBBED is 1 more (999 at most): by DAYS in a CLOSE");
        x = robbedOften();
        for (int i = 0; i < 2; i++) {
            due("close()", tell(x, "d01;"), 1);
            due("count(2)", x.count(2), 999);
        }

        says("In mind: ROBBED (999 at most)");
        x = robbedOften();
        due("robbedThen(0)", x.robbedThen(0), 996);
        due("robbedThen(1)", x.robbedThen(1), 999);
        due("robbedThen(60)", x.robbedThen(60), 999);
        due("count(2)", x.count(2), 996);

        says("how many NESTS FALL (it need not stop with ROBBED)");
        x = told("sp01;sp02;sp03;sp00;d60;d60;d60;d60;d60;");
        due("count(2)", x.count(2), 999);
        tell(x, "a11;a21;a31;sm20;sp50;");
        due("keep(3)", x.keep(3), 4);
        due("hush(3)", x.hush(3), 5);
        due("robbedThen(60)", x.robbedThen(60), 999);
        x = told("sp00;sp01;sp02;sp03;d60;d60;d60;d60;d60;a10;a20;a30;");
        due("lots(1, 0, 0): ABOUT 3, 1, 2 and 3, so three nests fall each day", x.lots(1, 0, 0), 45);
    }

    private static void daysStop() {
        says("DAY (0 .. 999; 0 at first)");
        NestsOfTalk x = new NestsOfTalk();
        due("count(1)", x.count(1), 0);
        x = onDay(939, "sg50;");
        due("days(61)", x.days(61), -6);
        due("days(60)", x.days(60), 0);
        due("count(1)", x.count(1), 999);
        due("days(1)", x.days(1), -6);
        due("days(60)", x.days(60), -6);
        due("count(1)", x.count(1), 999);
        x = onDay(940, "sg50;");
        due("days(60)", x.days(60), -6);
        due("count(1)", x.count(1), 940);
        due("days(59)", x.days(59), 0);
        due("count(1)", x.count(1), 999);
        x = onDay(998, "sg50;");
        due("days(2)", x.days(2), -6);
        due("days(1)", x.days(1), 0);
        due("count(1)", x.count(1), 999);
        due("saying(0, 3): 3 divides 999", x.saying(0, 3), 1);

        says("DAY above 999 (a FAULT)");
        x = onDay(939, "sg50;");
        due("close() to DAY 999", tell(x, "d60;"), 1);
        due("count(1)", x.count(1), 999);
        due("close() of a DAY more", tell(x, "d01;"), -2000);
        due("close() of 60 more", tell(x, "b0;d60;"), -2003);
        due("count(1)", x.count(1), 999);
        x = onDay(940, "sg50;");
        due("close() to DAY 1000", tell(x, "d60;"), -2000);
        due("count(1)", x.count(1), 940);
        x = onDay(990, "sg50;");
        due("close() to DAY 1000 by two", tell(x, "d05;d05;"), -2004);
        due("count(1)", x.count(1), 990);
        due("close() to DAY 999 by two", tell(x, "d05;d04;"), 2);
        due("count(1)", x.count(1), 999);
        due("close() without DAYS on DAY 999", tell(x, "w01;"), 1);
    }

    /** On DAY 999 all goes on in thought as on DAY 0; 3 divides both. */
    private static void daysGoOnInThought() {
        says("(In thought DAY may pass 999.)");
        NestsOfTalk x = onDay(999, "sg50;t0;");
        due("nestThen(0, 2, 1): DAY 1001", x.nestThen(0, 2, 1), 5);
        due("nestThen(0, 3, 1): DAY 1002", x.nestThen(0, 3, 1), 4);
        due("nestThen(0, 60, 1)", x.nestThen(0, 60, 1), 0);
        rowOf(x, 5, 5, 5, 4, 4, 4, 3, 3, 3, 2, 2, 2, 1, 1, 1, 0);
        due("whatWas(0, 0)", x.whatWas(0, 0), 1);
        due("whatWas(0, 1)", x.whatWas(0, 1), 32);
        due("add(0, 3, 1): two gossips of 4 and 8", x.add(0, 3, 1), 12);
        x = onDay(999, "sm90;sl70;");
        due("falls(0)", x.falls(0), 24);
        due("first(0)", x.first(0), 0);
        due("first(1)", x.first(1), 24);
        due("first(2)", x.first(2), 2);
        due("robbedThen(23)", x.robbedThen(23), 0);
        due("robbedThen(24)", x.robbedThen(24), 1);
        rowOf(x, 0, 1, 2, 2, 1);
        due("judge()", x.judge(), 4);
        x = onDay(999, "sh50;sh50;sp90;sp90;");
        due("cushion(0)", x.cushion(0), 10);
        x = onDay(999, "sm20;sp50;");
        due("keep(3)", x.keep(3), 0);
        due("hush(3)", x.hush(3), 1);
        rainIs(x, 0, 3, 4, 1, 4);
        x = onDay(999, "st90;sp20;sl90;sp00;sp90;sl00;");
        due("two(0, 1, 29)", x.two(0, 1, 29), 1);
        due("lots(1, 0, 0) of a praise", onDay(999, "sp40;").lots(1, 0, 0), 15);
        due("lots(1, 0, 1) of a gossip, WORN 5", onDay(999, "sg90;").lots(1, 0, 1), 4);
        due("count(1): DAY itself stays", x.count(1), 999);
        due("count(5): WORN itself, too", x.count(5), 0);
        x = onDay(998, "sg50;t0;");
        due("nestThen(0, 1, 1): DAY 999", x.nestThen(0, 1, 1), 4);
        due("nestThen(0, 3, 1): DAY 1001", x.nestThen(0, 3, 1), 4);
        due("nestThen(0, 4, 1): DAY 1002", x.nestThen(0, 4, 1), 3);
    }

    // ---- Terms: a close ----

    private static void lettersOfAClose() {
        says("A CLOSE is told in letters, one by one (96 at most)");
        NestsOfTalk x = new NestsOfTalk();
        String text = "sg50;".repeat(9) + "b0;".repeat(17);
        for (int i = 0; i < 96; i++) due("letter(), of 96", x.letter(text.charAt(i)), i + 1);
        due("letter(';'), the 97th", x.letter(';'), -6);
        due("letter('b'), the 97th", x.letter('b'), -6);
        due("count(7)", x.count(7), 96);
        due("close() of 96 letters", x.close(), 26);
        due("count(0)", x.count(0), 9);
        due("letter(';') behind it", x.letter(';'), 1);
        due("close() of 95 letters", closeOf("sg50;".repeat(7) + "b0;".repeat(20)), 27);
        due("close() that lacks something at 96", closeOf("b0;".repeat(31) + "d01"), -1096);
        due("close() that lacks more at 96", closeOf("b0;".repeat(31) + "sg0"), -1096);
        due("close() of a wrong last letter of 96", closeOf("b0;".repeat(31) + "b0x"), -1095);
        due("close() of a wrong last statement of 96", closeOf("b0;".repeat(31) + "b4;"), -2093);
        due("close() of a wrong first letter of 96", closeOf("x" + "b0;".repeat(31) + "b0"), -1000);

        says("A letter (0 .. 255) comes: how many there are");
        x = new NestsOfTalk();
        due("letter(0)", x.letter(0), 1);
        due("letter(255)", x.letter(255), 2);
        due("letter(-1)", x.letter(-1), -4);
        due("letter(256)", x.letter(256), -6);
        due("letter(1)", x.letter(1), 3);
        due("count(7)", x.count(7), 3);
        due("close()", x.close(), -1000);
        x.letter('b');
        x.letter('0');
        due("letter(';')", x.letter(';'), 3);
        due("close(): nothing of the letters ahead is left", x.close(), 1);

        says("The letters become a CLOSE, and are no more (with a FAULT neither)");
        x = new NestsOfTalk();
        for (String told : new String[] {"sg50;", "x", "sg5", "t9;"}) {
            tell(x, told);
            due("count(7) behind " + told, x.count(7), 0);
            due("close() of none", x.close(), -1000);
        }

        says("how many STATEMENTS");
        due("close() of one", closeOf("b0;"), 1);
        due("close() of 32", closeOf("b0;".repeat(32)), 32);

        says("At least one STATEMENT");
        due("close() of a new object", new NestsOfTalk().close(), -1000);
        due("close() of a sign behind nothing", closeOf(";"), -1000);
        due("close() of a sign behind a sign", closeOf("b0;;"), -1003);
    }

    /** Behind each beginning of a statement all 256 letters: with those that may stand there it goes on, with no other. */
    private static void eachLetterAtEachPlace() {
        says("kind 1 the place of the first letter with which no CLOSE can go on");
        String digits = "0123456789";
        String heads = "stwabd";
        String[][] places = {{"", heads}, {"s", "gpmhtl"}, {"sg", digits}, {"sl9", digits}, {"sg00", ";"}, {"t", digits}, {"t0", ";"},
            {"w", digits}, {"w9", digits}, {"w00", ";"}, {"a", digits}, {"a0", digits}, {"a03", ";"}, {"b", digits}, {"b3", ";"},
            {"d", digits}, {"d6", digits}, {"d60", ";"}, {"sg00;", heads}, {"t9;", heads}, {"b0;d61;", heads}};
        for (String[] place : places) {
            int at = place[0].length();
            for (char c = 0; c < 256; c++) {
                boolean goesOn = place[1].indexOf(c) >= 0;
                if (goesOn && c == ';') continue;
                due("close() of " + place[0] + " and letter " + (int) c, closeOf(place[0] + c), goesOn ? -1001 - at : -1000 - at);
                if (!goesOn) due("close() with more behind it", closeOf(place[0] + c + ";b0;"), -1000 - at);
            }
        }

        says("(the end, if something lacks)");
        for (String whole : new String[] {"sg00;", "t0;", "w00;", "a00;", "b0;", "d01;", "sg00;t0;w00;a00;b0;d01;"}) {
            for (int end = 0; end < whole.length(); end++) {
                boolean lacks = end == 0 || whole.charAt(end - 1) != ';';
                if (lacks) due("close() of " + whole.substring(0, end), closeOf(whole.substring(0, end)), -1000 - end);
            }
        }

        says("else kind 2");
        due("close() of both, kind 2 ahead", closeOf("b9;x"), -1003);
        due("close() of both, kind 2 ahead of an end", closeOf("t0;t"), -1004);
        due("close() of both, kind 1 ahead", closeOf("sg0x;t0;"), -1003);
    }

    private static void faultsOfStatements() {
        says("a WOMAN (a digit): a number out of range");
        for (int woman = 0; woman <= 9; woman++) {
            boolean there = woman < 4;
            due("close() of s, WOMAN " + woman, closeOf("sg0" + woman + ";"), there ? 1 : -2000);
            due("close() of a, WOMAN " + woman, closeOf("sg00;a0" + woman + ";"), there ? 2 : -2005);
            due("close() of b, WOMAN " + woman, closeOf("b" + woman + ";"), there ? 1 : -2000);
        }

        says("a letter of a KIND, FIGURE (a digit each): all of them are in range");
        for (int kind = 0; kind < 6; kind++) {
            for (int figure = 0; figure <= 9; figure++) {
                NestsOfTalk x = told("s" + "gpmhtl".charAt(kind) + figure + "3;");
                due("saying(0, 0)", x.saying(0, 0), kind);
                due("saying(0, 1)", x.saying(0, 1), figure);
                due("saying(0, 2)", x.saying(0, 2), 3);
            }
        }

        says("DAYS (2 digits, 1 .. 60)");
        for (int n = 0; n <= 99; n++) {
            NestsOfTalk x = new NestsOfTalk();
            boolean taken = n >= 1 && n <= 60;
            due("close() of d, DAYS " + n, tell(x, "d" + n / 10 + n % 10 + ";"), taken ? 1 : -2000);
            due("count(1)", x.count(1), taken ? n : 0);
        }

        says("no such SAYING so far");
        for (int many = 0; many <= 9; many++) {
            for (int s = 0; s <= 9; s++) {
                boolean there = s < many;
                String ahead = "sg00;".repeat(many);
                int want = there ? many + 1 : -2000 - 5 * many;
                due("close() of t" + s + " behind " + many, closeOf(ahead + "t" + s + ";"), want);
                due("close() of w" + s + " behind " + many, closeOf(ahead + "w" + s + "1;"), want);
                due("close() of a" + s + " behind " + many, closeOf(ahead + "a" + s + "1;"), want);
            }
        }
        due("close() of a SAYING that comes behind", closeOf("b0;t0;sg00;"), -2003);

        says("no room for more");
        for (int many = 0; many <= 9; many++) {
            NestsOfTalk x = new NestsOfTalk();
            if (many > 0) due("close() of " + many, tell(x, "sg50;".repeat(many)), many);
            due("close() up to nine", many == 9 ? -9 : tell(x, "sp51;".repeat(9 - many)), many == 9 ? -9 : 9 - many);
            due("count(0)", x.count(0), 9);
            due("close() of a tenth", tell(x, "b0;sg00;"), -2003);
            due("count(0)", x.count(0), 9);
        }
        due("close() of ten at once", closeOf("sg00;".repeat(10)), -2045);
        NestsOfTalk eight = told("sg50;".repeat(8));
        due("close() of two more behind eight", tell(eight, "sg00;sg00;"), -2005);
        due("count(0): nothing came", eight.count(0), 8);

        says("the place of the first letter of the first STATEMENT that is not as it must be");
        due("close() of two that are not", closeOf("sg00;b0;t1;b4;"), -2008);
        due("close() whose first is not", closeOf("d61;d00;t0;"), -2000);
    }

    private static void allOfACloseOrNothing() {
        says("Without FAULT all of it comes, with one nothing");
        NestsOfTalk x = told("sg50;t0;w03;d01;");
        String all = "sp71;t0;w19;a02;b0;d05;t1;";
        for (String fault : new String[] {"b4;", "d00;", "t2;", "sg04;", "x", "s", "d6", "a02"}) {
            int place = all.length();
            boolean whole = fault.endsWith(";");
            int want = whole ? -2000 - place : fault.equals("x") ? -1000 - place : -1000 - place - fault.length();
            due("close() with " + fault + " behind", tell(x, all + fault), want);
            due("count(0)", x.count(0), 1);
            due("count(1)", x.count(1), 1);
            due("count(2)", x.count(2), 0);
            due("count(3)", x.count(3), 1);
            due("count(5)", x.count(5), 3);
            due("saying(0, 2)", x.saying(0, 2), 0);
        }
        due("close() without a fault", tell(x, all), 7);
        due("count(0)", x.count(0), 2);
        due("count(1)", x.count(1), 6);
        due("count(3)", x.count(3), 3);
        due("saying(0, 3)", x.saying(0, 3), 5);
        due("saying(0, 2)", x.saying(0, 2), 2);
        due("saying(1, 3)", x.saying(1, 3), 9);

        says("\"t\" a SAYING: it is IN the NEST, or, told again, SAID");
        x = told("sg50;t0;");
        due("saying(0, 4)", x.saying(0, 4), 1);
        tell(x, "t0;");
        due("saying(0, 4)", x.saying(0, 4), 0);
        tell(x, "t0;t0;t0;");
        due("saying(0, 4)", x.saying(0, 4), 1);

        says("\"b\": a boy brings down a NEST in which nothing is");
        x = told("sg50;b0;b1;");
        due("count(2)", x.count(2), 0);
        due("count(13): it is no refusal", x.count(13), 0);
    }

    // ---- Terms: kinds, a nest, a day ----

    private static void kinds() {
        says("each by FRESH: KINDS at each FRESH from 0 to 9");
        int[][] soft = {{0, 1, 2, 3, 4, 5, 6, 7, 8, 9}, {3, 4, 5, 6, 7, 8, 9, 10, 11, 12}, {0, 0, 0, 0, 0, 0, 0, 0, 0, 0},
            {0, 0, 1, 1, 2, 2, 3, 3, 4, 4}, {1, 1, 1, 1, 1, 1, 1, 1, 1, 1}, {0, 0, 0, 0, 0, 16, 18, 20, 22, 24}};
        int[][] binds = {{1, 1, 1, 1, 1, 1, 1, 1, 1, 1}, {0, 0, 0, 0, 0, 0, 0, 0, 0, 0}, {2, 2, 3, 3, 4, 4, 5, 5, 6, 6},
            {1, 1, 1, 1, 1, 1, 1, 1, 1, 1}, {5, 5, 6, 6, 7, 7, 8, 8, 9, 9}, {0, 0, 0, 0, 0, 0, 0, 0, 0, 0}};
        int[][] weighs = {{1, 1, 1, 1, 1, 1, 1, 1, 1, 1}, {1, 1, 1, 1, 1, 1, 1, 1, 1, 1}, {2, 2, 2, 2, 2, 2, 2, 2, 2, 2},
            {0, 0, 0, 1, 1, 1, 1, 1, 1, 1}, {3, 3, 3, 3, 3, 3, 3, 3, 3, 3}, {1, 1, 1, 1, 1, 1, 1, 1, 1, 1}};
        for (int kind = 0; kind < 6; kind++) {
            NestsOfTalk x = told("sg00;");
            for (int figure = 0; figure <= 9; figure++) {
                x.turn(0, kind, figure);
                int fresh = figure;
                due("saying(0, 5) of " + kind + " FRESH " + fresh, x.saying(0, 5), soft[kind][fresh]);
                due("saying(0, 6) of " + kind + " FRESH " + fresh, x.saying(0, 6), binds[kind][fresh]);
                due("saying(0, 7) of " + kind + " FRESH " + fresh, x.saying(0, 7), weighs[kind][fresh]);
            }
        }

        says("FRESH (FIGURE less WORN, 0 at least)");
        NestsOfTalk x = told("sg00;");
        for (int figure = 0; figure <= 9; figure++) {
            x.turn(0, 0, figure);
            for (int worn = 0; worn <= 9; worn++) {
                x.wears(0, worn);
                due("saying(0, 5) of " + figure + " less " + worn, x.saying(0, 5), figure > worn ? figure - worn : 0);
            }
            x.wears(0, 0);
        }
        x = told("sm30;w09;sh11;w19;sl92;w29;");
        due("saying(0, 6): not below 2", x.saying(0, 6), 2);
        due("saying(1, 5): not below 0", x.saying(1, 5), 0);
        due("saying(2, 5): not below 0", x.saying(2, 5), 0);
    }

    private static void nestIs(NestsOfTalk x, int woman, int... want) {
        for (int what = 0; what < want.length; what++) due("nest(" + woman + ", " + what + ")", x.nest(woman, what), want[what]);
    }

    private static void nestsHold() {
        says("It HOLDS, if it BINDS as much as it WEIGHS or more (an empty one does)");
        for (int woman = 0; woman < 4; woman++) nestIs(new NestsOfTalk(), woman, 0, 0, 0, 0, 1, 0);
        nestIs(nested("sg00;"), 0, 1, 0, 1, 1, 1, 0);
        nestIs(nested("sm20;sp00;"), 0, 3, 3, 3, 3, 1, 0);
        nestIs(nested("sm20;"), 0, 1, 0, 3, 2, 1, 0);
        nestIs(nested("sm10;sp00;"), 0, 3, 3, 2, 3, 0, 1);
        nestIs(nested("sh20;"), 0, 1, 1, 1, 0, 1, 0);
        nestIs(nested("sh20;sp00;"), 0, 3, 4, 1, 1, 1, 0);
        nestIs(nested("sh30;sp00;"), 0, 3, 4, 1, 2, 0, 1);

        says("A NEST: of all IN it together (nine)");
        nestIs(nested("sg90;".repeat(9)), 0, 511, 81, 9, 9, 1, 0);
        nestIs(nested("st93;".repeat(9)), 3, 511, 9, 81, 27, 1, 0);
        nestIs(nested("sl91;".repeat(9)), 1, 511, 216, 0, 9, 0, 9);

        says("LACKS: how much more it must BIND to HOLD (0 none)");
        due("nest(0, 5)", nested("sp00;").nest(0, 5), 1);
        due("nest(0, 5)", nested("sp00;sp00;sg00;").nest(0, 5), 2);
        due("nest(0, 5) of one that has more than it must", nested("st90;").nest(0, 5), 0);

        says("HOLDS now (1, 0)");
        due("nest(2, 4)", nested("sp02;").nest(2, 4), 0);
        due("nest(2, 4)", nested("st92;sp02;").nest(2, 4), 1);
    }

    private static void nestsFall() {
        says("It FALLS: all IN it are SAID, ROBBED is 1 more");
        NestsOfTalk x = nested("sp00;".repeat(8) + "sg01;");
        due("days(1)", x.days(1), 1);
        due("talk()", x.talk(), 255);
        due("count(3)", x.count(3), 256);

        says("each NEST that does not HOLD FALLS: an empty one does not");
        x = new NestsOfTalk();
        due("days(60) of none", x.days(60), 0);
        x = nested("sg00;");
        due("days(60) of one that holds by as much", x.days(60), 0);
        due("count(3)", x.count(3), 1);

        says("so, if a boy brings one down in which something is: how many were IN it");
        x = nested("sg00;".repeat(9));
        due("boy(0) of nine", x.boy(0), 9);
        due("talk()", x.talk(), 511);
        due("count(2)", x.count(2), 1);
        x = nested("sg03;");
        due("boy(3) of one", x.boy(3), 1);
        due("boy(3): it is empty", x.boy(3), -3);
        due("count(2)", x.count(2), 1);
        due("count(3)", x.count(3), 0);
    }

    private static void aDay() {
        says("if 3 divides it, each SAYING is WORN 1 more (9 at most)");
        NestsOfTalk x = told("sg50;sg50;w18;sp01;t0;");
        int[] worn = {8, 8, 11, 11, 11, 13, 13, 13, 15};
        for (int day = 1; day <= 9; day++) {
            x.days(1);
            due("count(5) on DAY " + day, x.count(5), worn[day - 1]);
        }
        due("saying(1, 3)", x.saying(1, 3), 9);
        x.days(17);
        due("saying(0, 3) on DAY 26", x.saying(0, 3), 8);
        x.days(1);
        due("saying(0, 3) on DAY 27", x.saying(0, 3), 9);
        x.days(3);
        due("saying(0, 3) on DAY 30", x.saying(0, 3), 9);
        x = nested("sg53;w09;");
        due("close() of 60 DAYS", tell(x, "d60;"), 1);
        due("saying(0, 3)", x.saying(0, 3), 9);

        says("her bird takes the least SAYING that is SAID ABOUT her");
        x = told("sg50;sg51;sg50;sg51;sg53;sg53;t4;");
        int[] inside = {1 + 2 + 16 + 32, 63, 63};
        for (int day = 1; day <= 3; day++) {
            x.days(1);
            due("count(3) on DAY " + day, x.count(3), inside[day - 1]);
        }
        x = told("sg53;".repeat(9));
        for (int day = 1; day <= 10; day++) {
            x.days(1);
            due("nest(3, 0) on DAY " + day, x.nest(3, 0), day < 9 ? (1 << day) - 1 : 511);
        }
        due("days(1) where nothing is SAID", new NestsOfTalk().days(1), 0);
    }

    private static void daysGoBy() {
        says("n DAYS (1 .. 60) go by: ROBBED");
        NestsOfTalk x = told("sp50;");
        due("days(0)", x.days(0), -4);
        due("days(1)", x.days(1), 1);
        due("days(60)", x.days(60), 61);
        due("days(61)", x.days(61), -6);
        due("count(1)", x.count(1), 61);
    }

    private static void sayingsChange() {
        says("It is IN the NEST, or SAID: 1, 0 (the first, the ninth)");
        NestsOfTalk x = told("sg93;".repeat(9));
        for (int s = 0; s < 9; s++) {
            due("takes(" + s + ")", x.takes(s), 1);
            due("nest(3, 0)", x.nest(3, 0), (2 << s) - 1);
        }
        for (int s = 0; s < 9; s++) {
            due("takes(" + s + ")", x.takes(s), 0);
            due("nest(3, 0)", x.nest(3, 0), 511 & -(2 << s));
        }

        says("WORN becomes v: what it was (0 .. 9)");
        x = told("sg90;".repeat(9));
        for (int v = 0; v <= 9; v++) {
            due("wears(8, " + v + ")", x.wears(8, v), v == 0 ? 0 : v - 1);
            due("saying(8, 3)", x.saying(8, 3), v);
            due("count(5): no other one's", x.count(5), v);
        }
        due("wears(8, 10)", x.wears(8, 10), -6);
        due("wears(8, -1)", x.wears(8, -1), -4);
        due("saying(8, 3)", x.saying(8, 3), 9);

        says("It is ABOUT her, SAID: whom it was ABOUT (0 .. 3)");
        x = nested("sg90;".repeat(9));
        for (int woman = 0; woman < 4; woman++) {
            due("concerns(8, " + woman + ")", x.concerns(8, woman), woman == 0 ? 0 : woman - 1);
            due("saying(8, 2)", x.saying(8, 2), woman);
            due("saying(8, 4)", x.saying(8, 4), 0);
            due("takes(8)", x.takes(8), 1);
            due("nest(" + woman + ", 0)", x.nest(woman, 0), woman == 0 ? 511 : 256);
        }
        due("concerns(8, 3): once more of her, SAID", x.concerns(8, 3), 3);
        due("saying(8, 4)", x.saying(8, 4), 0);
        due("count(3)", x.count(3), 255);

        says("KIND, FIGURE become others: 10 times the KIND and the FIGURE it had (0 to 59)");
        x = told("sg00;");
        int had = 0;
        for (int kind = 0; kind < 6; kind++) {
            for (int figure = 0; figure <= 9; figure++) {
                due("turn(0, " + kind + ", " + figure + ")", x.turn(0, kind, figure), had);
                had = 10 * kind + figure;
                due("saying(0, 0)", x.saying(0, 0), kind);
                due("saying(0, 1)", x.saying(0, 1), figure);
            }
        }
        due("turn(0, 6, 0)", x.turn(0, 6, 0), -2);
        due("turn(0, 0, 10)", x.turn(0, 0, 10), -6);
        due("turn(0, 0, 0)", x.turn(0, 0, 0), 59);
        x = nested("sg50;w03;");
        x.turn(0, 4, 9);
        due("saying(0, 3): WORN as it was", x.saying(0, 3), 3);
        due("saying(0, 4): IN it as it was", x.saying(0, 4), 1);
    }

    // ---- in mind ----

    /** Calls that only look: what they answer is as it is now, whatever was thought of ahead. */
    private static long[] looks(NestsOfTalk x) {
        long[] seen = new long[90];
        int many = 0;
        for (int woman = 0; woman < 4; woman++) {
            for (int what = 0; what < 6; what++) seen[many++] = x.nest(woman, what);
            seen[many++] = x.more(woman);
            seen[many++] = x.softest(woman, 0);
            seen[many++] = x.softest(woman, 1);
            seen[many++] = x.prop(woman);
            seen[many++] = x.lighten(woman);
        }
        for (int s = 0; s < 2; s++) {
            for (int what = 0; what < 8; what++) seen[many++] = x.saying(s, what);
            seen[many++] = x.about(s, 0);
            seen[many++] = x.about(s, 1);
        }
        for (int what = 0; what < 8; what++) seen[many++] = x.count(what);
        seen[many++] = x.known();
        seen[many++] = x.lodge();
        seen[many++] = x.fullest();
        seen[many++] = x.talk();
        seen[many++] = x.mean(0);
        seen[many++] = x.mean(1);
        seen[many++] = x.takes(1);
        seen[many++] = x.takes(1);
        return seen;
    }

    private static void think(NestsOfTalk x, int which) {
        switch (which) {
            case 0: x.nestThen(0, 60, 0); break;
            case 1: x.robbedThen(60); break;
            case 2: x.falls(3); break;
            case 3: x.first(2); break;
            case 4: x.cushion(0); break;
            case 5: x.keep(60); break;
            case 6: x.hush(60); break;
            case 7: x.add(3, 60, 0); break;
            case 8: x.two(0, 1, 30); break;
            case 9: x.rain(0, 7, 20, 0); break;
            case 10: x.lots(3, 5, 0); break;
            case 11: x.whatWas(1, 0); break;
            case 12: x.whatWas(0, 1); break;
            case 13: tell(x, "sg00;a02;t1;d60;b9;"); break;
            default: tell(x, "a03;a13;d60;d00;");
        }
    }

    private static void onlyThought() {
        says("In mind (nothing is so now)");
        String[] texts = {"sm50;sp71;st00;sg91;sl92;t0;t1;t2;", "sh90;sp40;sm81;t0;t1;w13;", "sg92;sp92;sm93;t0;t2;"};
        for (String text : texts) {
            long[] want = looks(told(text));
            for (int which = 0; which < 15; which++) {
                NestsOfTalk x = told(text);
                think(x, which);
                long[] got = looks(x);
                for (int i = 0; i < got.length; i++) due("look " + i + " behind thought " + which, got[i], want[i]);
            }
        }
    }

    private static void inMind() {
        says("In mind, n DAYS on (0 .. 60)");
        NestsOfTalk x = told("st00;sp00;sp00;sp00;");
        int[] soft = {0, 1, 4, 7};
        int[] set = {0, 1, 3, 7};
        int[] binds = {0, 5, 5, 5};
        int[] weighs = {0, 3, 4, 5};
        for (int n = 0; n <= 60; n++) {
            due("nestThen(0, " + n + ", 0)", x.nestThen(0, n, 0), set[n % 4]);
            due("nestThen(0, " + n + ", 1)", x.nestThen(0, n, 1), soft[n % 4]);
            due("nestThen(0, " + n + ", 2)", x.nestThen(0, n, 2), binds[n % 4]);
            due("nestThen(0, " + n + ", 3)", x.nestThen(0, n, 3), weighs[n % 4]);
            due("robbedThen(" + n + ")", x.robbedThen(n), n / 4);
        }
        due("nestThen(0, 61, 0)", x.nestThen(0, 61, 0), -6);
        due("robbedThen(61)", x.robbedThen(61), -6);
        due("nestThen(0, -1, 0)", x.nestThen(0, -1, 0), -4);
        due("robbedThen(-1)", x.robbedThen(-1), -4);

        says("0 DAYS on is now");
        x = nested("sp50;sp51;");
        due("nestThen(0, 0, 0): it does not hold, but no DAY is by", x.nestThen(0, 0, 0), 1);
        due("nestThen(1, 0, 1)", x.nestThen(1, 0, 1), 8);
        due("robbedThen(0)", x.robbedThen(0), 0);
        due("robbedThen(1)", x.robbedThen(1), 2);
    }

    private static void whenNestsFall() {
        says("FALLS: behind how many DAYS (1 .. 60) a NEST has fallen first; -9");
        due("falls(0): behind one", told("sp50;").falls(0), 1);
        due("falls(0): what does not hold now falls behind one", nested("sp50;").falls(0), 1);
        due("falls(3): behind two", told("sg53;sp53;").falls(3), 2);
        due("falls(0): mud of FRESH 1, WORN 8 on DAY 24", told("sm90;sl70;").falls(0), 24);
        due("falls(0): as late by a truth", told("st90;sp00;sp00;sp00;").falls(0), 24);
        due("falls(0): it holds by as much for good", told("st90;sp00;sp00;").falls(0), -9);
        due("falls(0): nothing is about her", told("sp51;").falls(0), -9);
        due("falls(0) of none", new NestsOfTalk().falls(0), -9);

        says("FIRST: the NEST that falls first, of several the least; -9; when");
        NestsOfTalk x = told("sg50;sp50;sp51;sp53;");
        due("first(0)", x.first(0), 1);
        due("first(1)", x.first(1), 1);
        x = told("sg50;sp50;sg53;sp53;");
        due("first(0): of two", x.first(0), 0);
        due("first(1)", x.first(1), 2);
        x = told("sm93;sl73;");
        due("first(0)", x.first(0), 3);
        due("first(1)", x.first(1), 24);
        for (NestsOfTalk y : new NestsOfTalk[] {new NestsOfTalk(), told("sg50;sg51;")}) {
            due("first(0)", y.first(0), -9);
            due("first(1)", y.first(1), -9);
        }

        says("STILL: the first n (0 .. 60) behind which a DAY changes nothing of what is IN NESTS; -9");
        due("first(2) of none", new NestsOfTalk().first(2), 0);
        due("first(2): taken and fallen on each DAY", told("sp50;").first(2), 0);
        due("first(2): it falls on the first DAY", nested("sp50;").first(2), 1);
        due("first(2): nine are taken", told("sg53;".repeat(9)).first(2), 9);
        due("first(2): two go in and out for good", told("sg50;sp50;").first(2), -9);
        due("first(2): two in one nest, still in another", told("sg50;sp50;sg51;t2;").first(2), -9);
        // The first hearsay is weightless on DAY 21; to DAY 20 the lie falls with it on each second day, then all nine come in.
        due("first(2): late", told("sh90;sl00;sg20;sh50;sg40;sh10;sp70;sp50;sh20;").first(2), 29);
    }

    private static void cushions() {
        says("CUSHION: behind how many DAYS (0 .. 60) some NEST is SOFT 20 or more first; -9; whose");
        NestsOfTalk x = nested("sl73;");
        due("cushion(0): 20 now", x.cushion(0), 0);
        due("cushion(1)", x.cushion(1), 3);
        x = nested("sg90;sg90;sg10;");
        due("cushion(0): 19 now and less then", x.cushion(0), -9);
        due("cushion(1)", x.cushion(1), -9);
        x = nested("sg90;sg90;sg20;");
        due("cushion(0): 20 by three", x.cushion(0), 0);
        x = nested("sg90;sg90;sg91;sg91;");
        due("cushion(0): 36 of two nests is no cushion", x.cushion(0), -9);
        x = told("sm92;sl92;sm91;sl91;");
        due("cushion(0): of two", x.cushion(0), 2);
        due("cushion(1): the least", x.cushion(1), 1);
        // Hearsay of 5 is weightless on DAY 9; two praises of FRESH 6 come in then: 1, 1, 9 and 9 are 20 on DAY 10.
        x = told("sh50;sh50;sp90;sp90;");
        due("cushion(0): late", x.cushion(0), 10);
        due("cushion(1)", x.cushion(1), 0);
        x = told("sh50;sh50;sp90;sp80;");
        due("cushion(0): 19 on DAY 10", x.cushion(0), -9);
        due("cushion(0) of none", new NestsOfTalk().cushion(0), -9);
        due("cushion(1) of none", new NestsOfTalk().cushion(1), -9);
    }

    // ---- nests as they are now ----

    private static void fewestMore() {
        says("MORE: the fewest of what is SAID ABOUT her by which, put IN, her NEST HOLDS; -9");
        due("more(0) of none", new NestsOfTalk().more(0), 0);
        due("more(0): empty, all is SAID", told("sp00;st00;").more(0), 0);
        due("more(0): it holds by as much", told("sg00;sm90;t0;").more(0), 0);
        due("more(0): nothing is SAID", nested("sp00;").more(0), -9);
        due("more(0): mud of 2 is just enough", told("sp00;sm20;t0;").more(0), 2);
        due("more(0): mud of 1 is not", told("sp00;sm10;t0;").more(0), -9);
        due("more(0): mud that is SAID ABOUT another", told("sp00;sm21;t0;").more(0), -9);
        due("more(0): mud IN another's nest", told("sp00;sm21;t0;t1;").more(0), -9);
        due("more(0): the ninth", told("sp00;sg00;sg00;sg00;sg00;sg00;sg00;sg00;sm20;t0;").more(0), 256);
        due("more(0): four are lacking", told("sp00;sp00;sp00;sp00;sm20;sm20;sm20;sm20;sg00;t0;t1;t2;t3;").more(0), 240);
        due("more(0): five are", told("sp00;sp00;sp00;sp00;sp00;sm20;sm20;sm20;sm20;t0;t1;t2;t3;t4;").more(0), -9);

        says("MORE: the fewest, (bits, of several the least)");
        due("more(0): one of 3, not two of 1 and 2", told("sp00;sp00;sm20;sm20;sm40;t0;t1;").more(0), 16);
        due("more(0): either", told("sp00;sm20;sm20;sm20;t0;").more(0), 2);
        due("more(0): any two of three", told("sp00;sp00;sm20;sm20;sm20;t0;t1;").more(0), 12);
    }

    private static void softestSets() {
        says("SOFTEST: of all that is ABOUT her (SAID or IN) the set that HOLDS and is SOFT most: that; how SOFT");
        int[][] want = {{0, 0}, {0, 0}, {511, 81}, {3, 8}, {0, 0}, {3, 8}, {0, 0}};
        NestsOfTalk[] objects = {new NestsOfTalk(), told("sp90;"), told("sg90;".repeat(9)), told("sm20;sp50;"), told("sm10;sp50;"),
            told("sm20;sp50;t1;"), told("sg91;")};
        for (int i = 0; i < want.length; i++) {
            due("softest(0, 0) of object " + i, objects[i].softest(0, 0), want[i][0]);
            due("softest(0, 1) of object " + i, objects[i].softest(0, 1), want[i][1]);
        }
        NestsOfTalk x = nested("sg93;".repeat(9));
        due("softest(3, 0)", x.softest(3, 0), 511);
        due("softest(3, 1)", x.softest(3, 1), 81);

        says("SOFTEST: of several the least");
        due("softest(0, 0): nothing soft", told("sm90;sg00;st00;t0;").softest(0, 0), 4);
        due("softest(0, 0): not what is nothing more", told("sg50;sm00;sg00;").softest(0, 0), 1);
        due("softest(0, 0): mud for one of two praises", told("sm20;sp50;sp50;").softest(0, 0), 3);
        due("softest(0, 0): one mud of two", told("sp50;sm20;sm20;").softest(0, 0), 3);
    }

    private static void whatHoldsItUp() {
        says("PROP: SAYINGS IN it (bits), each by itself, without which it would not HOLD");
        due("prop(0): it is empty", told("sg50;").prop(0), 0);
        due("prop(0): without one it is empty, and holds", nested("sg50;").prop(0), 0);
        due("prop(0): just enough", nested("sg50;sm20;sp50;").prop(0), 2);
        due("prop(0): one of two is enough", nested("sm20;sm20;sp50;").prop(0), 0);
        due("prop(0): both are needed", nested("sm20;sm20;sp50;sp50;").prop(0), 3);
        due("prop(0): what is SAID is not IN it", told("sm20;sp50;t0;").prop(0), 0);
        due("prop(0): nor where it does not hold", told("sp00;sp00;sg50;t0;t1;").prop(0), 3);
        due("prop(3): the ninth", nested("sg03;".repeat(7) + "sp03;sm23;").prop(3), 256);
        due("prop(0): all of a nest that never holds", nested("sp00;sp00;sp00;").prop(0), 7);
        due("prop(0): none, one praise alone", nested("sp00;").prop(0), 0);

        says("LIGHTEN: the fewest of what is IN it (bits, of several the least) to be taken out so that it HOLDS");
        due("lighten(0): it is empty", told("sp00;").lighten(0), 0);
        due("lighten(0): it holds by as much", nested("sg00;").lighten(0), 0);
        due("lighten(0): all of nine", nested("sp00;".repeat(9)).lighten(0), 511);
        due("lighten(0): the ninth", nested("sg00;".repeat(8) + "sl00;").lighten(0), 256);
        due("lighten(0): either", nested("sm20;sp00;sp00;").lighten(0), 2);
        due("lighten(0): two of three", nested("sm20;sp00;sp00;sp00;").lighten(0), 6);
        due("lighten(0): what is SAID can't be taken out", told("sp00;sp00;t1;").lighten(0), 2);
        due("lighten(0): mud that binds as it weighs stays", nested("sm00;sp00;").lighten(0), 2);
    }

    private static void aboutWhom() {
        says("ABOUT: so that her NEST HOLDS then; -9 it HOLDS so of nobody; how SOFT (0)");
        NestsOfTalk x = told("sp50;");
        due("about(0, 0)", x.about(0, 0), -9);
        due("about(0, 1)", x.about(0, 1), 0);
        x = told("sp50;sm23;t1;");
        due("about(0, 0): just enough", x.about(0, 0), 3);
        due("about(0, 1)", x.about(0, 1), 8);
        x = told("sp50;sm13;t1;");
        due("about(0, 0): not enough", x.about(0, 0), -9);
        x = told("sp50;sm23;");
        due("about(0, 0): mud that is SAID is not IN her nest", x.about(0, 0), -9);

        says("ABOUT: SOFT most, of several the least");
        x = told("sg52;");
        due("about(0, 0): of nobody more than of another", x.about(0, 0), 0);
        due("about(0, 1)", x.about(0, 1), 5);
        x = told("sp00;sg50;t0;");
        due("about(1, 0): of woman 0 it does not hold", x.about(1, 0), 1);
        x = told("sm02;sg53;sg51;sg21;t1;t2;");
        due("about(3, 0): of two the least", x.about(3, 0), 1);
        due("about(3, 1)", x.about(3, 1), 7);
        due("about(0, 0): nothing soft of itself", x.about(0, 0), 1);
        x = nested("sm00;");
        due("about(0, 0): SOFT 0 of all", x.about(0, 0), 0);
        due("about(0, 1)", x.about(0, 1), 0);

        says("ABOUT: (it IN no other one)");
        x = nested("sg93;sg13;");
        due("about(0, 0): it is counted once", x.about(0, 0), 3);
        due("about(0, 1)", x.about(0, 1), 10);
        x = nested("sg90;sg13;");
        due("about(0, 1): with what is IN that of another", x.about(0, 1), 10);
    }

    private static void whichWoman() {
        says("BEST KNOWN: of whom most SAYINGS are, of several the least");
        due("known() of none", new NestsOfTalk().known(), 0);
        due("known()", told("sg03;").known(), 3);
        due("known(): one each", told("sg03;sg02;sg01;").known(), 1);
        due("known(): nine", told("sg00;sg01;sg02;sg03;sg00;sg01;sg02;sg03;sg03;").known(), 3);

        says("LODGE: of NESTS that HOLD the one SOFT most, of several the least; -9 all are empty or do not HOLD");
        due("lodge() of none", new NestsOfTalk().lodge(), -9);
        due("lodge(): all are empty", told("sg90;sg91;sg92;sg93;").lodge(), -9);
        due("lodge(): none holds", nested("sp90;sp91;sp92;sp93;").lodge(), -9);
        due("lodge(): it holds by as much", nested("sl90;sl91;sl92;sg13;").lodge(), 3);
        due("lodge(): SOFT 0, but not empty", nested("sm03;").lodge(), 3);
        due("lodge(): of two", nested("sg53;sg52;sg11;").lodge(), 2);
        due("lodge(): woman 0", nested("sg50;sg41;").lodge(), 0);
        due("lodge(): of four", nested("sg53;sg52;sg51;sg50;").lodge(), 0);

        says("BOY: the NEST of most SAYINGS IN it, of several the least; -9 all are empty");
        due("fullest() of none", new NestsOfTalk().fullest(), -9);
        due("fullest(): all are empty", told("sg00;sg01;").fullest(), -9);
        due("fullest(): one", nested("sp03;").fullest(), 3);
        due("fullest(): nine", nested("sp02;".repeat(9)).fullest(), 2);
        due("fullest(): one each", nested("sp03;sp02;sp01;").fullest(), 1);
        due("fullest(): woman 0", nested("sp03;sp00;sp00;").fullest(), 0);
        due("fullest(): one in each of four", nested("sp03;sp02;sp01;sp00;").fullest(), 0);
        due("fullest(): what is SAID is not counted", told("sp01;sp01;sp03;t2;").fullest(), 3);

        says("TALK: all SAID (bits)");
        due("talk() of none", new NestsOfTalk().talk(), 0);
        due("talk(): nine", told("sp02;".repeat(9)).talk(), 511);
        due("talk(): nine IN nests", nested("sp02;".repeat(9)).talk(), 0);
        due("talk(): the ninth", told("sg00;".repeat(9) + "t0;t1;t2;t3;t4;t5;t6;t7;").talk(), 256);
    }

    // ---- what had better be done ----

    private static void keepAndHush() {
        says("KEEP in n DAYS (1 .. 60)");
        NestsOfTalk x = told("sm20;sp50;t0;t1;d02;");
        due("keep(0)", x.keep(0), -4);
        due("keep(1): DAY 3 is the one", x.keep(1), 0);
        due("keep(61)", x.keep(61), -6);
        // Nests of this fall on each third DAY; with the first kept on 3, 7, 11 ..; with the second on 4, 8, 12 ..
        x = told("sm30;sm20;sp80;sl70;sp80;sl60;t2;");
        due("keep(59): 15 by the first, 14 by the second", x.keep(59), 1);
        due("keep(60): 15 by either", x.keep(60), 0);

        says("KEEP: fewer than else, of several the least; -9");
        due("keep(60) of none", new NestsOfTalk().keep(60), -9);
        due("keep(60): none falls", told("sg50;sg51;").keep(60), -9);
        due("keep(60): as many fall", told("sg50;sp50;").keep(60), -9);
        x = told("sg00;".repeat(7) + "sp50;sm20;d02;t7;t8;");
        due("keep(1): the ninth on DAY 3", x.keep(1), 8);
        x = told("sm21;sp51;sm20;sp50;");
        due("keep(3): of two", x.keep(3), 0);

        says("KEEP: never WORN any more (WORN as it is)");
        x = told("sm30;sp50;w01;");
        due("keep(3): FRESH 2 as it is", x.keep(3), 0);
        x = told("sm30;sp50;w02;");
        due("keep(3): FRESH 1 as it is", x.keep(3), -9);

        says("HUSH in n DAYS (1 .. 60)");
        x = told("sp50;");
        due("hush(0)", x.hush(0), -4);
        due("hush(1)", x.hush(1), 0);
        due("hush(61)", x.hush(61), -6);
        // Nests of this fall on each even DAY; with either lie left out on 3, 5, 7 ..
        x = told("sm20;sl10;sl20;t2;");
        due("hush(59): 29 and 29", x.hush(59), -9);
        due("hush(60): 30 and 29", x.hush(60), 1);

        says("HUSH: likewise (fewer than else, of several the least; -9)");
        due("hush(60) of none", new NestsOfTalk().hush(60), -9);
        due("hush(60): none falls", told("sg50;sg51;").hush(60), -9);
        due("hush(1): the other falls then", told("sp50;sp50;").hush(1), -9);
        due("hush(1): of two", told("sp52;sp51;").hush(1), 0);
        due("hush(9): the ninth", told("sg00;".repeat(8) + "sp00;").hush(9), 8);
        due("hush(8): it falls on DAY 9", told("sg00;".repeat(8) + "sp00;").hush(8), -9);

        says("HUSH: left out from now (neither SAID nor IN)");
        due("hush(1): IN it", nested("sg50;sp50;").hush(1), 1);
        due("hush(60): SAID", told("sg50;sp50;").hush(60), 1);
    }

    private static void addOneMore() {
        says("ADD: SAID now, behind n DAYS (0 .. 60)");
        NestsOfTalk x = told("sg50;t0;");
        due("add(0, -1, 0)", x.add(0, -1, 0), -4);
        due("add(0, 0, 0): it is only SAID", x.add(0, 0, 0), 0);
        due("add(0, 0, 1)", x.add(0, 0, 1), 5);
        due("add(0, 1, 0)", x.add(0, 1, 0), 0);
        due("add(0, 1, 1): FIGURE 9", x.add(0, 1, 1), 14);
        due("add(0, 61, 0)", x.add(0, 61, 0), -6);
        x = told("st00;sp00;sp00;sp00;");
        due("add(0, 59, 1): no bird comes to it", x.add(0, 59, 1), 7);
        due("add(0, 60, 1)", x.add(0, 60, 1), 0);
        due("add(0, 60, 0): of all the least", x.add(0, 60, 0), 0);

        says("ADD: of several the least");
        x = nested("sp00;");
        due("add(0, 1, 0): mud 9 holds, and truth", x.add(0, 1, 0), 4);
        due("add(0, 1, 1)", x.add(0, 1, 1), 4);
        x = nested("sp01;sp01;sp01;sp01;sp01;sp01;sp01;");
        due("add(1, 1, 0): it falls by each", x.add(1, 1, 0), 0);
        due("add(1, 1, 1)", x.add(1, 1, 1), 0);

        says("ADD: -9 (9 there are)");
        x = told("sg00;".repeat(8));
        due("add(3, 1, 0): eight there are", x.add(3, 1, 0), 0);
        due("add(3, 1, 1)", x.add(3, 1, 1), 9);
        tell(x, "sg00;");
        for (int n = 0; n <= 60; n += 60) {
            due("add(3, " + n + ", 0)", x.add(3, n, 0), -9);
            due("add(3, " + n + ", 1)", x.add(3, n, 1), -9);
        }
        due("count(0)", x.count(0), 9);
    }

    private static void twoGossips() {
        says("TWO behind n DAYS (0 .. 30)");
        NestsOfTalk x = told("st90;sp20;sl90;sp00;sp90;sl00;");
        due("two(0, 1, -1)", x.two(0, 1, -1), -4);
        due("two(0, 1, 0): what is told is only SAID", x.two(0, 1, 0), 0);
        // A truth more lets this fall on DAY 24 first, not on DAY 12; behind 29 DAYS it is SOFT 1, not 4, behind 30 it is 4.
        due("two(0, 1, 29)", x.two(0, 1, 29), 1);
        due("two(1, 0, 29)", x.two(1, 0, 29), 10);
        due("two(0, 1, 30)", x.two(0, 1, 30), 0);
        due("two(1, 0, 30)", x.two(1, 0, 30), 0);
        due("two(0, 1, 31)", x.two(0, 1, 31), -6);
        due("two(2, 3, 29): nothing is about them", x.two(2, 3, 29), 0);

        says("TWO: (9 there are: nothing)");
        x = told("st90;sp20;sl90;sp00;sp90;sl00;sg03;sg03;sg03;");
        due("two(0, 1, 29)", x.two(0, 1, 29), 0);
        due("two(1, 0, 29)", x.two(1, 0, 29), 0);

        says("TWO: the first ahead");
        // Eight are there: if both tell, only the first's has room. So 0, by telling, keeps 1 from telling.
        x = told("st90;sp20;sl90;sp00;sp90;sl00;sg03;sg03;");
        due("two(0, 1, 29)", x.two(0, 1, 29), 11);
        due("two(1, 0, 29)", x.two(1, 0, 29), 10);
    }

    // ---- fractions ----

    private static void rains() {
        says("RAIN: on each of n DAYS (0 .. 7)");
        NestsOfTalk x = told("sg00;sp00;");
        for (int n = 0; n <= 7; n++) rainIs(x, 0, n, 2, n % 2, 1);
        due("rain(0, 8, 2, 0)", x.rain(0, 8, 2, 0), 4000000000000000006L);
        due("rain(0, -1, 2, 0)", x.rain(0, -1, 2, 0), 4000000000000000004L);
        rainIs(nested("sp00;"), 0, 0, 20, 1, 1);
        rainIs(nested("sp00;"), 0, 1, 20, 0, 1);

        says("RAIN: with odds 1 in t (2 .. 20)");
        // Mud of 4 with a praise falls when it is WORN 3: it is nothing behind 7 DAYS if that comes first on DAY 3, 5 or 7.
        x = told("sm40;sp50;t0;");
        rainIs(x, 0, 7, 2, 47, 128);
        rainIs(x, 0, 7, 20, 1212699719L, 1280000000L);
        due("rain(0, 7, 1, 0)", x.rain(0, 7, 1, 0), 4000000000000000004L);
        due("rain(0, 7, 21, 0)", x.rain(0, 7, 21, 0), 4000000000000000006L);

        says("each SAYING IN a NEST is WORN 1 more besides (9 at most), ahead of it");
        x = told("sm20;sp50;");
        rainIs(x, 0, 1, 2, 1, 1);
        rainIs(x, 0, 2, 2, 1, 2);
        rainIs(x, 0, 2, 20, 19, 20);
        // Rain lets it fall on DAY 2, and the mud is IN again on DAY 3; without, it falls on DAY 3.
        rainIs(x, 0, 3, 20, 1, 20);
        rainIs(told("st92;w09;t0;"), 2, 7, 20, 1, 1);

        says("Fractions are told in least terms; 0 as 0 by 1: RAIN");
        rainIs(new NestsOfTalk(), 3, 0, 20, 0, 1);
        rainIs(new NestsOfTalk(), 3, 7, 20, 0, 1);
        rainIs(nested("sg03;"), 3, 7, 20, 1, 1);
        // It falls if it rains on both.
        x = nested("sm60;sp00;sp00;w01;");
        rainIs(x, 0, 2, 2, 3, 4);
        rainIs(x, 0, 2, 4, 15, 16);
    }

    private static void means() {
        says("MEAN: of SOFT of NESTS that are not empty (0 by 1 of none)");
        meanIs(new NestsOfTalk(), 0, 1);
        meanIs(told("sg90;sg91;"), 0, 1);
        meanIs(nested("sg90;"), 9, 1);
        meanIs(nested("sl93;".repeat(9)), 216, 1);
        meanIs(nested("sg10;sg01;sg02;"), 1, 3);

        says("Fractions are told in least terms; 0 as 0 by 1: MEAN");
        meanIs(nested("sm10;sm11;sm12;sm13;"), 0, 1);
        meanIs(nested("sg10;sg11;sg22;sg23;"), 3, 2);
        meanIs(nested("sg40;sg41;"), 4, 1);
        meanIs(nested("sg40;sg41;sg52;"), 13, 3);
        meanIs(nested("sg10;sm91;sm92;sm93;"), 1, 4);
        NestsOfTalk x = new NestsOfTalk();
        due("mean(-1)", x.mean(-1), 4000000000000000002L);
        due("mean(2)", x.mean(2), 4000000000000000002L);
    }

    // ---- the row ----

    private static void rows() {
        says("A ROW of numbers (0 .. 99; 16 at most)");
        NestsOfTalk x = new NestsOfTalk();
        due("row(-1)", x.row(-1), -4);
        due("row(100)", x.row(100), -6);
        for (int i = 1; i <= 16; i++) due("row(), number " + i, x.row(i % 2 * 99), i);
        due("row(0), the 17th", x.row(0), -6);
        due("count(6)", x.count(6), 16);

        says("The ROW has none then: how many it had");
        due("clear() of 16", x.clear(), 16);
        due("clear() of none", x.clear(), 0);
        due("count(6)", x.count(6), 0);
        due("row(99)", x.row(99), 1);
        due("clear() of one", x.clear(), 1);
        due("clear() of a new object", new NestsOfTalk().clear(), 0);

        says("JUDGED: how many SAYINGS are IN NESTS behind 0, 1, .. DAYS: the first that is not so; -9");
        x = nested("sg50;");
        due("judge() of no ROW", x.judge(), -9);
        rowOf(x, 1, 1, 1, 1, 1, 1, 1, 1, 1, 1, 1, 1, 1, 1, 1, 1);
        due("judge() of 16", x.judge(), -9);
        rowOf(x, 1, 1, 1, 1, 1, 1, 1, 1, 1, 1, 1, 1, 1, 1, 1, 0);
        due("judge(): the 16th", x.judge(), 15);
        rowOf(x, 2);
        due("judge(): now", x.judge(), 0);
        rowOf(x, 1, 2, 1, 2);
        due("judge(): the first of two", x.judge(), 1);
        x = told("sg50;sg51;sg52;sg53;sg50;sg51;sg52;sg53;sg53;");
        rowOf(x, 0, 4, 8, 9, 9);
        due("judge(): nine", x.judge(), -9);

        says("JUDGED (whichever it answers, the ROW has none then)");
        for (int number : new int[] {0, 9, 99}) {
            rowOf(x, number);
            x.judge();
            due("count(6)", x.count(6), 0);
            due("judge() once more", x.judge(), -9);
        }
    }

    private static void whatItWas() {
        says("WHAT IT WAS: KINDS (bits), FIGURES (bits 0 .. 9) by which all of a ROW is so: of no ROW all");
        NestsOfTalk x = told("sg50;t0;");
        due("whatWas(0, 0)", x.whatWas(0, 0), 63);
        due("whatWas(0, 1)", x.whatWas(0, 1), 1023);

        says("WHAT IT WAS by a ROW of 16");
        rowOf(x, 5, 5, 5, 4, 4, 4, 3, 3, 3, 2, 2, 2, 1, 1, 1, 0);
        due("whatWas(0, 0)", x.whatWas(0, 0), 1);
        due("whatWas(0, 1)", x.whatWas(0, 1), 32);
        rowOf(x, 5, 5, 5, 4, 4, 4, 3, 3, 3, 2, 2, 2, 1, 1, 1, 1);
        due("whatWas(0, 0)", x.whatWas(0, 0), 0);
        due("whatWas(0, 1)", x.whatWas(0, 1), 0);

        says("WHAT IT WAS: it stays");
        due("count(6)", x.count(6), 16);

        says("WHAT IT WAS: each KIND, each FIGURE by itself");
        x = told("sg93;t0;");
        int[] soft = {9, 12, 0, 4, 1, 24};
        for (int kind = 0; kind < 6; kind++) {
            rowOf(x, soft[kind]);
            due("whatWas(0, 0) by " + soft[kind], x.whatWas(0, 0), 1 << kind);
        }
        for (int figure = 0; figure <= 9; figure++) {
            rowOf(x, figure);
            due("whatWas(0, 1) by " + figure, x.whatWas(0, 1), 1 << figure);
        }
        rowOf(x, 10);
        due("whatWas(0, 1) by 10", x.whatWas(0, 1), 0);
        rowOf(x, 99);
        due("whatWas(0, 0) by 99", x.whatWas(0, 0), 0);
        x = nested("sm90;");
        rowOf(x, 0, 0, 0);
        due("whatWas(0, 1): mud of any", x.whatWas(0, 1), 1023);
        x = told("sg50;");
        rowOf(x, 0);
        due("whatWas(0, 0): SAID, so its nest is empty", x.whatWas(0, 0), 63);

        says("WHAT IT WAS: of the ninth");
        x = told("sg10;sg11;sg12;sg10;sg11;sg12;sg10;sg11;sg73;t8;");
        rowOf(x, 7, 7, 7, 6);
        due("whatWas(8, 0)", x.whatWas(8, 0), 1);
        due("whatWas(8, 1)", x.whatWas(8, 1), 128);
    }

    // ---- springs by lot ----

    private static void springs() {
        says("LOTS: n springs (1 .. 20)");
        NestsOfTalk x = told("sp40;");
        due("lots(0, 0, 0)", x.lots(0, 0, 0), -4);
        due("lots(21, 0, 0)", x.lots(21, 0, 0), -6);
        for (int n = 1; n <= 20; n++) due("lots(" + n + ", 0, 0)", x.lots(n, 0, 0), 15 * n);

        says("LOTS: then 15 DAYS");
        x = told("sg90;");
        for (int n = 1; n <= 20; n++) due("lots(" + n + ", 0, 1): FRESH 9 less 5", x.lots(n, 0, 1), 4 * n);
        due("lots(1, 0, 1) on DAY 2: WORN by DAY 3 to 15", onDay(2, "sg90;").lots(1, 0, 1), 4);
        due("lots(1, 0, 1) on DAY 1: WORN by DAY 3 to 15", onDay(1, "sg90;").lots(1, 0, 1), 4);

        says("LOTS of no SAYING");
        for (int z : new int[] {0, -1, LEAST, MOST}) {
            due("lots(20, " + z + ", 0)", new NestsOfTalk().lots(20, z, 0), 0);
            due("lots(20, " + z + ", 1)", new NestsOfTalk().lots(20, z, 1), 0);
        }

        says("LOTS: each SAYING, by numbers, is ABOUT a WOMAN by a DRAW below 4 and SAID");
        // From seed 0: 3, 1, 2, 3, 1, 2, 0. So the fourth is with the first, the seventh alone.
        due("lots(1, 0, 0): the fourth praises her of the first", told("sg90;sg90;sg90;sp00;").lots(1, 0, 0), 7);
        due("lots(1, 0, 0): IN her nest as they were they would fall 8 times",
            told("sg90;sg91;sg92;sp00;t0;t3;").lots(1, 0, 0), 7);
        due("lots(1, 0, 0): the seventh alone", told("sg90;sg90;sg90;sg90;sg90;sg90;sp00;").lots(1, 0, 0), 15);
        due("lots(1, 0, 0): the third has another than the second", told("sg00;sg90;sp00;").lots(1, 0, 0), 15);
        due("lots(1, 0, 0): nine", told("sp00;".repeat(9)).lots(1, 0, 0), 60);

        says("LOTS leaves all as it is");
        x = nested("sg50;sg61;");
        x.lots(20, 1, 0);
        due("count(3)", x.count(3), 3);
        due("count(5)", x.count(5), 0);
        due("saying(1, 2)", x.saying(1, 2), 1);
    }

    /** The draws reckoned with longs: the int goes round at 32 bits, and its sign's bit is left out ahead of the division. */
    private static long next(long word) {
        return (word * 1664525L + 1013904223L) & 0xffffffffL;
    }

    private static int womanOf(long word) {
        return (int) ((word & 0x7fffffffL) / 256 % 4);
    }

    private static void draws() {
        says("A DRAW below m: z becomes z times 1664525 and 1013904223 (an int); (z without its sign's bit by 256, cut) modulo m");
        due("a word of seed 0", next(0), 0x3c6ef35fL);
        due("the next goes round", next(0x3c6ef35fL), 0x47502932L);
        due("the next has the sign's bit", next(0x47502932L), 0xd1ccf6e9L);
        // Gossip and praise about one woman fall 7 times in 15 days, about two women 15 times.
        NestsOfTalk pair = told("sg90;sp01;");
        NestsOfTalk third = told("sg92;sm92;sp01;");
        int[] seeds = {0, 1, 2, -1, -2, MOST, MOST - 1, LEAST, LEAST + 1, 255, 256, 511, 512, 1024, 0x40000000, 0x0fffffff};
        for (int seed : seeds) {
            long word = seed & 0xffffffffL;
            int falls = 0;
            for (int spring = 1; spring <= 5; spring++) {
                long gossip = next(word);
                long praise = next(gossip);
                falls += womanOf(gossip) == womanOf(praise) ? 7 : 15;
                word = praise;
                due("lots(" + spring + ", " + seed + ", 0)", pair.lots(spring, seed, 0), falls);
            }
            long gossip = next(seed & 0xffffffffL);
            long mud = next(gossip);
            long praise = next(mud);
            int want = womanOf(praise) == womanOf(mud) ? 0 : womanOf(praise) == womanOf(gossip) ? 7 : 15;
            due("lots(1, " + seed + ", 0) of three", third.lots(1, seed, 0), want);
        }
    }

    // ---- the image, counts ----

    private static void images() {
        says("ON: -3 there is none");
        NestsOfTalk x = new NestsOfTalk();
        due("on()", x.on(), -3);
        tell(x, "sg50;d03;");
        due("on()", x.on(), -3);

        says("THE IMAGE of a new object");
        x = new NestsOfTalk();
        due("image()", x.image(), 0);
        tell(x, "sp00;".repeat(9) + "d60;");
        due("count(2)", x.count(2), 60);
        due("on()", x.on(), 0);
        for (int what = 0; what < 8; what++) due("count(" + what + ")", x.count(what), 0);
        due("saying(0, 0)", x.saying(0, 0), -1);
        due("close() of nine once more", tell(x, "sg00;".repeat(9)), 9);

        says("WORN 0 at first, SAID at first: also where ON left out another by that number");
        x = told("sg50;");
        x.image();
        tell(x, "sg51;w17;t1;");
        due("on()", x.on(), 0);
        due("saying(1, 0)", x.saying(1, 0), -1);
        due("nest(1, 0)", x.nest(1, 0), 0);
        due("close() that tells another", tell(x, "sg52;"), 1);
        due("saying(1, 3)", x.saying(1, 3), 0);
        due("saying(1, 4)", x.saying(1, 4), 0);
        due("saying(1, 2)", x.saying(1, 2), 2);
        due("known()", x.known(), 0);

        says("THE IMAGE on DAY 999");
        x = onDay(999, "sg90;".repeat(9));
        due("image()", x.image(), 999);
        x.takes(8);
        due("on()", x.on(), 999);
        due("days(1)", x.days(1), -6);
        due("count(3)", x.count(3), 0);

        says("THE IMAGE: all that there is, but it, the ROW, letters, REFUSALS");
        x = told("sg50;sp70;d02;");
        due("image()", x.image(), 2);
        rowOf(x, 1, 2);
        x.letter('b');
        x.takes(9);
        x.wears(0, 7);
        x.turn(0, 5, 9);
        x.concerns(1, 3);
        x.takes(1);
        due("days(1)", x.days(1) > 1 ? 1 : 0, 1);
        due("on()", x.on(), 2);
        due("count(1)", x.count(1), 2);
        due("count(2)", x.count(2), 1);
        due("count(3)", x.count(3), 0);
        due("count(5)", x.count(5), 0);
        due("saying(0, 0)", x.saying(0, 0), 0);
        due("saying(0, 1)", x.saying(0, 1), 5);
        due("saying(1, 2)", x.saying(1, 2), 0);
        due("count(6)", x.count(6), 2);
        due("count(7)", x.count(7), 1);
        due("count(11)", x.count(11), 1);
        x.days(60);
        due("on() once more, from it still", x.on(), 2);
        due("count(2)", x.count(2), 1);
    }

    private static void counts() {
        says("count: -9 for another what");
        NestsOfTalk x = new NestsOfTalk();
        for (int what : new int[] {LEAST, -9, -1, 8, 9, 10, 17, 18, 99, MOST}) due("count(" + what + ")", x.count(what), -9);
        for (int what = 11; what <= 16; what++) due("count(" + what + "): no refusal", x.count(what), 0);
        for (int what = 0; what <= 7; what++) due("count(" + what + ")", x.count(what), 0);

        says("count: at the most");
        x = nested("sl93;".repeat(9));
        for (int s = 0; s < 9; s++) x.wears(s, 2);
        due("count(0)", x.count(0), 9);
        due("count(3)", x.count(3), 511);
        due("count(4)", x.count(4), 180);
        due("count(5)", x.count(5), 18);
        for (int s = 0; s < 9; s++) x.wears(s, 9);
        due("count(4)", x.count(4), 0);
        due("count(5)", x.count(5), 81);
    }

    public static void main(String[] args) {
        womenAndSayings();
        robbedStops();
        daysStop();
        daysGoOnInThought();
        lettersOfAClose();
        eachLetterAtEachPlace();
        faultsOfStatements();
        allOfACloseOrNothing();
        kinds();
        nestsHold();
        nestsFall();
        aDay();
        daysGoBy();
        sayingsChange();
        onlyThought();
        inMind();
        whenNestsFall();
        cushions();
        fewestMore();
        softestSets();
        whatHoldsItUp();
        aboutWhom();
        whichWoman();
        keepAndHush();
        addOneMore();
        twoGossips();
        rains();
        means();
        rows();
        whatItWas();
        springs();
        draws();
        images();
        counts();
        System.out.println(sentences + " sentences, " + answers + " answers looked at, " + wrong + " wrong");
        if (wrong != 0) System.exit(1);
    }
}
