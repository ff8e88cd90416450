/** For each promise of the document: ordinary calls, the edges that it names, and wrong calls, by answers reckoned by hand. */
public final class PromiseTests {
    private static int wrong = 0;
    private static int answers = 0;
    private static int promise = 0;

    private static final long LONG = 4000000000000000000L;

    private static void due(String call, long got, long want) {
        answers++;
        if (got == want) return;
        wrong++;
        System.out.println("promise " + promise + ": " + call + " answered " + got + ", due is " + want);
    }

    private static int tell(NestsOfTalk x, String text) {
        for (int i = 0; i < text.length(); i++) x.letter(text.charAt(i));
        return x.close();
    }

    private static NestsOfTalk told(String text) {
        NestsOfTalk x = new NestsOfTalk();
        due("close() of " + text, tell(x, text), text.split(";").length);
        return x;
    }

    private static int closeOf(String text) {
        return tell(new NestsOfTalk(), text);
    }

    private static void rowOf(NestsOfTalk x, int... numbers) {
        x.clear();
        for (int i = 0; i < numbers.length; i++) due("row(" + numbers[i] + ")", x.row(numbers[i]), i + 1);
    }

    /** Refusals so far: of -1, -2, -3, -4, -6. */
    private static void refused(NestsOfTalk x, int nobody, int other, int state, int below, int room) {
        due("count(11)", x.count(11), nobody);
        due("count(12)", x.count(12), other);
        due("count(13)", x.count(13), state);
        due("count(14)", x.count(14), below);
        due("count(15)", x.count(15), 0);
        due("count(16)", x.count(16), room);
    }

    private static void newObject() {
        promise = 1;
        NestsOfTalk x = new NestsOfTalk();
        for (int what = 0; what < 8; what++) due("count(" + what + ")", x.count(what), 0);
        refused(x, 0, 0, 0, 0, 0);
        due("saying(0, 0)", x.saying(0, 0), -1);
        due("nest(3, 0)", x.nest(3, 0), 0);
        due("nest(3, 4)", x.nest(3, 4), 1);
        due("on()", x.on(), -3);
        NestsOfTalk y = told("sg50;d01;");
        NestsOfTalk z = new NestsOfTalk();
        due("count(0) of another object", z.count(0), 0);
        due("count(1) of another object", z.count(1), 0);
        due("count(1)", y.count(1), 1);
    }

    private static void letter() {
        promise = 2;
        NestsOfTalk x = new NestsOfTalk();
        due("letter(0)", x.letter(0), 1);
        due("letter(255)", x.letter(255), 2);
        due("letter(-1)", x.letter(-1), -4);
        due("letter(least)", x.letter(Integer.MIN_VALUE), -4);
        due("letter(256)", x.letter(256), -6);
        due("letter(most)", x.letter(Integer.MAX_VALUE), -6);
        due("count(7)", x.count(7), 2);
        for (int i = 3; i <= 96; i++) due("letter(59)", x.letter(59), i);
        due("letter(59), the 97th", x.letter(59), -6);
        due("letter(256), the 97th", x.letter(256), -6);
        due("letter(-1), the 97th", x.letter(-1), -4);
        due("count(7)", x.count(7), 96);
        refused(x, 0, 0, 0, 3, 4);
        due("close()", x.close(), -1000);
        due("letter(59) behind close()", x.letter(59), 1);
    }

    private static void closeTells() {
        promise = 3;
        NestsOfTalk x = new NestsOfTalk();
        due("close()", tell(x, "sg51;sl90;t0;w13;a02;b1;d04;"), 7);
        due("letters behind it", x.count(7), 0);
        due("count(1)", x.count(1), 4);
        due("saying(0, 2)", x.saying(0, 2), 2);
        due("saying(0, 3)", x.saying(0, 3), 1);
        due("saying(0, 4)", x.saying(0, 4), 1);
        due("saying(1, 0)", x.saying(1, 0), 5);
        due("saying(1, 1)", x.saying(1, 1), 9);
        due("saying(1, 3)", x.saying(1, 3), 4);
        due("count(2)", x.count(2), 4);
        due("close() once more", tell(x, "sh13;t2;"), 2);
        due("saying(2, 4)", x.saying(2, 4), 1);
        due("close() that tells it again", tell(x, "t2;"), 1);
        due("saying(2, 4)", x.saying(2, 4), 0);
        x = told("sg50;t0;b0;b0;");
        due("a boy in a close", x.count(2), 1);
        due("talk()", x.talk(), 1);
        x = told("sg50;t0;a00;");
        due("about her again, SAID", x.saying(0, 4), 0);
        x = told("sg00;sp11;sm22;sh33;st40;sl51;");
        for (int kind = 0; kind < 6; kind++) {
            due("saying(" + kind + ", 0)", x.saying(kind, 0), kind);
            due("saying(" + kind + ", 1)", x.saying(kind, 1), kind);
            due("saying(" + kind + ", 2)", x.saying(kind, 2), kind % 4);
        }
        due("a close of 96 letters", closeOf("b0;".repeat(32)), 32);
    }

    private static void closeFaultsOfLetters() {
        promise = 3;
        String[] texts = {"", "x", "S", ";", "s", "sg", "sg0", "sg00", "sx", "sgx", "sg/", "sg:", "sg0;", "sg0:0;",
            "sg00:", "sg000;", "sg00;;", "sg00;x", "sg00;t", "sg00;sq00;", "t", "t;", "ta", "t0", "t0a", "t00;", "w0;", "w00",
            "w000;", "a0;", "a00", "ab0;", "b;", "b0", "b00;", "d6;", "d60", "d601;", "d;", "dx", "t9;x", "sg04;t", " sg00;",
            "sg00; ", "0", "g"};
        int[] places = {0, 0, 0, 0, 1, 2, 3, 4, 1, 2, 2, 2, 3, 3, 4, 4, 5, 5, 6, 6, 1, 1, 1, 2, 2, 2, 2, 3, 3, 2, 3, 1, 1, 2, 2, 2, 3,
            3, 1, 1, 3, 6, 0, 5, 0, 0};
        due("texts told", texts.length, places.length);
        for (int i = 0; i < texts.length; i++) due("close() of " + texts[i], closeOf(texts[i]), -1000 - places[i]);
        due("close() of 96 letters s", closeOf("s".repeat(96)), -1001);
        due("close() with a letter 255", closeOf("b0;" + (char) 255), -1003);
        due("close() with a letter 0", closeOf("b" + (char) 0), -1001);
        due("close() that lacks something at 96", closeOf("b0;".repeat(31) + "sg0"), -1096);
    }

    private static void closeFaultsOfStatements() {
        promise = 3;
        String[] texts = {"sg04;", "sg09;", "t0;", "w00;", "a00;", "sg00;t1;", "sg00;w10;", "sg00;a10;", "sg00;a04;", "b4;", "b9;",
            "d00;", "d61;", "d99;", "d60;b4;d00;", "t0;sg00;", "sg00;".repeat(10), "sg00;".repeat(9) + "t8;sg00;"};
        int[] places = {0, 0, 0, 0, 0, 5, 5, 5, 5, 0, 0, 0, 0, 0, 4, 0, 45, 48};
        due("texts told", texts.length, places.length);
        for (int i = 0; i < texts.length; i++) due("close() of " + texts[i], closeOf(texts[i]), -2000 - places[i]);
        NestsOfTalk x = new NestsOfTalk();
        due("close() with a fault behind", tell(x, "sp00;d05;b4;"), -2009);
        due("count(0): nothing came", x.count(0), 0);
        due("count(1): nothing came", x.count(1), 0);
        due("count(2): nothing came", x.count(2), 0);
        due("count(7): the letters are no more", x.count(7), 0);
        due("close() with a letter's fault behind", tell(x, "sp00;d05;b"), -1010);
        due("count(0): nothing came", x.count(0), 0);
        due("count(7): the letters are no more", x.count(7), 0);
        refused(x, 0, 0, 0, 0, 0);
        due("days by the text", tell(x, "d60;".repeat(16)), 16);
        due("close() beyond DAY 999", tell(x, "d20;d20;"), -2004);
        due("count(1)", x.count(1), 960);
        due("close() up to DAY 999", tell(x, "d39;"), 1);
        due("close() beyond DAY 999", tell(x, "d01;"), -2000);
        due("count(1)", x.count(1), 999);
    }

    private static void saying() {
        promise = 4;
        NestsOfTalk x = told("sg70;sp71;sm72;sh73;st70;sl71;");
        int[][] worth = {{7, 1, 1}, {10, 0, 1}, {0, 5, 2}, {3, 1, 1}, {1, 8, 3}, {20, 0, 1}};
        int[][] worthAtFive = {{5, 1, 1}, {8, 0, 1}, {0, 4, 2}, {2, 1, 1}, {1, 7, 3}, {16, 0, 1}};
        int[][] worthAtFour = {{4, 1, 1}, {7, 0, 1}, {0, 4, 2}, {2, 1, 1}, {1, 7, 3}, {0, 0, 1}};
        int[][] worthAtThree = {{3, 1, 1}, {6, 0, 1}, {0, 3, 2}, {1, 1, 1}, {1, 6, 3}, {0, 0, 1}};
        int[][] worthAtTwo = {{2, 1, 1}, {5, 0, 1}, {0, 3, 2}, {1, 1, 0}, {1, 6, 3}, {0, 0, 1}};
        int[][] worthAtNone = {{0, 1, 1}, {3, 0, 1}, {0, 2, 2}, {0, 1, 0}, {1, 5, 3}, {0, 0, 1}};
        worthIs(x, 0, worth);
        worthIs(x, 2, worthAtFive);
        worthIs(x, 3, worthAtFour);
        worthIs(x, 4, worthAtThree);
        worthIs(x, 5, worthAtTwo);
        worthIs(x, 7, worthAtNone);
        worthIs(x, 9, worthAtNone);
        due("saying(3, 0)", x.saying(3, 0), 3);
        due("saying(3, 1)", x.saying(3, 1), 7);
        due("saying(3, 2)", x.saying(3, 2), 3);
        due("saying(3, 3)", x.saying(3, 3), 9);
        due("saying(3, 4)", x.saying(3, 4), 0);
        x.takes(3);
        due("saying(3, 4)", x.saying(3, 4), 1);
        due("saying(6, 0)", x.saying(6, 0), -1);
        due("saying(-1, 0)", x.saying(-1, 0), -1);
        due("saying(6, 9)", x.saying(6, 9), -1);
        due("saying(0, 8)", x.saying(0, 8), -2);
        due("saying(0, -1)", x.saying(0, -1), -2);
        due("saying(most, least)", x.saying(Integer.MAX_VALUE, Integer.MIN_VALUE), -1);
        refused(x, 4, 2, 0, 0, 0);
    }

    private static void worthIs(NestsOfTalk x, int worn, int[][] worth) {
        for (int s = 0; s < 6; s++) {
            x.wears(s, worn);
            for (int i = 0; i < 3; i++) {
                due("saying(" + s + ", " + (5 + i) + ") worn " + worn, x.saying(s, 5 + i), worth[s][i]);
            }
        }
    }

    private static void nestIs(NestsOfTalk x, int woman, int... want) {
        for (int what = 0; what < want.length; what++) due("nest(" + woman + ", " + what + ")", x.nest(woman, what), want[what]);
    }

    private static void nest() {
        promise = 5;
        NestsOfTalk x = told("sg50;sp70;sl80;sm90;sp31;");
        nestIs(x, 0, 0, 0, 0, 0, 1, 0);
        x.takes(0);
        nestIs(x, 0, 1, 5, 1, 1, 1, 0);
        x.takes(1);
        nestIs(x, 0, 3, 15, 1, 2, 0, 1);
        x.takes(2);
        nestIs(x, 0, 7, 37, 1, 3, 0, 2);
        x.takes(3);
        nestIs(x, 0, 15, 37, 7, 5, 1, 0);
        nestIs(x, 1, 0, 0, 0, 0, 1, 0);
        x.takes(4);
        nestIs(x, 1, 16, 6, 0, 1, 0, 1);
        due("nest(4, 0)", x.nest(4, 0), -1);
        due("nest(-1, 6)", x.nest(-1, 6), -1);
        due("nest(3, 6)", x.nest(3, 6), -2);
        due("nest(0, -1)", x.nest(0, -1), -2);
        refused(x, 2, 2, 0, 0, 0);
    }

    private static void takes() {
        promise = 6;
        NestsOfTalk x = told("sg50;sg51;");
        due("takes(1)", x.takes(1), 1);
        due("nest(1, 0)", x.nest(1, 0), 2);
        due("nest(0, 0)", x.nest(0, 0), 0);
        due("takes(1)", x.takes(1), 0);
        due("nest(1, 0)", x.nest(1, 0), 0);
        due("takes(2)", x.takes(2), -1);
        due("takes(-1)", x.takes(-1), -1);
        due("takes(9)", x.takes(9), -1);
        due("takes(32)", x.takes(32), -1);
        refused(x, 4, 0, 0, 0, 0);
        x.days(1);
        due("takes(0) of what a bird took", x.takes(0), 0);
        due("count(2): nothing fell by it", x.count(2), 0);
    }

    private static void wears() {
        promise = 7;
        NestsOfTalk x = told("sg50;t0;");
        due("wears(0, 9)", x.wears(0, 9), 0);
        due("wears(0, 3)", x.wears(0, 3), 9);
        due("wears(0, 0)", x.wears(0, 0), 3);
        due("wears(0, -1)", x.wears(0, -1), -4);
        due("wears(0, 10)", x.wears(0, 10), -6);
        due("wears(1, 10)", x.wears(1, 10), -1);
        due("wears(1, -1)", x.wears(1, -1), -1);
        due("wears(-1, 0)", x.wears(-1, 0), -1);
        due("saying(0, 3)", x.saying(0, 3), 0);
        due("saying(0, 4)", x.saying(0, 4), 1);
        refused(x, 3, 0, 0, 1, 1);
    }

    private static void concerns() {
        promise = 8;
        NestsOfTalk x = told("sg50;sg61;t0;t1;w04;");
        due("concerns(0, 2)", x.concerns(0, 2), 0);
        due("saying(0, 2)", x.saying(0, 2), 2);
        due("saying(0, 4)", x.saying(0, 4), 0);
        due("saying(0, 3)", x.saying(0, 3), 4);
        due("saying(1, 4)", x.saying(1, 4), 1);
        due("concerns(1, 1): SAID then", x.concerns(1, 1), 1);
        due("saying(1, 4)", x.saying(1, 4), 0);
        due("count(2): nothing fell", x.count(2), 0);
        due("concerns(0, 3)", x.concerns(0, 3), 2);
        x.takes(0);
        due("nest(3, 0)", x.nest(3, 0), 1);
        due("concerns(0, 4)", x.concerns(0, 4), -1);
        due("concerns(0, -1)", x.concerns(0, -1), -1);
        due("concerns(2, 0)", x.concerns(2, 0), -1);
        due("concerns(-1, 4)", x.concerns(-1, 4), -1);
        due("saying(0, 4)", x.saying(0, 4), 1);
        refused(x, 4, 0, 0, 0, 0);
    }

    private static void boy() {
        promise = 9;
        NestsOfTalk x = told("sg50;sg60;sg71;t0;t1;t2;");
        due("boy(0)", x.boy(0), 2);
        due("nest(0, 0)", x.nest(0, 0), 0);
        due("nest(1, 0)", x.nest(1, 0), 4);
        due("talk()", x.talk(), 3);
        due("count(2)", x.count(2), 1);
        due("boy(0)", x.boy(0), -3);
        due("boy(4)", x.boy(4), -1);
        due("boy(-1)", x.boy(-1), -1);
        due("boy(1)", x.boy(1), 1);
        due("count(2)", x.count(2), 2);
        refused(x, 2, 0, 1, 0, 0);
    }

    private static void turn() {
        promise = 10;
        NestsOfTalk x = told("sg50;t0;w02;");
        due("turn(0, 5, 9)", x.turn(0, 5, 9), 5);
        due("saying(0, 0)", x.saying(0, 0), 5);
        due("saying(0, 1)", x.saying(0, 1), 9);
        due("saying(0, 3)", x.saying(0, 3), 2);
        due("saying(0, 4)", x.saying(0, 4), 1);
        due("saying(0, 5)", x.saying(0, 5), 20);
        due("turn(0, 0, 0)", x.turn(0, 0, 0), 59);
        due("turn(1, 6, 10)", x.turn(1, 6, 10), -1);
        due("turn(0, 6, 10)", x.turn(0, 6, 10), -2);
        due("turn(0, -1, -1)", x.turn(0, -1, -1), -2);
        due("turn(0, 1, -1)", x.turn(0, 1, -1), -4);
        due("turn(0, 1, 10)", x.turn(0, 1, 10), -6);
        due("turn(0, 3, 4)", x.turn(0, 3, 4), 0);
        refused(x, 1, 2, 0, 1, 1);
    }

    private static void days() {
        promise = 11;
        NestsOfTalk x = told("sg50;sp70;");
        due("days(1)", x.days(1), 0);
        due("nest(0, 0)", x.nest(0, 0), 1);
        due("days(1)", x.days(1), 1);
        due("nest(0, 0)", x.nest(0, 0), 0);
        due("count(5)", x.count(5), 0);
        due("days(1)", x.days(1), 1);
        due("nest(0, 0)", x.nest(0, 0), 1);
        due("count(5): both worn", x.count(5), 2);
        due("days(3)", x.days(3), 3);
        due("saying(0, 3)", x.saying(0, 3), 2);
        due("days(0)", x.days(0), -4);
        due("days(-5)", x.days(-5), -4);
        due("days(61)", x.days(61), -6);
        due("days(most)", x.days(Integer.MAX_VALUE), -6);
        due("count(1)", x.count(1), 6);
        due("days(60)", x.days(60), 33);
        due("saying(0, 3): 9 at most", x.saying(0, 3), 9);
        refused(x, 0, 0, 0, 2, 2);
        x = told("sp00;sp01;sp02;sp03;d60;d60;d60;d60;");
        due("days(9)", x.days(9), 996);
        due("days(1): 999 at most", x.days(1), 999);
        due("days(60)", x.days(60), 999);
        x.takes(0);
        due("boy(0)", x.boy(0), 1);
        due("count(2): 999 at most", x.count(2), 999);
        tell(x, "d60;d60;d60;d60;d60;d60;d60;d60;d60;d60;d60;");
        due("count(1)", x.count(1), 970);
        due("days(30)", x.days(30), -6);
        due("days(29)", x.days(29), 999);
        due("days(1)", x.days(1), -6);
        due("days(0)", x.days(0), -4);
        due("count(1)", x.count(1), 999);
        birdsByNumbers();
    }

    private static void birdsByNumbers() {
        NestsOfTalk x = told("sg91;sg90;sg90;sg81;t2;");
        x.days(1);
        due("each bird takes the least", x.count(3), 7);
        x.days(1);
        due("and one a day", x.count(3), 15);
        x = told("sm20;sp50;t0;t1;");
        due("days(2): it holds by 3 and 3", x.days(2), 0);
        due("days(1): worn ahead of the fall", x.days(1), 1);
        due("talk()", x.talk(), 3);
        x = told("sp20;sm50;sp51;t0;");
        due("days(1): the bird's mud holds the praise", x.days(1), 1);
        due("nest(0, 0)", x.nest(0, 0), 3);
        x = told("sp20;t0;");
        due("days(1): a nest that does not hold falls", x.days(1), 1);
    }

    private static void nestThen() {
        promise = 12;
        NestsOfTalk x = told("sg50;sp70;");
        due("nestThen(0, 0, 0)", x.nestThen(0, 0, 0), 0);
        due("nestThen(0, 1, 0)", x.nestThen(0, 1, 0), 1);
        due("nestThen(0, 2, 0)", x.nestThen(0, 2, 0), 0);
        due("nestThen(0, 1, 1)", x.nestThen(0, 1, 1), 5);
        due("nestThen(0, 3, 1)", x.nestThen(0, 3, 1), 4);
        due("nestThen(0, 59, 1)", x.nestThen(0, 59, 1), 0);
        due("nestThen(0, 60, 0)", x.nestThen(0, 60, 0), 0);
        x = told("sm91;t0;d01;");
        due("nestThen(1, 1, 2)", x.nestThen(1, 1, 2), 6);
        due("nestThen(1, 2, 2): DAY 3", x.nestThen(1, 2, 2), 6);
        due("nestThen(1, 5, 2): DAY 6", x.nestThen(1, 5, 2), 5);
        due("nestThen(1, 5, 3)", x.nestThen(1, 5, 3), 2);
        due("count(1): only in mind", x.count(1), 1);
        due("saying(0, 3): only in mind", x.saying(0, 3), 0);
        due("nestThen(4, -1, 4)", x.nestThen(4, -1, 4), -1);
        due("nestThen(0, -1, 4)", x.nestThen(0, -1, 4), -4);
        due("nestThen(0, 61, 4)", x.nestThen(0, 61, 4), -6);
        due("nestThen(0, 60, 4)", x.nestThen(0, 60, 4), -2);
        due("nestThen(0, 0, -1)", x.nestThen(0, 0, -1), -2);
        refused(x, 1, 2, 0, 1, 1);
    }

    private static void robbedThen() {
        promise = 13;
        NestsOfTalk x = told("sg50;sp70;");
        due("robbedThen(0)", x.robbedThen(0), 0);
        due("robbedThen(1)", x.robbedThen(1), 0);
        due("robbedThen(2)", x.robbedThen(2), 1);
        due("robbedThen(60)", x.robbedThen(60), 30);
        due("robbedThen(-1)", x.robbedThen(-1), -4);
        due("robbedThen(61)", x.robbedThen(61), -6);
        due("count(2): only in mind", x.count(2), 0);
        refused(x, 0, 0, 0, 1, 1);
        x = told("sp00;sp01;sp02;sp03;d60;d60;d60;d60;");
        due("robbedThen(9)", x.robbedThen(9), 996);
        due("robbedThen(10): 999 at most", x.robbedThen(10), 999);
        x = told("d60;d60;d60;d60;d60;d60;d60;d60;d60;d60;d60;d60;d60;d60;d60;d60;");
        due("days(39)", x.days(39), 0);
        tell(x, "sp30;");
        due("robbedThen(60): in thought DAY may pass 999", x.robbedThen(60), 60);
    }

    private static void falls() {
        promise = 14;
        NestsOfTalk x = told("sg50;sp70;sg51;sp02;sm23;sp03;");
        due("falls(0)", x.falls(0), 2);
        due("falls(1)", x.falls(1), -9);
        due("falls(2)", x.falls(2), 1);
        due("falls(3)", x.falls(3), 3);
        due("falls(4)", x.falls(4), -1);
        due("falls(-1)", x.falls(-1), -1);
        due("count(2): only in mind", x.count(2), 0);
        refused(x, 2, 0, 0, 0, 0);
        // Mud of figure 9 with ten weights more: it binds 6 down to 2 as days go by.
        x = told("sm90;sp00;sp00;");
        due("falls(0): at FRESH 3, DAY 18", x.falls(0), 18);
    }

    private static void first() {
        promise = 15;
        NestsOfTalk x = told("sg50;sp70;sg51;sp11;");
        due("first(0)", x.first(0), 0);
        due("first(1)", x.first(1), 2);
        due("first(2)", x.first(2), -9);
        x = told("sg50;sp70;sp13;sp12;");
        due("first(0)", x.first(0), 2);
        due("first(1)", x.first(1), 1);
        x = told("sg50;sg60;sg71;");
        due("first(0)", x.first(0), -9);
        due("first(1)", x.first(1), -9);
        due("first(2)", x.first(2), 2);
        due("first(3)", x.first(3), -2);
        due("first(-1)", x.first(-1), -2);
        refused(x, 0, 2, 0, 0, 0);
        x = told("sp50;");
        due("first(2): taken and fallen on a day is nothing changed", x.first(2), 0);
        x = told("sp50;t0;");
        due("first(2)", x.first(2), 1);
        x = told("sg50;t0;");
        due("first(2): all taken", x.first(2), 0);
    }

    private static void cushion() {
        promise = 16;
        NestsOfTalk x = told("sg90;sg90;sg90;sg91;sg91;sg91;");
        due("cushion(0): 8 and 8 and 8 on DAY 3", x.cushion(0), 3);
        due("cushion(1)", x.cushion(1), 0);
        x = told("sm92;sl92;");
        due("cushion(0)", x.cushion(0), 2);
        due("cushion(1)", x.cushion(1), 2);
        x = told("sl73;t0;");
        due("cushion(0): 20 now", x.cushion(0), 0);
        due("cushion(1)", x.cushion(1), 3);
        x = told("sg90;sg90;sg10;t0;t1;t2;");
        due("cushion(0): 19 is too little", x.cushion(0), -9);
        due("cushion(1)", x.cushion(1), -9);
        due("cushion(2)", x.cushion(2), -2);
        due("cushion(-1)", x.cushion(-1), -2);
        refused(x, 0, 2, 0, 0, 0);
        x = told("sg90;sg90;sg90;d03;");
        due("cushion(0): all three are in, 24", x.cushion(0), 0);
        // The seven of figure 9 are 8 less a third of the days each, one more a day.
        x = told("sg60;sg60;sg60;sg60;sg60;sg60;sg60;");
        due("cushion(0): 4 times 5 on DAY 4", x.cushion(0), 4);
    }

    private static void more() {
        promise = 17;
        NestsOfTalk x = told("sp50;sg90;sm01;sm20;sm40;sp30;t0;");
        due("more(0): mud of 2 or of 4, the least", x.more(0), 8);
        x.takes(5);
        due("more(0): two lack, mud of 4", x.more(0), 16);
        x.turn(4, 0, 4);
        due("more(0): no set binds two more than it weighs", x.more(0), -9);
        due("more(1): it holds", x.more(1), 0);
        due("more(3): it is empty", x.more(3), 0);
        due("more(4)", x.more(4), -1);
        due("more(-1)", x.more(-1), -1);
        refused(x, 2, 0, 0, 0, 0);
        x = told("sp00;sp00;sp00;sm20;sm30;sm20;sm21;t0;t1;t2;");
        due("more(0): all three of hers", x.more(0), 56);
        x.concerns(5, 1);
        due("more(0)", x.more(0), -9);
    }

    private static void softest() {
        promise = 18;
        NestsOfTalk x = told("sg50;sp70;sm90;sh40;st31;sl81;sp62;sg92;");
        due("softest(0, 0)", x.softest(0, 0), 15);
        due("softest(0, 1)", x.softest(0, 1), 17);
        due("softest(1, 0)", x.softest(1, 0), 48);
        due("softest(1, 1)", x.softest(1, 1), 23);
        due("softest(2, 0): the praise can't be held", x.softest(2, 0), 128);
        due("softest(2, 1)", x.softest(2, 1), 9);
        due("softest(3, 0)", x.softest(3, 0), 0);
        due("softest(3, 1)", x.softest(3, 1), 0);
        x.takes(6);
        due("softest(2, 0): SAID or IN", x.softest(2, 0), 128);
        due("softest(4, 2)", x.softest(4, 2), -1);
        due("softest(0, 2)", x.softest(0, 2), -2);
        due("softest(0, -1)", x.softest(0, -1), -2);
        refused(x, 1, 2, 0, 0, 0);
        x = told("sm20;sp40;sp40;sg00;");
        due("softest(0, 0): the least of two praises, and no gossip of 0", x.softest(0, 0), 3);
        due("softest(0, 1)", x.softest(0, 1), 7);
    }

    private static void prop() {
        promise = 19;
        NestsOfTalk x = told("sm90;sp70;sg50;sp30;sm21;sm21;sp21;t0;t1;t2;t4;t5;t6;");
        due("prop(0): the mud alone", x.prop(0), 1);
        due("prop(1): one mud is enough", x.prop(1), 0);
        x.takes(5);
        due("prop(1)", x.prop(1), 16);
        due("prop(2)", x.prop(2), 0);
        x.takes(0);
        due("prop(0): it does not hold, nor without the gossip", x.prop(0), 4);
        x.takes(3);
        due("prop(0): nor without any", x.prop(0), 14);
        due("prop(4)", x.prop(4), -1);
        due("prop(-1)", x.prop(-1), -1);
        refused(x, 2, 0, 0, 0, 0);
    }

    private static void lighten() {
        promise = 20;
        NestsOfTalk x = told("sg50;sp50;sp50;sm00;t0;t1;");
        due("lighten(0)", x.lighten(0), 2);
        x.takes(2);
        due("lighten(0)", x.lighten(0), 6);
        x.takes(1);
        due("lighten(0)", x.lighten(0), 4);
        due("lighten(1): it is empty", x.lighten(1), 0);
        due("lighten(4)", x.lighten(4), -1);
        due("lighten(-1)", x.lighten(-1), -1);
        refused(x, 2, 0, 0, 0, 0);
        x = told("sm20;sp50;sp50;t0;t1;t2;");
        due("lighten(0): either praise, the least", x.lighten(0), 2);
        x = told("sg50;t0;");
        due("lighten(0): it holds", x.lighten(0), 0);
    }

    private static void about() {
        promise = 21;
        NestsOfTalk x = told("sp50;sm21;sm22;sg42;t1;t2;t3;");
        due("about(0, 0): with mud and gossip", x.about(0, 0), 2);
        due("about(0, 1)", x.about(0, 1), 12);
        due("saying(0, 2): only in mind", x.saying(0, 2), 0);
        due("saying(0, 4): only in mind", x.saying(0, 4), 0);
        due("about(3, 0): where it is", x.about(3, 0), 0);
        due("about(3, 1)", x.about(3, 1), 4);
        x.takes(2);
        due("about(0, 0): only where mud is left", x.about(0, 0), 1);
        due("about(0, 1)", x.about(0, 1), 8);
        x.takes(1);
        due("about(0, 0)", x.about(0, 0), -9);
        due("about(0, 1)", x.about(0, 1), 0);
        due("about(4, 2)", x.about(4, 2), -1);
        due("about(-1, 0)", x.about(-1, 0), -1);
        due("about(0, 2)", x.about(0, 2), -2);
        due("about(0, -1)", x.about(0, -1), -2);
        refused(x, 2, 2, 0, 0, 0);
        x = told("sp90;sg10;t0;t1;");
        due("about(1, 0): in her own nest once", x.about(1, 0), 1);
        due("about(1, 1)", x.about(1, 1), 1);
        x = told("sm20;t0;");
        due("about(0, 0): as soft with all", x.about(0, 0), 0);
    }

    private static void known() {
        promise = 22;
        NestsOfTalk x = told("sg53;sg52;");
        due("known()", x.known(), 2);
        tell(x, "sg63;t0;");
        due("known(): SAID or IN", x.known(), 3);
        tell(x, "sg60;sg60;");
        due("known(): of several the least", x.known(), 0);
        due("known() of none", new NestsOfTalk().known(), 0);
    }

    private static void lodge() {
        promise = 23;
        NestsOfTalk x = told("sg51;sg52;sg63;sp90;");
        due("lodge(): all are empty", x.lodge(), -9);
        x.takes(3);
        due("lodge(): it does not hold", x.lodge(), -9);
        x.takes(1);
        due("lodge()", x.lodge(), 2);
        x.takes(0);
        due("lodge(): of several the least", x.lodge(), 1);
        x.takes(2);
        due("lodge()", x.lodge(), 3);
        x = told("sm51;t0;");
        due("lodge(): not soft, but not empty", x.lodge(), 1);
    }

    private static void fullest() {
        promise = 24;
        NestsOfTalk x = told("sg51;sp92;sp92;sg93;sg93;");
        due("fullest()", x.fullest(), -9);
        x.takes(1);
        due("fullest(): it need not hold", x.fullest(), 2);
        x.takes(0);
        due("fullest(): of several the least", x.fullest(), 1);
        x.takes(3);
        x.takes(4);
        due("fullest()", x.fullest(), 3);
        x.takes(2);
        due("fullest()", x.fullest(), 2);
    }

    private static void talk() {
        promise = 25;
        NestsOfTalk x = told("sg51;sp92;sg00;");
        due("talk()", x.talk(), 7);
        x.takes(1);
        due("talk()", x.talk(), 5);
        due("talk() of none", new NestsOfTalk().talk(), 0);
        due("talk() of nine", told("sg00;".repeat(9)).talk(), 511);
    }

    private static void keep() {
        promise = 26;
        NestsOfTalk x = told("sm20;sp50;");
        due("keep(2): none falls", x.keep(2), -9);
        due("keep(3)", x.keep(3), 0);
        due("saying(0, 3): only in mind", x.saying(0, 3), 0);
        due("keep(0)", x.keep(0), -4);
        due("keep(61)", x.keep(61), -6);
        due("keep(60)", x.keep(60), 0);
        refused(x, 0, 0, 0, 1, 1);
        x = told("sg50;sp50;");
        due("keep(60): wear is nothing here", x.keep(60), -9);
        x = told("sm21;sp51;sm20;sp50;");
        due("keep(3): of several the least", x.keep(3), 0);
        due("keep(1)", x.keep(1), -9);
        // Falls are counted also where ROBBED can't grow.
        x = told("sp01;sp02;sp03;sp00;d60;d60;d60;d60;d60;");
        due("count(2)", x.count(2), 999);
        tell(x, "a01;a11;a21;a31;sm20;sp50;");
        due("count(1)", x.count(1), 300);
        due("keep(3)", x.keep(3), 4);
        due("hush(3)", x.hush(3), 5);
    }

    private static void hush() {
        promise = 27;
        NestsOfTalk x = told("sg50;sp50;");
        due("hush(1): none falls", x.hush(1), -9);
        due("hush(2)", x.hush(2), 1);
        due("saying(1, 4): only in mind", x.saying(1, 4), 0);
        due("talk(): only in mind", x.talk(), 3);
        due("hush(0)", x.hush(0), -4);
        due("hush(61)", x.hush(61), -6);
        due("hush(60)", x.hush(60), 1);
        refused(x, 0, 0, 0, 1, 1);
        x = told("sp50;sg50;t0;t1;");
        due("hush(1): out of the nest at once", x.hush(1), 0);
        x = told("sp52;sp51;");
        due("hush(5): of several the least", x.hush(5), 0);
        x = told("sp52;sp52;");
        due("hush(5): the other is taken then", x.hush(5), -9);
    }

    private static void add() {
        promise = 28;
        NestsOfTalk x = new NestsOfTalk();
        due("add(0, 0, 0)", x.add(0, 0, 0), 0);
        due("add(0, 0, 1)", x.add(0, 0, 1), 0);
        due("add(2, 1, 0)", x.add(2, 1, 0), 0);
        due("add(2, 1, 1)", x.add(2, 1, 1), 9);
        due("add(2, 60, 0): gossip is of 0 then, truth of 1", x.add(2, 60, 0), 4);
        due("add(2, 60, 1)", x.add(2, 60, 1), 1);
        tell(x, "sm92;t0;");
        due("add(2, 1, 0): a lie that holds", x.add(2, 1, 0), 5);
        due("add(2, 1, 1)", x.add(2, 1, 1), 24);
        due("add(2, 15, 0): of FRESH 4 it is nothing", x.add(2, 15, 0), 1);
        due("count(0): only in mind", x.count(0), 1);
        due("add(4, -1, 2)", x.add(4, -1, 2), -1);
        due("add(0, -1, 2)", x.add(0, -1, 2), -4);
        due("add(0, 61, 2)", x.add(0, 61, 2), -6);
        due("add(0, 60, 2)", x.add(0, 60, 2), -2);
        due("add(0, 60, -1)", x.add(0, 60, -1), -2);
        refused(x, 1, 2, 0, 1, 1);
        x = told("sg50;".repeat(8));
        due("add(1, 1, 0): room for one", x.add(1, 1, 0), 0);
        tell(x, "sg50;");
        due("add(1, 1, 0)", x.add(1, 1, 0), -9);
        due("add(1, 1, 1)", x.add(1, 1, 1), -9);
        due("add(1, 1, 2)", x.add(1, 1, 2), -2);
    }

    private static void two() {
        promise = 29;
        NestsOfTalk x = new NestsOfTalk();
        due("two(0, 1, 0)", x.two(0, 1, 0), 0);
        due("two(0, 1, 30): a truth makes the other's softer", x.two(0, 1, 30), 0);
        due("two(0, 0, 31)", x.two(0, 0, 31), -1);
        due("two(4, 0, 0)", x.two(4, 0, 0), -1);
        due("two(0, 4, -1)", x.two(0, 4, -1), -1);
        due("two(-1, 0, 0)", x.two(-1, 0, 0), -1);
        due("two(0, -1, 0)", x.two(0, -1, 0), -1);
        due("two(0, 1, -1)", x.two(0, 1, -1), -4);
        due("two(0, 1, 31)", x.two(0, 1, 31), -6);
        due("count(0): only in mind", x.count(0), 0);
        refused(x, 5, 0, 0, 1, 1);
        // Where a truth more lets a nest fall later, it may lie fallen on the day that is asked for.
        x = told("sm80;sm90;sp80;sp90;sp10;sp60;");
        due("two(0, 1, 23)", x.two(0, 1, 23), 1);
        due("two(1, 0, 23)", x.two(1, 0, 23), 10);
        x = told("st91;sl01;sl71;sp61;sl71;sl31;");
        due("two(0, 1, 28)", x.two(0, 1, 28), 10);
        due("two(1, 0, 28)", x.two(1, 0, 28), 1);
        x = told("st80;sp30;sp50;sg01;sp10;sp00;st51;sl70;");
        due("two(0, 1, 22): eight, so only the first's has room", x.two(0, 1, 22), 11);
        tell(x, "sg03;");
        due("two(0, 1, 22): nine, nothing is told", x.two(0, 1, 22), 0);
        due("two(0, 1, 12): by FIGURE 4 or 6 it were 0", told("sm60;sm60;sl90;sl50;sl90;sp00;sm40;sp40;").two(0, 1, 12), 11);
        due("two(0, 1, 24): not by 1, which the other had better leave",
            told("sm20;st91;st40;sp31;sp01;sl21;sp41;sp31;").two(0, 1, 24), 10);
    }

    private static void rain() {
        promise = 30;
        NestsOfTalk x = told("sm20;sp50;");
        due("rain(0, 0, 2, 0)", x.rain(0, 0, 2, 0), 0);
        due("rain(0, 0, 2, 1)", x.rain(0, 0, 2, 1), 1);
        due("rain(0, 1, 2, 0): no rain on what is SAID", x.rain(0, 1, 2, 0), 1);
        due("rain(0, 1, 2, 1)", x.rain(0, 1, 2, 1), 1);
        due("rain(0, 2, 3, 0): rain on the mud", x.rain(0, 2, 3, 0), 2);
        due("rain(0, 2, 3, 1)", x.rain(0, 2, 3, 1), 3);
        due("rain(0, 2, 20, 0)", x.rain(0, 2, 20, 0), 19);
        due("rain(0, 2, 20, 1)", x.rain(0, 2, 20, 1), 20);
        due("rain(0, 3, 4, 0): dry on DAY 2, it falls on DAY 3, else taken up", x.rain(0, 3, 4, 0), 1);
        due("rain(0, 3, 4, 1)", x.rain(0, 3, 4, 1), 4);
        due("rain(1, 7, 20, 0)", x.rain(1, 7, 20, 0), 0);
        due("rain(1, 7, 20, 1)", x.rain(1, 7, 20, 1), 1);
        due("rain(0, 2, 4, 0), the mud alone in her nest", told("sm20;sp50;").rain(0, 2, 4, 0), 3);
        due("rain(4, -1, 1, 2)", x.rain(4, -1, 1, 2), LONG + 1);
        due("rain(0, -1, 21, 2)", x.rain(0, -1, 21, 2), LONG + 4);
        due("rain(0, 8, 1, 2)", x.rain(0, 8, 1, 2), LONG + 4);
        due("rain(0, 8, 2, 2)", x.rain(0, 8, 2, 2), LONG + 6);
        due("rain(0, 7, 21, 2)", x.rain(0, 7, 21, 2), LONG + 6);
        due("rain(0, 7, 20, 2)", x.rain(0, 7, 20, 2), LONG + 2);
        due("rain(0, 7, 20, -1)", x.rain(0, 7, 20, -1), LONG + 2);
        refused(x, 1, 2, 0, 2, 2);
        due("saying(0, 3): only in mind", x.saying(0, 3), 0);
        // It holds by 4 and 4 till the first rain; fallen on DAY 1 the mud is taken up dry on DAY 2.
        x = told("sm40;sp00;sp00;t0;t1;t2;sp01;");
        due("rain(0, 1, 2, 0)", x.rain(0, 1, 2, 0), 1);
        due("rain(0, 1, 2, 1)", x.rain(0, 1, 2, 1), 2);
        due("rain(0, 2, 2, 0)", x.rain(0, 2, 2, 0), 3);
        due("rain(0, 2, 2, 1)", x.rain(0, 2, 2, 1), 4);
        due("rain(0, 2, 3, 0)", x.rain(0, 2, 3, 0), 7);
        due("rain(0, 2, 3, 1)", x.rain(0, 2, 3, 1), 9);
        // A truth stays for good, whatever falls on it.
        due("rain(2, 7, 20, 0)", told("st92;t0;").rain(2, 7, 20, 0), 1);
        due("rain(2, 7, 20, 1)", told("st92;t0;").rain(2, 7, 20, 1), 1);
        // WORN is 9 at most under rain, too.
        x = told("sm92;w08;t0;");
        due("rain(2, 7, 2, 0)", x.rain(2, 7, 2, 0), 1);
    }

    private static void mean() {
        promise = 31;
        NestsOfTalk x = told("sg50;sg41;sg32;sm53;t0;t1;");
        due("mean(0)", x.mean(0), 9);
        due("mean(1)", x.mean(1), 2);
        x.takes(2);
        due("mean(0)", x.mean(0), 4);
        due("mean(1)", x.mean(1), 1);
        x.takes(3);
        due("mean(0): a nest of mud, too", x.mean(0), 3);
        due("mean(1)", x.mean(1), 1);
        due("mean(2)", x.mean(2), LONG + 2);
        due("mean(-1)", x.mean(-1), LONG + 2);
        refused(x, 0, 2, 0, 0, 0);
        x = told("sg53;t0;");
        due("mean(0) of one", x.mean(0), 5);
        due("mean(1) of one", x.mean(1), 1);
        x = told("sm50;sm51;t0;t1;");
        due("mean(0)", x.mean(0), 0);
        due("mean(1)", x.mean(1), 1);
        x = new NestsOfTalk();
        due("mean(0) of none", x.mean(0), 0);
        due("mean(1) of none", x.mean(1), 1);
    }

    private static void whatWas() {
        promise = 32;
        NestsOfTalk x = told("sg50;t0;");
        due("whatWas(0, 0) by no row", x.whatWas(0, 0), 63);
        due("whatWas(0, 1) by no row", x.whatWas(0, 1), 1023);
        rowOf(x, 5, 5, 5, 4);
        due("whatWas(0, 0)", x.whatWas(0, 0), 1);
        due("whatWas(0, 1)", x.whatWas(0, 1), 32);
        due("count(6): the row stays", x.count(6), 4);
        due("saying(0, 0): only in mind", x.saying(0, 0), 0);
        due("saying(0, 1): only in mind", x.saying(0, 1), 5);
        rowOf(x, 5, 5, 5, 5);
        due("whatWas(0, 0)", x.whatWas(0, 0), 0);
        due("whatWas(0, 1)", x.whatWas(0, 1), 0);
        rowOf(x, 0);
        due("whatWas(0, 0): mud", x.whatWas(0, 0), 4);
        due("whatWas(0, 1): gossip of 0", x.whatWas(0, 1), 1);
        x.turn(0, 2, 2);
        due("whatWas(0, 0): mud, or a lie", x.whatWas(0, 0), 36);
        due("whatWas(0, 1): mud of any figure", x.whatWas(0, 1), 1023);
        rowOf(x, 1, 1);
        due("whatWas(0, 0): hearsay or truth", x.whatWas(0, 0), 24);
        rowOf(x, 16, 0);
        x.turn(0, 5, 5);
        due("whatWas(0, 0): the lie, which falls", x.whatWas(0, 0), 32);
        due("whatWas(0, 1)", x.whatWas(0, 1), 32);
        due("whatWas(1, 2)", x.whatWas(1, 2), -1);
        due("whatWas(-1, 0)", x.whatWas(-1, 0), -1);
        due("whatWas(0, 2)", x.whatWas(0, 2), -2);
        due("whatWas(0, -1)", x.whatWas(0, -1), -2);
        refused(x, 2, 2, 0, 0, 0);
        x = told("sg50;sg63;sg73;t1;");
        rowOf(x, 6, 13);
        due("whatWas(2, 0): of her nest, with what else is in it", x.whatWas(2, 0), 1);
        due("whatWas(2, 1)", x.whatWas(2, 1), 128);
    }

    private static void row() {
        promise = 33;
        NestsOfTalk x = new NestsOfTalk();
        due("row(0)", x.row(0), 1);
        due("row(99)", x.row(99), 2);
        due("row(-1)", x.row(-1), -4);
        due("row(100)", x.row(100), -6);
        for (int i = 3; i <= 16; i++) due("row(1)", x.row(1), i);
        due("row(1), the 17th", x.row(1), -6);
        due("row(-1), the 17th", x.row(-1), -4);
        due("count(6)", x.count(6), 16);
        refused(x, 0, 0, 0, 2, 2);
    }

    private static void judge() {
        promise = 34;
        NestsOfTalk x = told("sg50;sp70;");
        due("judge() of no row", x.judge(), -9);
        rowOf(x, 0, 1, 0, 1);
        due("judge()", x.judge(), -9);
        due("count(6)", x.count(6), 0);
        rowOf(x, 0, 1, 1, 0);
        due("judge()", x.judge(), 2);
        due("count(6)", x.count(6), 0);
        rowOf(x, 1);
        due("judge()", x.judge(), 0);
        due("count(1): only in mind", x.count(1), 0);
        rowOf(x, 0, 1, 0, 1, 0, 1, 0, 1, 0, 1, 0, 1, 0, 1, 0, 0);
        due("judge(): the last", x.judge(), 15);
        x = told("sg50;sg51;sg52;sg53;sg53;");
        rowOf(x, 0, 4, 5, 5);
        due("judge(): sayings in all nests", x.judge(), -9);
    }

    private static void clear() {
        promise = 35;
        NestsOfTalk x = new NestsOfTalk();
        due("clear()", x.clear(), 0);
        rowOf(x, 4, 4, 4);
        due("clear()", x.clear(), 3);
        due("count(6)", x.count(6), 0);
        due("clear()", x.clear(), 0);
        due("row(7)", x.row(7), 1);
    }

    private static void lots() {
        promise = 36;
        NestsOfTalk x = told("sp40;");
        due("lots(1, 0, 0): praise falls each day", x.lots(1, 0, 0), 15);
        due("lots(20, 0, 0)", x.lots(20, 0, 0), 300);
        due("lots(20, 0, 1)", x.lots(20, 0, 1), 0);
        x = told("sg90;t0;");
        due("lots(1, 0, 0)", x.lots(1, 0, 0), 0);
        due("lots(1, 0, 1): worn 5", x.lots(1, 0, 1), 4);
        due("lots(3, 0, 1): each spring from now", x.lots(3, 0, 1), 12);
        due("saying(0, 3): only in mind", x.saying(0, 3), 0);
        due("saying(0, 4): only in mind", x.saying(0, 4), 1);
        due("count(1): only in mind", x.count(1), 0);
        due("lots(0, 0, 2)", x.lots(0, 0, 2), -4);
        due("lots(21, 0, 2)", x.lots(21, 0, 2), -6);
        due("lots(20, 0, 2)", x.lots(20, 0, 2), -2);
        due("lots(1, 0, -1)", x.lots(1, 0, -1), -2);
        refused(x, 0, 2, 0, 1, 1);
        lotsDraw();
    }

    /** Gossip and praise about one woman fall 7 times in 15 days, about two 15 times: so falls tell two draws apart. */
    private static void lotsDraw() {
        NestsOfTalk x = told("sg90;sp01;");
        int[] seeds = {0, 1, 2, 3, 7, -1, -2, 123456789, Integer.MAX_VALUE, Integer.MIN_VALUE};
        for (int seed : seeds) {
            long word = seed & 0xffffffffL;
            int falls = 0;
            for (int spring = 1; spring <= 20; spring++) {
                word = (word * 1664525L + 1013904223L) % 4294967296L;
                long gossip = word % 2147483648L / 256 % 4;
                word = (word * 1664525L + 1013904223L) % 4294967296L;
                long praise = word % 2147483648L / 256 % 4;
                falls += gossip == praise ? 7 : 15;
                due("lots(" + spring + ", " + seed + ", 0)", x.lots(spring, seed, 0), falls);
                due("lots(" + spring + ", " + seed + ", 1)", x.lots(spring, seed, 1), spring * 4);
            }
        }
    }

    private static void imageAndOn() {
        promise = 37;
        NestsOfTalk x = told("sg50;sp70;d02;");
        due("on()", x.on(), -3);
        due("image()", x.image(), 2);
        rowOf(x, 1, 2);
        due("days(4)", x.days(4), 3);
        x.turn(0, 5, 9);
        x.concerns(1, 3);
        tell(x, "sl92;");
        x.letter('s');
        promise = 38;
        due("on()", x.on(), 2);
        due("count(0)", x.count(0), 2);
        due("count(1)", x.count(1), 2);
        due("count(2)", x.count(2), 1);
        due("count(5)", x.count(5), 0);
        due("saying(0, 0)", x.saying(0, 0), 0);
        due("saying(0, 1)", x.saying(0, 1), 5);
        due("saying(1, 2)", x.saying(1, 2), 0);
        due("talk()", x.talk(), 3);
        due("count(6): the row is not of it", x.count(6), 2);
        due("count(7): letters are not of it", x.count(7), 1);
        due("count(13): refusals are not of it", x.count(13), 1);
        due("days(1)", x.days(1), 1);
        due("on() once more", x.on(), 2);
        due("count(1)", x.count(1), 2);
        due("days(1)", x.days(1), 1);
        promise = 37;
        due("image()", x.image(), 3);
        due("days(1)", x.days(1), 2);
        due("image() is not of it", x.on(), 3);
        due("nest(0, 0)", x.nest(0, 0), 1);
        due("count(2)", x.count(2), 1);
        refused(x, 0, 0, 1, 0, 0);
    }

    /** What is thought for one call is forgotten for the next. */
    private static void thoughtsAreForgotten() {
        String[] texts = {"sm20;sp50;", "sg50;sp70;sg51;sp11;sg90;sg90;sg90;", "sp20;sl52;sm52;sm52;"};
        int[] promises = {12, 13, 14, 15, 15, 16, 26, 27, 28, 29, 30, 36, 32, 34};
        for (String text : texts) {
            long[] alone = new long[promises.length];
            for (int i = 0; i < alone.length; i++) alone[i] = thought(told(text), i);
            for (int i = 0; i < alone.length; i++) {
                NestsOfTalk x = told(text);
                for (int j = 0; j < alone.length; j++) {
                    thought(x, i);
                    promise = promises[j];
                    due("thought " + j + " behind thought " + i + " of " + text, thought(x, j), alone[j]);
                }
            }
        }
    }

    private static long thought(NestsOfTalk x, int which) {
        switch (which) {
            case 0: return x.nestThen(0, 7, 1);
            case 1: return x.robbedThen(9);
            case 2: return x.falls(0);
            case 3: return 100 * x.first(0) + x.first(1);
            case 4: return x.first(2);
            case 5: return 100 * x.cushion(0) + x.cushion(1);
            case 6: return x.keep(7);
            case 7: return x.hush(7);
            case 8: return 100 * x.add(0, 7, 0) + x.add(0, 7, 1);
            case 9: return x.two(0, 1, 7);
            case 10: return 1000 * x.rain(0, 3, 3, 0) + x.rain(0, 3, 3, 1);
            case 11: return x.lots(2, 5, 0);
            case 12: {
                x.row(0);
                int was = x.whatWas(1, 1);
                x.clear();
                return was;
            }
            default: {
                x.row(0);
                return x.judge();
            }
        }
    }

    private static void count() {
        promise = 39;
        NestsOfTalk x = told("sg50;sp71;sm92;sg40;t0;t2;t3;d03;w17;");
        due("count(0)", x.count(0), 4);
        due("count(1)", x.count(1), 3);
        due("count(2)", x.count(2), 3);
        due("count(3)", x.count(3), 13);
        due("count(4)", x.count(4), 7);
        due("count(5)", x.count(5), 10);
        rowOf(x, 1, 2, 3);
        due("count(6)", x.count(6), 3);
        x.letter(0);
        due("count(7)", x.count(7), 1);
        int[] others = {-1, 8, 9, 10, 17, 18, -9, 100, Integer.MIN_VALUE, Integer.MAX_VALUE};
        for (int what : others) due("count(" + what + ")", x.count(what), -9);
        refused(x, 0, 0, 0, 0, 0);
        x.boy(9);
        x.nest(0, 9);
        x.boy(3);
        x.row(-1);
        x.row(100);
        x.mean(5);
        x.rain(9, 0, 2, 0);
        refused(x, 2, 2, 1, 1, 1);
        due("count(3): refusals change nothing else", x.count(3), 13);
    }

    public static void main(String[] args) {
        newObject();
        letter();
        closeTells();
        closeFaultsOfLetters();
        closeFaultsOfStatements();
        saying();
        nest();
        takes();
        wears();
        concerns();
        boy();
        turn();
        days();
        nestThen();
        robbedThen();
        falls();
        first();
        cushion();
        more();
        softest();
        prop();
        lighten();
        about();
        known();
        lodge();
        fullest();
        talk();
        keep();
        hush();
        add();
        two();
        rain();
        mean();
        whatWas();
        row();
        judge();
        clear();
        lots();
        imageAndOn();
        thoughtsAreForgotten();
        count();
        System.out.println(answers + " answers looked at, " + wrong + " wrong");
        if (wrong != 0) System.exit(1);
    }
}
