/** Nests are of what was said about her: promises 1 to 39 of shared/DOC.md stand here. */
public final class NestsOfTalk {
    private static final int WOMEN = 4;
    private static final int MOST_SAYINGS = 9;
    private static final int MOST_FIGURE = 9;
    private static final int MOST_WORN = 9;
    private static final int MOST_ROBBED = 999;
    private static final int LAST_DAY = 999;
    private static final int MOST_DAYS = 60;
    private static final int MOST_DAYS_OF_TWO = 30;
    private static final int MOST_DAYS_OF_RAIN = 7;
    private static final int LEAST_ODDS = 2;
    private static final int MOST_ODDS = 20;
    private static final int MOST_SPRINGS = 20;
    private static final int DAYS_OF_SPRING = 15;
    private static final int ALL_BUT_SIGN = 0x7fffffff;
    private static final int SOFT_CUSHION = 20;
    private static final int FIGURE_OF_TWO = 5;
    private static final int MOST_LETTERS = 96;
    private static final int MOST_LETTER = 255;
    private static final int MOST_ROW = 16;
    private static final int MOST_ROW_NUMBER = 99;

    private static final int GOSSIP = 0;
    private static final int PRAISE = 1;
    private static final int MUD = 2;
    private static final int HEARSAY = 3;
    private static final int TRUTH = 4;
    private static final int LIE = 5;
    private static final int KINDS = 6;

    private static final int NONE = -9;
    private static final int NOBODY = -1;
    private static final int OTHER = -2;
    private static final int STATE = -3;
    private static final int BELOW = -4;
    private static final int ROOM = -6;
    private static final int REFUSALS = 6;
    private static final long LONG_REFUSAL = 4000000000000000000L;

    private final Talk now = new Talk();
    private final Talk mind = new Talk();
    private final Talk pictured = new Talk();
    private boolean pictureTaken = false;
    private final CloseText text = new CloseText();
    private final int[] rowNumbers = new int[MOST_ROW];
    private int rowLength = 0;
    private final int[] refused = new int[REFUSALS + 1];
    private final int[] gains = new int[4];

    public NestsOfTalk() {
    }

    // ---- what is told and done ----

    public int letter(int c) {
        if (c < 0) return refuse(BELOW);
        if (c > MOST_LETTER || text.length >= MOST_LETTERS) return refuse(ROOM);
        text.append(c);
        return text.length;
    }

    public int close() {
        int place = text.placeOfWrongLetter();
        int answer;
        if (place >= 0) {
            answer = -1000 - place;
        } else {
            mind.becomes(now);
            answer = text.tellTo(mind);
            if (answer >= 0) now.becomes(mind);
        }
        text.length = 0;
        return answer;
    }

    public int saying(int saying, int what) {
        if (!now.knows(saying)) return refuse(NOBODY);
        switch (what) {
            case 0: return now.kind[saying];
            case 1: return now.figure[saying];
            case 2: return now.whom(saying);
            case 3: return now.worn[saying];
            case 4: return now.inside >> saying & 1;
            case 5: return now.softOf(1 << saying);
            case 6: return now.bindsOf(1 << saying);
            case 7: return now.weighsOf(1 << saying);
            default: return refuse(OTHER);
        }
    }

    public int nest(int woman, int what) {
        if (!isWoman(woman)) return refuse(NOBODY);
        int set = now.nestOf(woman);
        switch (what) {
            case 0: return set;
            case 1: return now.softOf(set);
            case 2: return now.bindsOf(set);
            case 3: return now.weighsOf(set);
            case 4: return now.holds(set) ? 1 : 0;
            case 5: return Math.max(0, now.weighsOf(set) - now.bindsOf(set));
            default: return refuse(OTHER);
        }
    }

    public int takes(int saying) {
        if (!now.knows(saying)) return refuse(NOBODY);
        return now.turnOver(saying);
    }

    public int wears(int saying, int v) {
        if (!now.knows(saying)) return refuse(NOBODY);
        if (v < 0) return refuse(BELOW);
        if (v > MOST_WORN) return refuse(ROOM);
        int before = now.worn[saying];
        now.worn[saying] = v;
        return before;
    }

    public int concerns(int saying, int woman) {
        if (!now.knows(saying) || !isWoman(woman)) return refuse(NOBODY);
        int before = now.whom(saying);
        now.sayAbout(saying, woman);
        return before;
    }

    public int boy(int woman) {
        if (!isWoman(woman)) return refuse(NOBODY);
        int set = now.nestOf(woman);
        if (set == 0) return refuse(STATE);
        now.bringDown(woman);
        return Integer.bitCount(set);
    }

    public int turn(int saying, int kind, int figure) {
        if (!now.knows(saying)) return refuse(NOBODY);
        if (kind < 0 || kind >= KINDS) return refuse(OTHER);
        if (figure < 0) return refuse(BELOW);
        if (figure > MOST_FIGURE) return refuse(ROOM);
        int before = 10 * now.kind[saying] + now.figure[saying];
        now.kind[saying] = kind;
        now.figure[saying] = figure;
        return before;
    }

    public int days(int n) {
        if (n < 1) return refuse(BELOW);
        if (n > MOST_DAYS || now.day + n > LAST_DAY) return refuse(ROOM);
        now.passDays(n);
        return now.robbed;
    }

    // ---- in mind, days on ----

    public int nestThen(int woman, int n, int what) {
        if (!isWoman(woman)) return refuse(NOBODY);
        if (n < 0) return refuse(BELOW);
        if (n > MOST_DAYS) return refuse(ROOM);
        if (what < 0 || what > 3) return refuse(OTHER);
        think(n);
        int set = mind.nestOf(woman);
        switch (what) {
            case 0: return set;
            case 1: return mind.softOf(set);
            case 2: return mind.bindsOf(set);
            default: return mind.weighsOf(set);
        }
    }

    public int robbedThen(int n) {
        if (n < 0) return refuse(BELOW);
        if (n > MOST_DAYS) return refuse(ROOM);
        think(n);
        return mind.robbed;
    }

    public int falls(int woman) {
        if (!isWoman(woman)) return refuse(NOBODY);
        mind.becomes(now);
        for (int day = 1; day <= MOST_DAYS; day++) {
            mind.passDay();
            if ((mind.fallenOf >> woman & 1) == 1) return day;
        }
        return NONE;
    }

    public int first(int what) {
        if (what < 0 || what > 2) return refuse(OTHER);
        if (what == 2) return firstStillDay();
        mind.becomes(now);
        for (int day = 1; day <= MOST_DAYS; day++) {
            mind.passDay();
            if (mind.fallenOf != 0) return what == 0 ? leastWomanOf(mind.fallenOf) : day;
        }
        return NONE;
    }

    private int firstStillDay() {
        mind.becomes(now);
        for (int day = 0; day <= MOST_DAYS; day++) {
            int before = mind.inside;
            mind.passDay();
            if (mind.inside == before) return day;
        }
        return NONE;
    }

    public int cushion(int what) {
        if (what < 0 || what > 1) return refuse(OTHER);
        mind.becomes(now);
        for (int day = 0; day <= MOST_DAYS; day++) {
            for (int woman = 0; woman < WOMEN; woman++) {
                if (mind.softOf(mind.nestOf(woman)) >= SOFT_CUSHION) return what == 0 ? day : woman;
            }
            mind.passDay();
        }
        return NONE;
    }

    // ---- nests as they are now ----

    public int more(int woman) {
        if (!isWoman(woman)) return refuse(NOBODY);
        return now.fewestMoved(now.nestOf(woman), now.saidAbout(woman));
    }

    public int softest(int woman, int what) {
        if (!isWoman(woman)) return refuse(NOBODY);
        if (what < 0 || what > 1) return refuse(OTHER);
        int set = now.softestHolding(now.allAbout(woman));
        return what == 0 ? set : now.softOf(set);
    }

    public int prop(int woman) {
        if (!isWoman(woman)) return refuse(NOBODY);
        int set = now.nestOf(woman);
        int props = 0;
        for (int s = 0; s < now.size; s++) {
            int one = 1 << s;
            if ((set & one) != 0 && !now.holds(set & ~one)) props |= one;
        }
        return props;
    }

    public int lighten(int woman) {
        if (!isWoman(woman)) return refuse(NOBODY);
        int set = now.nestOf(woman);
        return now.fewestMoved(set, set);
    }

    public int about(int saying, int what) {
        if (!now.knows(saying)) return refuse(NOBODY);
        if (what < 0 || what > 1) return refuse(OTHER);
        int best = NONE;
        int bestSoft = 0;
        for (int woman = 0; woman < WOMEN; woman++) {
            int set = now.nestOf(woman) | 1 << saying;
            int soft = now.softOf(set);
            if (now.holds(set) && (best == NONE || soft > bestSoft)) {
                best = woman;
                bestSoft = soft;
            }
        }
        return what == 0 ? best : bestSoft;
    }

    public int known() {
        int best = 0;
        for (int woman = 1; woman < WOMEN; woman++) {
            if (Integer.bitCount(now.allAbout(woman)) > Integer.bitCount(now.allAbout(best))) best = woman;
        }
        return best;
    }

    public int lodge() {
        int best = NONE;
        int bestSoft = 0;
        for (int woman = 0; woman < WOMEN; woman++) {
            int set = now.nestOf(woman);
            int soft = now.softOf(set);
            if (set != 0 && now.holds(set) && (best == NONE || soft > bestSoft)) {
                best = woman;
                bestSoft = soft;
            }
        }
        return best;
    }

    public int fullest() {
        int best = NONE;
        int most = 0;
        for (int woman = 0; woman < WOMEN; woman++) {
            int many = Integer.bitCount(now.nestOf(woman));
            if (many > most) {
                best = woman;
                most = many;
            }
        }
        return best;
    }

    public int talk() {
        return now.everySaying() & ~now.inside;
    }

    // ---- what had better be done ----

    public int keep(int n) {
        if (n < 1) return refuse(BELOW);
        if (n > MOST_DAYS) return refuse(ROOM);
        return sparingMostFalls(n, false);
    }

    public int hush(int n) {
        if (n < 1) return refuse(BELOW);
        if (n > MOST_DAYS) return refuse(ROOM);
        return sparingMostFalls(n, true);
    }

    private int sparingMostFalls(int n, boolean hushed) {
        think(n);
        int best = NONE;
        int fewest = mind.fallen;
        for (int s = 0; s < now.size; s++) {
            mind.becomes(now);
            if (hushed) {
                mind.leaveOut(s);
            } else {
                mind.unwearing = 1 << s;
            }
            mind.passDays(n);
            if (mind.fallen < fewest) {
                best = s;
                fewest = mind.fallen;
            }
        }
        return best;
    }

    public int add(int woman, int n, int what) {
        if (!isWoman(woman)) return refuse(NOBODY);
        if (n < 0) return refuse(BELOW);
        if (n > MOST_DAYS) return refuse(ROOM);
        if (what < 0 || what > 1) return refuse(OTHER);
        if (now.size >= MOST_SAYINGS) return NONE;
        int best = NONE;
        int bestSoft = NONE;
        for (int kind = 0; kind < KINDS; kind++) {
            mind.becomes(now);
            mind.tellMore(kind, MOST_FIGURE, woman);
            mind.passDays(n);
            int soft = mind.softOf(mind.nestOf(woman));
            if (soft > bestSoft) {
                best = kind;
                bestSoft = soft;
            }
        }
        return what == 0 ? best : bestSoft;
    }

    public int two(int a, int b, int n) {
        if (!isWoman(a) || !isWoman(b) || a == b) return refuse(NOBODY);
        if (n < 0) return refuse(BELOW);
        if (n > MOST_DAYS_OF_TWO) return refuse(ROOM);
        // A pair's number has the first woman's choice as its upper bit, the other's as its lower.
        for (int pair = 0; pair < gains.length; pair++) gains[pair] = gainOfFirst(a, b, pair, n);
        for (int pair = 0; pair < gains.length; pair++) {
            // What the first gains the other loses, so the other looks for less.
            if (gains[pair] >= gains[pair ^ 2] && gains[pair] <= gains[pair ^ 1]) return pair / 2 * 10 + pair % 2;
        }
        return NONE;
    }

    private int gainOfFirst(int a, int b, int pair, int n) {
        mind.becomes(now);
        if ((pair & 2) != 0) mind.tellMore(TRUTH, FIGURE_OF_TWO, b);
        if ((pair & 1) != 0) mind.tellMore(TRUTH, FIGURE_OF_TWO, a);
        mind.passDays(n);
        return mind.softOf(mind.nestOf(a)) - mind.softOf(mind.nestOf(b));
    }

    // ---- fractions ----

    public long rain(int woman, int n, int t, int part) {
        if (!isWoman(woman)) return refuseLong(NOBODY);
        if (n < 0 || t < LEAST_ODDS) return refuseLong(BELOW);
        if (n > MOST_DAYS_OF_RAIN || t > MOST_ODDS) return refuseLong(ROOM);
        if (part < 0 || part > 1) return refuseLong(OTHER);
        long notEmpty = 0;
        for (int rainyDays = 0; rainyDays < 1 << n; rainyDays++) {
            thinkOfRain(n, rainyDays);
            if (mind.nestOf(woman) != 0) notEmpty += power(t - 1, n - Integer.bitCount(rainyDays));
        }
        return partOfFraction(notEmpty, power(t, n), part);
    }

    private void thinkOfRain(int n, int rainyDays) {
        mind.becomes(now);
        for (int day = 0; day < n; day++) {
            if ((rainyDays >> day & 1) == 1) mind.wear(mind.inside);
            mind.passDay();
        }
    }

    public long mean(int part) {
        if (part < 0 || part > 1) return refuseLong(OTHER);
        int nests = 0;
        for (int woman = 0; woman < WOMEN; woman++) {
            if (now.nestOf(woman) != 0) nests++;
        }
        return partOfFraction(now.softOf(now.inside), Math.max(1, nests), part);
    }

    private static long power(long base, int exponent) {
        long product = 1;
        for (int i = 0; i < exponent; i++) product *= base;
        return product;
    }

    private static long partOfFraction(long above, long below, int part) {
        long divisor = Math.max(1L, commonDivisor(above, below));
        return (part == 0 ? above : below) / divisor;
    }

    private static long commonDivisor(long a, long b) {
        long larger = a;
        long smaller = b;
        // Euclid's steps for two longs stay below a hundred.
        for (int step = 0; step < 100 && smaller != 0; step++) {
            long rest = larger % smaller;
            larger = smaller;
            smaller = rest;
        }
        return larger;
    }

    // ---- the row ----

    public int whatWas(int saying, int what) {
        if (!now.knows(saying)) return refuse(NOBODY);
        if (what < 0 || what > 1) return refuse(OTHER);
        int choices = what == 0 ? KINDS : MOST_FIGURE + 1;
        int fitting = 0;
        for (int choice = 0; choice < choices; choice++) {
            mind.becomes(now);
            if (what == 0) {
                mind.kind[saying] = choice;
            } else {
                mind.figure[saying] = choice;
            }
            if (rowIsSoftOf(now.whom(saying))) fitting |= 1 << choice;
        }
        return fitting;
    }

    private boolean rowIsSoftOf(int woman) {
        for (int day = 0; day < rowLength && day < rowNumbers.length; day++) {
            if (mind.softOf(mind.nestOf(woman)) != rowNumbers[day]) return false;
            mind.passDay();
        }
        return true;
    }

    public int row(int v) {
        if (v < 0) return refuse(BELOW);
        if (v > MOST_ROW_NUMBER || rowLength >= rowNumbers.length) return refuse(ROOM);
        rowNumbers[rowLength] = v;
        rowLength++;
        return rowLength;
    }

    public int judge() {
        int wrong = firstWrongOfRow();
        rowLength = 0;
        return wrong;
    }

    private int firstWrongOfRow() {
        mind.becomes(now);
        for (int day = 0; day < rowLength && day < rowNumbers.length; day++) {
            if (Integer.bitCount(mind.inside) != rowNumbers[day]) return day;
            mind.passDay();
        }
        return NONE;
    }

    public int clear() {
        int before = rowLength;
        rowLength = 0;
        return before;
    }

    // ---- springs, the image, counts ----

    public int lots(int n, int z, int what) {
        if (n < 1) return refuse(BELOW);
        if (n > MOST_SPRINGS) return refuse(ROOM);
        if (what < 0 || what > 1) return refuse(OTHER);
        int seed = z;
        int fallen = 0;
        int soft = 0;
        for (int spring = 0; spring < n; spring++) {
            mind.becomes(now);
            for (int s = 0; s < mind.size; s++) {
                seed = seed * 1664525 + 1013904223;
                mind.sayAbout(s, (seed & ALL_BUT_SIGN) / 256 % WOMEN);
            }
            mind.passDays(DAYS_OF_SPRING);
            fallen += mind.fallen;
            soft += mind.softOf(mind.inside);
        }
        return what == 0 ? fallen : soft;
    }

    public int image() {
        pictured.becomes(now);
        pictureTaken = true;
        return now.day;
    }

    public int on() {
        if (!pictureTaken) return refuse(STATE);
        now.becomes(pictured);
        return now.day;
    }

    public int count(int what) {
        switch (what) {
            case 0: return now.size;
            case 1: return now.day;
            case 2: return now.robbed;
            case 3: return now.inside;
            case 4: return now.softOf(now.inside);
            case 5: return now.allWorn();
            case 6: return rowLength;
            case 7: return text.length;
            default: return what > 10 && what <= 10 + REFUSALS ? refused[what - 10] : NONE;
        }
    }

    // ---- helpers ----

    private void think(int n) {
        mind.becomes(now);
        mind.passDays(n);
    }

    private static boolean isWoman(int woman) {
        return woman >= 0 && woman < WOMEN;
    }

    private static int leastWomanOf(int set) {
        for (int woman = 0; woman < WOMEN; woman++) {
            if ((set >> woman & 1) == 1) return woman;
        }
        return NONE;
    }

    private int refuse(int number) {
        if (number < 0 && -number < refused.length) refused[-number]++;
        return number;
    }

    private long refuseLong(int number) {
        return LONG_REFUSAL - refuse(number);
    }

    /** What a saying of a kind is worth at a freshness; each kind tells only what differs from the kind above it. */
    private static final class Kinds {
        private Kinds() {
        }

        static int softOfKind(int kind, int fresh) {
            switch (kind) {
                case PRAISE: return fresh + 3;
                case MUD: return 0;
                case HEARSAY: return fresh / 2;
                case TRUTH: return 1;
                case LIE: return fresh > 4 ? 2 * (fresh + 3) : 0;
                default: return fresh;
            }
        }

        static int bindsOfKind(int kind, int fresh) {
            switch (kind) {
                case PRAISE:
                case LIE: return 0;
                case MUD: return fresh / 2 + 2;
                case TRUTH: return fresh / 2 + 5;
                default: return 1;
            }
        }

        static int weighsOfKind(int kind, int fresh) {
            switch (kind) {
                case MUD: return 2;
                case HEARSAY: return fresh < 3 ? 0 : 1;
                case TRUTH: return 3;
                default: return 1;
            }
        }

        static int ofLetter(int letter) {
            switch (letter) {
                case 'g': return GOSSIP;
                case 'p': return PRAISE;
                case 'm': return MUD;
                case 'h': return HEARSAY;
                case 't': return TRUTH;
                case 'l': return LIE;
                default: return NONE;
            }
        }
    }

    /** All that there is but the image, the row, letters and refusals. Sets of sayings or women are bits. */
    private static final class Talk {
        int size = 0;
        int day = 0;
        int robbed = 0;
        int inside = 0;
        /** Women whose nests fell since this became a copy. */
        int fallenOf = 0;
        /** How often nests fell since then; unlike robbed it has no greatest. */
        int fallen = 0;
        /** Thoughts only: sayings that no more days wear. */
        int unwearing = 0;
        /** Thoughts only: sayings that no bird takes. */
        int leftOut = 0;
        final int[] kind = new int[MOST_SAYINGS];
        final int[] figure = new int[MOST_SAYINGS];
        final int[] worn = new int[MOST_SAYINGS];
        final int[] told = new int[WOMEN];

        void becomes(Talk other) {
            size = other.size;
            day = other.day;
            robbed = other.robbed;
            inside = other.inside;
            fallenOf = 0;
            fallen = 0;
            unwearing = 0;
            leftOut = 0;
            System.arraycopy(other.kind, 0, kind, 0, MOST_SAYINGS);
            System.arraycopy(other.figure, 0, figure, 0, MOST_SAYINGS);
            System.arraycopy(other.worn, 0, worn, 0, MOST_SAYINGS);
            System.arraycopy(other.told, 0, told, 0, WOMEN);
        }

        boolean knows(int s) {
            return s >= 0 && s < size && s < MOST_SAYINGS;
        }

        int everySaying() {
            return (1 << size) - 1;
        }

        int allAbout(int woman) {
            return woman >= 0 && woman < WOMEN ? told[woman] : 0;
        }

        int nestOf(int woman) {
            return woman >= 0 && woman < WOMEN ? told[woman] & inside : 0;
        }

        int saidAbout(int woman) {
            return allAbout(woman) & ~inside & ~leftOut;
        }

        int whom(int s) {
            for (int woman = 0; woman < WOMEN; woman++) {
                if ((told[woman] >> s & 1) == 1) return woman;
            }
            return NONE;
        }

        int freshOf(int s) {
            if (s < 0 || s >= MOST_SAYINGS || worn[s] > figure[s]) return 0;
            return figure[s] - worn[s];
        }

        int softOf(int set) {
            int sum = 0;
            for (int s = 0; s < size && s < MOST_SAYINGS; s++) {
                if ((set >> s & 1) == 1) sum += Kinds.softOfKind(kind[s], freshOf(s));
            }
            return sum;
        }

        int bindsOf(int set) {
            int sum = 0;
            for (int s = 0; s < size && s < MOST_SAYINGS; s++) {
                if ((set >> s & 1) == 1) sum += Kinds.bindsOfKind(kind[s], freshOf(s));
            }
            return sum;
        }

        int weighsOf(int set) {
            int sum = 0;
            for (int s = 0; s < size && s < MOST_SAYINGS; s++) {
                if ((set >> s & 1) == 1) sum += Kinds.weighsOfKind(kind[s], freshOf(s));
            }
            return sum;
        }

        boolean holds(int set) {
            int spare = 0;
            for (int s = 0; s < size && s < MOST_SAYINGS; s++) {
                if ((set >> s & 1) == 1) {
                    int fresh = freshOf(s);
                    spare += Kinds.bindsOfKind(kind[s], fresh) - Kinds.weighsOfKind(kind[s], fresh);
                }
            }
            return spare >= 0;
        }

        int allWorn() {
            int sum = 0;
            for (int s = 0; s < size && s < MOST_SAYINGS; s++) sum += worn[s];
            return sum;
        }

        /** Tells whether there was room. */
        boolean tellMore(int newKind, int newFigure, int woman) {
            if (size >= MOST_SAYINGS || !isWoman(woman)) return false;
            kind[size] = newKind;
            figure[size] = newFigure;
            worn[size] = 0;
            size++;
            sayAbout(size - 1, woman);
            return true;
        }

        void sayAbout(int s, int woman) {
            if (!knows(s) || !isWoman(woman)) return;
            int one = 1 << s;
            for (int w = 0; w < WOMEN; w++) told[w] &= ~one;
            told[woman] |= one;
            inside &= ~one;
        }

        /** Between SAID and IN: tells 1 if it is IN then. */
        int turnOver(int s) {
            inside ^= 1 << s;
            return inside >> s & 1;
        }

        void leaveOut(int s) {
            leftOut |= 1 << s;
            inside &= ~leftOut;
        }

        void wear(int set) {
            for (int s = 0; s < size && s < MOST_SAYINGS; s++) {
                if ((set >> s & 1) == 1) worn[s] = Math.min(MOST_WORN, worn[s] + 1);
            }
        }

        void bringDown(int woman) {
            int set = nestOf(woman);
            if (set == 0) return;
            inside &= ~set;
            robbed = Math.min(MOST_ROBBED, robbed + 1);
            fallen++;
            fallenOf |= 1 << woman;
        }

        void passDay() {
            day++;
            if (day % 3 == 0) wear(~unwearing);
            for (int woman = 0; woman < WOMEN; woman++) {
                int said = saidAbout(woman);
                inside |= said & -said;
            }
            for (int woman = 0; woman < WOMEN; woman++) {
                if (!holds(nestOf(woman))) bringDown(woman);
            }
        }

        void passDays(int n) {
            for (int i = 0; i < n; i++) passDay();
        }

        /** The fewest of a pool (of several the least) which, moved into or out of a set, make it hold. */
        int fewestMoved(int set, int pool) {
            int best = NONE;
            int fewest = MOST_SAYINGS + 1;
            for (int moved = 0; moved < 1 << size; moved++) {
                int many = Integer.bitCount(moved);
                if ((moved & ~pool) == 0 && many < fewest && holds(set ^ moved)) {
                    best = moved;
                    fewest = many;
                }
            }
            return best;
        }

        int softestHolding(int pool) {
            int best = 0;
            int bestSoft = 0;
            for (int set = 1; set < 1 << size; set++) {
                if ((set & ~pool) == 0 && softOf(set) > bestSoft && holds(set)) {
                    best = set;
                    bestSoft = softOf(set);
                }
            }
            return best;
        }
    }

    /** The letters that have come, and how they are read as a close. */
    private static final class CloseText {
        final int[] letters = new int[MOST_LETTERS];
        int length = 0;

        void append(int letter) {
            if (length < 0 || length >= MOST_LETTERS) return;
            letters[length] = letter;
            length++;
        }

        int at(int place) {
            return place >= 0 && place < length && place < MOST_LETTERS ? letters[place] : NONE;
        }

        int digitAt(int place) {
            return at(place) - '0';
        }

        /** Letters of a statement that begins so, its ";" too; 0 if none begins so. */
        static int lengthOf(int head) {
            switch (head) {
                case 's': return 5;
                case 'w':
                case 'a':
                case 'd': return 4;
                case 't':
                case 'b': return 3;
                default: return 0;
            }
        }

        /** Whether a letter may stand so many letters behind the head of its statement. */
        static boolean fits(int letter, int head, int behind) {
            if (behind == 0) return lengthOf(letter) > 0;
            if (behind == lengthOf(head) - 1) return letter == ';';
            if (head == 's' && behind == 1) return Kinds.ofLetter(letter) != NONE;
            return letter >= '0' && letter <= '9';
        }

        /** The place of a fault of kind 1; -9 if there is none. */
        int placeOfWrongLetter() {
            int start = 0;
            for (int place = 0; place < length; place++) {
                if (!fits(at(place), at(start), place - start)) return place;
                if (at(place) == ';') start = place + 1;
            }
            return length == 0 || start < length ? length : NONE;
        }

        /** How many statements it told to a talk, or the fault of kind 2; read only what has no fault of kind 1. */
        int tellTo(Talk talk) {
            int start = 0;
            int statements = 0;
            while (start < length && statements < MOST_LETTERS) {
                if (!tellStatement(talk, start)) return -2000 - start;
                start += lengthOf(at(start));
                statements++;
            }
            return statements;
        }

        boolean tellStatement(Talk talk, int start) {
            int one = digitAt(start + 1);
            int other = digitAt(start + 2);
            switch (at(start)) {
                case 's': return talk.tellMore(Kinds.ofLetter(at(start + 1)), other, digitAt(start + 3));
                case 't':
                    if (!talk.knows(one)) return false;
                    talk.turnOver(one);
                    return true;
                case 'w':
                    if (!talk.knows(one)) return false;
                    talk.worn[one] = other;
                    return true;
                case 'a':
                    if (!talk.knows(one) || !isWoman(other)) return false;
                    talk.sayAbout(one, other);
                    return true;
                case 'b':
                    if (!isWoman(one)) return false;
                    talk.bringDown(one);
                    return true;
                case 'd': {
                    int n = 10 * one + other;
                    if (n < 1 || n > MOST_DAYS || talk.day + n > LAST_DAY) return false;
                    talk.passDays(n);
                    return true;
                }
                default: return false;
            }
        }
    }
}
