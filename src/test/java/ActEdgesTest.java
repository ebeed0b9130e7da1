/** Term 3, promises 16 to 22: each sentence on an edge has a test of its own, which bears its words. */
public final class ActEdgesTest {
    private static final int NONE = WidowsFund.NONE, BAD = WidowsFund.BAD, FULL = WidowsFund.FULL;
    private static final int MAX = Integer.MAX_VALUE;
    private static final String ONES = "0123456789ryow(", DIGITS = "0123456789", SUBJECTS = "drstvfkal";

    public static void main(String[] args) {
        theTapeHas200();
        theLowestBytesHighestFirst();
        theTapeIsEmptyThen();
        nothingIsLeftOfIt();
        theTapeStays();
        eachByteBehindWords();
        eachByteBehindOnes();
        eachByteBehindNames();
        eachByteInConditions();
        eachByteBehindClauses();
        tooEarly();
        upTo200Bytes();
        actsFrom0To7();
        ofAnAct();
        belowZeroAndAbove9999();
        intsThatWrap();
        termsAndOnes();
        conditionsThatHold();
        inForceFromADayOn();
        theGreatestDay();
        noneHolds();
        struckOutFromADayOn();
        theLeastDayCounts();
        ratesAndWives();
        yearsAndOld();
        namesAreZero();
        namesByE();
        namesOfNone();
        quarrelOfTheSameDay();
        quarrelThatHoldsToo();
        quarrelOverSomethingElse();
        Check.end("ActEdgesTest");
    }

    private static void due(String call, long got, long want) {
        Check.due(call, got, want);
    }

    private static String many(String text, int times) {
        return text.repeat(times);
    }

    // ---- promises 16 and 17

    /** "THE TAPE (bytes, 200 at most)"; "FULL": none of the bytes comes on it then. */
    private static void theTapeHas200() {
        WidowsFund x = new WidowsFund();
        Check.feed(x, "due=1" + many("+1", 93));
        due("191", x.count(7), 191);
        due("8 more", x.feed(0x2b312b312b312b31L, 8), 199);
        due("2 are too many", x.feed(0x2b31L, 2), FULL);
        due("8 are too many", x.feed(0x2b312b312b312b31L, 8), FULL);
        due("199 still", x.count(7), 199);
        due("the last one", x.feed('0', 1), 200);
        due("no more", x.feed('0', 1), FULL);
        due("200", x.count(7), 200);
        due("all of it is read", x.text(0), 0);
        due("97 ones and a ten", x.rule(0, -1, 0, -1), 1 + 93 + 3 + 10);
        WidowsFund y = new WidowsFund();
        for (int i = 1; i <= 24; i++) y.feed(0, 8);
        due("192", y.count(7), 192);
        due("8 to the end", y.feed(0, 8), 200);
        WidowsFund z = new WidowsFund();
        for (int i = 1; i <= 24; i++) z.feed(0, 8);
        due("193", z.feed(0, 1), 193);
        due("8 behind 193", z.feed(0, 8), FULL);
        due("7 behind 193", z.feed(0, 7), 200);
    }

    /** "The n lowest bytes of w, the highest first, come behind THE TAPE's: how many it has." */
    private static void theLowestBytesHighestFirst() {
        WidowsFund x = new WidowsFund();
        due("3 of 8", x.feed(0xffffffffff647565L, 3), 3);
        due("1 of 8", x.feed(0x7777777777777700L + '=', 1), 4);
        due("8 of 8", x.feed(0x282831292a323229L, 8), 12);
        due("((1)*22)", x.text(0), 0);
        due("22", x.rule(0, -1, 0, -1), 22);
        WidowsFund y = new WidowsFund();
        due("all of a long below 0", y.feed(-1L, 8), 8);
        due("the byte 255", y.text(0), -10);
        WidowsFund z = new WidowsFund();
        z.feed(0x64756500L + '=', 4);
        z.feed(Long.MIN_VALUE + '7', 1);
        due("the sign is no byte of one", z.text(0), 0);
        due("7", z.rule(0, -1, 0, -1), 7);
        for (int n = 1; n <= 8; n++) due(n + " bytes", new WidowsFund().feed(0x0102030405060708L, n), n);
    }

    /** "THE TAPE, which is empty then, is an ACT: its number; -10 less the FAULT": empty with both. */
    private static void theTapeIsEmptyThen() {
        WidowsFund x = new WidowsFund();
        due("an act", Check.act(x, "due=1", 0), 0);
        due("empty behind it", x.count(7), 0);
        due("empty", x.text(0), -10);
        due("a fault", Check.act(x, "due=1x", 0), -15);
        due("empty behind a fault", x.count(7), 0);
        due("nothing is left of it", Check.act(x, "due=2", 0), 1);
        due("no act came of faults", x.count(2), 2);
        due("a fault at the first byte", Check.act(x, "x", 0), -10);
        due("it goes on", Check.act(x, "due=3", 0), 2);
        due("the last", x.rule(0, -1, 0, -1), 3);
    }

    /** What stood on THE TAPE ahead is none of it: neither the bytes of an ACT nor those of many that were none. */
    private static void nothingIsLeftOfIt() {
        WidowsFund x = new WidowsFund();
        due("an act", Check.act(x, "due=12+3456;rent=34 if year>5;fine=1", 0), 0);
        String[] starts = {"du", "due", "due=", "due=12+", "due=12+3456;re", "due=12+3456;rent=34 if year"};
        for (String start : starts) due("the first bytes " + start, Check.act(x, start, 0), -10 - start.length());
        due("a shorter act", Check.act(x, "due=1", 0), 1);
        due("it has one clause", x.force(1, 1), 1);
        due("it comes to 1", x.rule(0, -1, 0, -1), 1);
        due("the first has three", x.force(0, 1), 3);
        due("a shorter number", Check.act(x, "rent=3", 0), 2);
        due("3", x.rule(1, -1, 600, -1), 3);
        for (int i = 0; i < 60; i++) {
            due("no act", Check.act(x, "begun;due=1+2+", 0), -24);
            Check.feed(x, "due=1+x");
            due("no trial", x.tried(0, 0), WidowsFund.NO + 1);
        }
        due("an act behind 120 that were none", Check.act(x, "tax=1+2*3", 0), 3);
        due("it comes to 7", x.rule(3, -1, 0, -1), 7);
        due("it has not begun;", x.force(3, 2), 0);
        Check.feed(x, "vacant=9");
        due("a trial", x.tried(0, 0), 0);
        due("an act behind a trial", Check.act(x, "sum=2*4", 0), 4);
        due("8", x.rule(2, -1, 0, -1), 8);
        due("nothing of the trial", x.rule(4, -1, 0, -1), 0);
    }

    /** "BAD: day; FULL (THE TAPE stays with both)." */
    private static void theTapeStays() {
        WidowsFund x = new WidowsFund();
        for (int i = 0; i < 7; i++) Check.act(x, "due=1", 0);
        Check.feed(x, "due=77");
        due("day -1", x.text(-1), BAD);
        due("day 10000", x.text(10000), BAD);
        due("it stays", x.count(7), 6);
        due("it can be told on 0", x.text(0), 7);
        Check.feed(x, "due=88");
        due("a ninth", x.text(0), FULL);
        due("it stays with this, too", x.count(7), 6);
        due("more may come behind it", x.feed('9', 1), 7);
        due("day ahead of full", x.text(10000), BAD);
        due("a ninth again", x.text(9999), FULL);
        due("it stays still", x.count(7), 7);
        due("the eighth is in force", x.rule(0, -1, 0, -1), 77);
        due("the tape can be tried", x.tried(0, 0), 0);
    }

    // ---- the grammar: behind each beginning of an ACT, each byte that can go on and each that can't

    private static void behind(String start, String goesOn, boolean mayEnd) {
        due("end behind " + start, Check.act(new WidowsFund(), start, 0), mayEnd ? 0 : -10 - start.length());
        for (char b = 0; b < 256; b++) {
            int got = Check.act(new WidowsFund(), start + b, 0);
            if (goesOn.indexOf(b) >= 0) due(start + " goes on with " + b, got == 0 || got == -11 - start.length() ? 1 : 0, 1);
            else due(start + " does not go on with byte " + (int) b, got, -10 - start.length());
        }
    }

    /** "Perhaps begun; first, then 1 to 8 CLAUSES: SUBJECT =". */
    private static void eachByteBehindWords() {
        behind("", "b" + SUBJECTS, false);
        String[] words = {"begun;", "due=", "rent=", "sum=", "tax=", "vacant=", "fine=", "keeps=", "age=", "late="};
        for (String word : words) {
            for (int i = 1; i < word.length(); i++) behind(word.substring(0, i), "" + word.charAt(i), false);
        }
        behind("begun;", SUBJECTS, false);
        for (int i = 1; i < 10; i++) behind(words[i], ONES, false);
        behind("begun;due=", ONES, false);
    }

    /** "A number of 1 to 4 digits (no 0 ahead of another), a NAME, ( SUM )"; + - * between. */
    private static void eachByteBehindOnes() {
        for (String start : new String[] {"due=1+", "due=1-", "due=1*", "due=(", "due=((", "due=2*(", "due=(2)-", "due=(2+"}) {
            behind(start, ONES, false);
        }
        behind("due=0", "+-*; ", true);
        behind("due=1", DIGITS + "+-*; ", true);
        behind("due=9", DIGITS + "+-*; ", true);
        behind("due=10", DIGITS + "+-*; ", true);
        behind("due=100", DIGITS + "+-*; ", true);
        behind("due=1000", "+-*; ", true);
        behind("due=9999", "+-*; ", true);
        behind("due=5+0", "+-*; ", true);
        behind("due=5+10", DIGITS + "+-*; ", true);
        behind("due=(0", "+-*)", false);
        behind("due=(1", DIGITS + "+-*)", false);
        behind("due=(1234", "+-*)", false);
        behind("due=((1)", "+-*)", false);
        behind("due=(1)", "+-*; ", true);
        behind("due=((1))", "+-*; ", true);
        behind("due=(1)*2", DIGITS + "+-*; ", true);
    }

    /** "NAMES: rate years old wives year": a letter goes on only with a word that may stand there. */
    private static void eachByteBehindNames() {
        String[] names = {"rate", "years", "old", "wives"};
        for (String name : names) {
            for (int i = 1; i < name.length(); i++) {
                if (name.substring(0, i).equals("year")) continue;
                behind("due=" + name.substring(0, i), "" + name.charAt(i), false);
            }
            behind("due=" + name, "+-*; ", true);
            behind("due=(" + name, "+-*)", false);
            behind("due=1 if " + name, "+-*<=>", false);
        }
        behind("due=year", "s+-*; ", true);
        behind("due=(year", "s+-*)", false);
        behind("due=1 if year", "s+-*<=>", false);
        behind("due=year+y", "e", false);
        behind("due=1+yea", "r", false);
    }

    /** "Perhaps then if and CONDITIONS with and between them: SUM, one of < = >, SUM"; "one blank ahead of and behind if and and". */
    private static void eachByteInConditions() {
        behind("due=1 ", "i", false);
        behind("due=1 i", "f", false);
        behind("due=1 if", " ", false);
        behind("due=1 if ", ONES, false);
        behind("due=1 if 0", "+-*<=>", false);
        behind("due=1 if 1", DIGITS + "+-*<=>", false);
        behind("due=1 if 1234", "+-*<=>", false);
        behind("due=1 if (1", DIGITS + "+-*)", false);
        behind("due=1 if (1)", "+-*<=>", false);
        for (String sign : new String[] {"<", "=", ">"}) {
            behind("due=1 if 1" + sign, ONES, false);
            behind("due=1 if 1" + sign + "2", DIGITS + "+-*; ", true);
            behind("due=1 if 1" + sign + "0", "+-*; ", true);
            behind("due=1 if 1" + sign + "(2", DIGITS + "+-*)", false);
        }
        behind("due=1 if 1<2 ", "a", false);
        behind("due=1 if 1<2 a", "n", false);
        behind("due=1 if 1<2 an", "d", false);
        behind("due=1 if 1<2 and", " ", false);
        behind("due=1 if 1<2 and ", ONES, false);
        behind("due=1 if 1<2 and 3", DIGITS + "+-*<=>", false);
        behind("due=1 if 1<2 and 3>2", DIGITS + "+-*; ", true);
        behind("due=1 if 1<2 and 3>2 ", "a", false);
    }

    /** "1 to 8 CLAUSES with ; between". */
    private static void eachByteBehindClauses() {
        behind("due=1;", SUBJECTS, false);
        behind("due=1 if 1<2;", SUBJECTS, false);
        behind("due=1;d", "u", false);
        behind(many("due=1;", 6) + "due=1", DIGITS + "+-*; ", true);
        behind(many("due=1;", 7), SUBJECTS, false);
        behind(many("due=1;", 7) + "due=1", DIGITS + "+-* ", true);
        behind("begun;" + many("due=1;", 7) + "due=1", DIGITS + "+-* ", true);
        behind(many("due=1;", 7) + "due=1 if 1<2", DIGITS + "+-* ", true);
        behind(many("due=1;", 7) + "due=1234", "+-* ", true);
    }

    /** "FAULT: the size of THE TAPE, if it ends too early." */
    private static void tooEarly() {
        String whole = "begun;rent=(rate+12)*2-old if year>40 and wives=1;age=years";
        String acts = "|begun;rent=(rate+12)|begun;rent=(rate+12)*2|begun;rent=(rate+12)*2-old"
                + "|begun;rent=(rate+12)*2-old if year>4|begun;rent=(rate+12)*2-old if year>40"
                + "|begun;rent=(rate+12)*2-old if year>40 and wives=1"
                + "|begun;rent=(rate+12)*2-old if year>40 and wives=1;age=year|" + whole + "|";
        for (int i = 0; i <= whole.length(); i++) {
            String start = whole.substring(0, i);
            boolean isAct = i > 0 && acts.contains("|" + start + "|");
            due("the first " + i, Check.act(new WidowsFund(), start, 5), isAct ? 0 : -10 - i);
        }
    }

    /** An ACT of 200 bytes is one, and a FAULT may be the 200th byte, or 200. */
    private static void upTo200Bytes() {
        String deep = "due=" + many("(", 97) + "12" + many(")", 97);
        WidowsFund x = new WidowsFund();
        due("of 200 bytes", Check.act(x, deep, 0), 0);
        due("it comes to 12", x.rule(0, -1, 0, -1), 12);
        due("the last byte is the fault", Check.act(new WidowsFund(), deep.substring(0, 199) + "x", 0), -10 - 199);
        due("one ) too many", Check.act(new WidowsFund(), "due=" + many("(", 97) + "1" + many(")", 98), 0), -10 - 199);
        due("one ) too few", Check.act(new WidowsFund(), "due=" + many("(", 97) + "123" + many(")", 96), 0), -210);
        due("never shut", Check.act(new WidowsFund(), "due=" + many("(", 196), 0), -210);
        due("a sum that goes on", Check.act(new WidowsFund(), "due=1" + many("+1", 97) + "+", 0), -210);
        due("a sum to the end", Check.act(new WidowsFund(), "due=10" + many("+1", 97), 0), 0);
    }

    /** "ACTS are numbered from 0 on, 8 at most, each in force from a DAY on." */
    private static void actsFrom0To7() {
        WidowsFund x = new WidowsFund();
        for (int i = 0; i < 8; i++) due("act " + i, Check.act(x, "due=" + (10 + i), 9999 - 1000 * i), i);
        due("eight", x.count(2), 8);
        due("a ninth", Check.act(x, "due=1", 0), FULL);
        due("eight still", x.count(2), 8);
        for (int i = 0; i < 8; i++) {
            due("day of " + i, x.force(i, 0), 9999 - 1000 * i);
            due("rule of " + i, x.rule(0, -1, 9999 - 1000 * i, -1), 10 + i);
            due("why of " + i, x.why(0, -1, 9999 - 1000 * i, -1), 100 * i);
            due("the day ahead of " + i, x.why(0, -1, 9998 - 1000 * i, -1), i == 7 ? -5 : 100 * (i + 1));
        }
        due("no 8", x.force(8, 0), NONE);
        due("clause of 7", x.out(7, 0, 0), 1);
        due("clause of 8", x.out(8, 0, 0), NONE);
    }

    /** Promise 18. */
    private static void ofAnAct() {
        WidowsFund x = new WidowsFund();
        Check.act(x, "begun;late=1;age=1;keeps=1;fine=1;vacant=1;tax=1;sum=1;rent=1", 0);
        Check.act(x, "due=1 if 1=2", 9999);
        int[] subjects = {8, 7, 6, 5, 4, 3, 2, 1};
        due("0 day", x.force(0, 0), 0);
        due("0 day of 1", x.force(1, 0), 9999);
        due("1 eight clauses", x.force(0, 1), 8);
        due("1 one clause", x.force(1, 1), 1);
        due("2 begun", x.force(0, 2), 1);
        due("2 not begun", x.force(1, 2), 0);
        for (int i = 0; i < 8; i++) due("subject of " + i, x.force(0, 10 + i), subjects[i]);
        due("subject due", x.force(1, 10), 0);
        due("no clause 8", x.force(0, 18), NONE);
        due("no clause 1", x.force(1, 11), NONE);
        for (int what = 3; what < 10; what++) due("what " + what, x.force(0, what), NONE);
    }

    // ---- what CLAUSES come to

    private static void comes(String sum, int value) {
        WidowsFund x = new WidowsFund();
        due("text " + sum, Check.act(x, "due=" + sum, 0), 0);
        due(sum, x.rule(0, -1, 4321, -1), value);
    }

    /** "What a CLAUSE comes to is 0, if below 0, 9999, if above that." */
    private static void belowZeroAndAbove9999() {
        comes("0-1", 0);
        comes("0", 0);
        comes("1", 1);
        comes("0-9999", 0);
        comes("9998", 9998);
        comes("9999", 9999);
        comes("9999+1", 9999);
        comes("9999-1", 9998);
        comes("9999*9999", 9999);
        comes("(1-3)+1", 0);
        comes("(1-3)+3", 1);
        comes("9999+5-6", 9998);
        comes("(0-2)*(0-3)", 6);
    }

    /** "All numbers are ints of 32 bits (wrapping)": 8192 * 8192 * 32 is one more than the greatest int. */
    private static void intsThatWrap() {
        comes("8192*8192*32-1", 9999);
        comes("8192*8192*32", 0);
        comes("8192*8192*32-1+1", 0);
        comes("(0-8192*8192*32)-1", 9999);
        comes("0-(8192*8192*32)", 0);
        comes("8192*8192*64", 0);
        comes("8192*8192*64+5", 5);
        comes("8192*8192*16*2*2+7", 7);
        comes("8192*8192*32+8192*8192*32+9", 9);
        comes("(8192*8192*32-1)*2+5", 3);
        comes("9999*9999*9999*9999", clamped(9999 * 9999 * 9999 * 9999));
        comes("9999*9999*43", clamped(9999 * 9999 * 43));
        holds("8192*8192*32<8192*8192*32-1", true);
        holds("8192*8192*32-1>8192*8192*32", true);
        holds("8192*8192*32<1", true);
        holds("1>8192*8192*32", true);
        holds("8192*8192*64=0", true);
        holds("8192*8192*32-1+1=8192*8192*32", true);
        due("the greatest int is one", 8192 * 8192 * 32 - 1, MAX);
    }

    private static int clamped(int value) {
        return Math.max(0, Math.min(9999, value));
    }

    /** "SUM: TERMS with + or - between; TERM: ONES with * between; ONE: ( SUM )": from the left, * ahead of + and -. */
    private static void termsAndOnes() {
        comes("2+3*4", 14);
        comes("2*3+4", 10);
        comes("20-3*4-5", 3);
        comes("20-(3*4-5)", 13);
        comes("(20-3)*(4-2)", 34);
        comes("100-10-1", 89);
        comes("100-10+1", 91);
        comes("100-(10+1)", 89);
        comes("2*3*4", 24);
        comes("2*(3+4)*5", 70);
        comes("((((7))))", 7);
        comes("1+(2+(3+(4+5)))", 15);
        comes("50-(40-(30-(20-10)))", 30);
        comes("year-year*0", 43);
        comes("1000+1", 1001);
        comes("10*10", 100);
    }

    private static void holds(String conditions, boolean so) {
        WidowsFund x = new WidowsFund();
        due("text if " + conditions, Check.act(x, "due=5;due=7 if " + conditions, 0), 0);
        due("if " + conditions, x.rule(0, -1, 4321, -1), so ? 7 : 5);
        due("why if " + conditions, x.why(0, -1, 4321, -1), so ? 1 : 0);
    }

    /** "One of < = >", and all of them must hold; a CONDITION's SUMS are no CLAUSE's: they may be below 0 and above 9999. */
    private static void conditionsThatHold() {
        holds("1<2", true);
        holds("2<2", false);
        holds("3<2", false);
        holds("1=2", false);
        holds("2=2", true);
        holds("3=2", false);
        holds("1>2", false);
        holds("2>2", false);
        holds("3>2", true);
        holds("0-1<0", true);
        holds("0-1=0", false);
        holds("9999+1>9999", true);
        holds("9999+1=9999", false);
        holds("0>0-1", true);
        holds("1<2 and 1<2 and 1<2", true);
        holds("2<2 and 1<2 and 1<2", false);
        holds("1<2 and 2<2 and 1<2", false);
        holds("1<2 and 1<2 and 2<2", false);
        holds("1+2*3=7 and (1+2)*3=9", true);
        holds("year=43", true);
        holds("year>43", false);
        holds("year<43", false);
    }

    // ---- THE RULE

    /** "ACTS in force then": from their DAY on. */
    private static void inForceFromADayOn() {
        WidowsFund x = new WidowsFund();
        Check.act(x, "due=5;age=7", 500);
        due("the day ahead", x.rule(0, -1, 499, -1), 0);
        due("the day ahead's why", x.why(0, -1, 499, -1), -5);
        due("its day", x.rule(0, -1, 500, -1), 5);
        due("the last day", x.rule(0, -1, 9999, -1), 5);
        due("age the day ahead", x.rule(7, -1, 499, -1), 18);
        due("age on its day", x.rule(7, -1, 500, -1), 7);
        WidowsFund y = new WidowsFund();
        Check.act(y, "due=5", 0);
        due("from the first day on", y.rule(0, -1, 0, -1), 5);
        WidowsFund z = new WidowsFund();
        Check.act(z, "due=5", 9999);
        due("on the last day alone", z.rule(0, -1, 9999, -1), 5);
        due("not the day ahead of it", z.rule(0, -1, 9998, -1), 0);
    }

    /** "The one of the ACT of the greatest DAY (of like ones the greatest number), of one ACT the last." */
    private static void theGreatestDay() {
        WidowsFund x = new WidowsFund();
        Check.act(x, "due=1;rent=2;due=3;rent=4 if 1=2", 600);
        Check.act(x, "due=5", 599);
        due("of one act the last", x.why(0, -1, 600, -1), 2);
        due("of one act the last that holds", x.why(1, -1, 600, -1), 1);
        due("the greatest day, not the number", x.rule(0, -1, 9999, -1), 3);
        due("the day ahead", x.why(0, -1, 599, -1), 100);
        Check.act(x, "due=6;sum=7", 600);
        due("of like days the greatest number", x.why(0, -1, 600, -1), 200);
        due("another subject goes by its own", x.why(1, -1, 600, -1), 1);
        Check.act(x, "due=8 if year>6", 600);
        due("that does not hold: the next", x.why(0, -1, 699, -1), 200);
        due("it holds", x.why(0, -1, 700, -1), 300);
        Check.act(x, "due=9 if year<7", 601);
        due("a greater day", x.why(0, -1, 601, -1), 400);
        due("ahead of it", x.why(0, -1, 600, -1), 200);
        due("it does not hold any more", x.why(0, -1, 700, -1), 300);
    }

    /** "None: 0, but age 18, late 40": none holds, none is in force, all are struck out; a CLAUSE that comes to 0 is one. */
    private static void noneHolds() {
        WidowsFund x = new WidowsFund();
        Check.act(x, "age=5 if year=1;late=5 if year=1;due=5 if year=1;keeps=5 if year=1", 100);
        int[] first = {0, 0, 0, 0, 0, 0, 0, 18, 40};
        for (int s = 0; s < 9; s++) {
            boolean told = s == 0 || s > 5;
            due("ahead " + s, x.rule(s, -1, 99, -1), first[s]);
            due("holds " + s, x.rule(s, -1, 199, -1), told ? 5 : first[s]);
            due("holds no more " + s, x.rule(s, -1, 200, -1), first[s]);
            due("why " + s, x.why(s, -1, 200, -1), -5);
            due("quarrel " + s, x.quarrel(s, -1, 200, -1), -5);
        }
        Check.act(x, "age=0;late=0", 300);
        due("age comes to 0", x.rule(7, -1, 300, -1), 0);
        due("late comes to 0", x.rule(8, -1, 300, -1), 0);
        due("and has a why", x.why(7, -1, 300, -1), 100);
        x.out(1, 0, 400);
        x.out(1, 1, 400);
        due("age struck out", x.rule(7, -1, 400, -1), 18);
        due("late struck out", x.rule(8, -1, 400, -1), 40);
        due("the day ahead", x.rule(7, -1, 399, -1), 0);
    }

    /** "A CLAUSE may be STRUCK OUT from a DAY on": 1 if it never was, else 0. */
    private static void struckOutFromADayOn() {
        WidowsFund x = new WidowsFund();
        Check.act(x, "due=1;due=2", 500);
        due("out", x.out(0, 1, 600), 1);
        due("the day ahead", x.why(0, -1, 599, -1), 1);
        due("from it on", x.why(0, -1, 600, -1), 0);
        due("to the end", x.why(0, -1, 9999, -1), 0);
        due("out on 9999", x.out(0, 0, 9999), 1);
        due("out on 9999 again", x.out(0, 0, 9999), 0);
        due("the day ahead of that", x.rule(0, -1, 9998, -1), 1);
        due("none is left", x.rule(0, -1, 9999, -1), 0);
        due("out on 0", x.out(0, 0, 0), 0);
        due("never was", x.rule(0, -1, 600, -1), 0);
        due("the other one's turn", x.rule(0, -1, 599, -1), 2);
        due("it is a clause still", x.force(0, 1), 2);
        due("its subject, too", x.force(0, 11), 0);
        WidowsFund y = new WidowsFund();
        Check.act(y, "due=1", 500);
        due("out ahead of its force", y.out(0, 0, 499), 1);
        due("never in force", y.rule(0, -1, 500, -1), 0);
    }

    /** "Of several DAYS the least counts." */
    private static void theLeastDayCounts() {
        WidowsFund x = new WidowsFund();
        Check.act(x, "due=1", 0);
        due("first", x.out(0, 0, 600), 1);
        due("greater", x.out(0, 0, 601), 0);
        due("not the greater", x.rule(0, -1, 600, -1), 0);
        due("like", x.out(0, 0, 600), 0);
        due("the day ahead", x.rule(0, -1, 599, -1), 1);
        due("less", x.out(0, 0, 599), 0);
        due("the least", x.rule(0, -1, 599, -1), 0);
        due("the day ahead of the least", x.rule(0, -1, 598, -1), 1);
        due("refused", x.out(0, 0, -1), BAD);
        due("the least still", x.rule(0, -1, 598, -1), 1);
    }

    // ---- NAMES

    private static WidowsFund named() {
        WidowsFund x = Funds.four();
        Check.act(x, "due=rate;rent=years;sum=old;tax=wives;vacant=year", 0);
        return x;
    }

    /** "Rate: his RATE then (0)"; "wives: how many WEDDINGS he had (0)": from their DAY on. */
    private static void ratesAndWives() {
        WidowsFund x = named();
        due("no rate", x.rule(0, 0, 3000, -1), 0);
        due("no wives", x.rule(3, 0, 3000, -1), 0);
        x.member(0, 0, 3, 3000);
        x.rate(0, 2, 3100);
        x.wed(0, 2, 3000);
        x.death(2, 3200);
        x.wed(0, 3, 3200);
        due("rate the day ahead", x.rule(0, 0, 2999, -1), 0);
        due("rate", x.rule(0, 0, 3000, -1), 3);
        due("rate the day ahead of the next", x.rule(0, 0, 3099, -1), 3);
        due("rate on the day of the next", x.rule(0, 0, 3100, -1), 2);
        due("wives the day ahead", x.rule(3, 0, 2999, -1), 0);
        due("wives", x.rule(3, 0, 3000, -1), 1);
        due("a dead wife counts", x.rule(3, 0, 3199, -1) + x.rule(3, 0, 3200, -1), 3);
        x.gone(0, false, 3300);
        due("rate of one gone", x.rule(0, 0, 3300, -1), 2);
        x.death(0, 3400);
        due("rate of one dead", x.rule(0, 0, 3400, -1), 2);
        due("wives of one dead", x.rule(3, 0, 3400, -1), 2);
    }

    /** "Years: whole YEARS since his first JOINED (first by DAYS; 0); old: his AGE (0); year: that of the DAY." */
    private static void yearsAndOld() {
        WidowsFund x = named();
        due("old unborn", x.rule(2, 0, 0, -1), 0);
        due("old the day ahead", x.rule(2, 0, 999, -1), 0);
        due("old on his birth", x.rule(2, 0, 1000, -1), 0);
        due("old behind 99 days", x.rule(2, 0, 1099, -1), 0);
        due("old behind 100 days", x.rule(2, 0, 1100, -1), 1);
        due("years of no member", x.rule(1, 0, 9999, -1), 0);
        x.member(0, 0, 3, 3050);
        due("years ahead", x.rule(1, 0, 0, -1), 0);
        due("years the day ahead", x.rule(1, 0, 3049, -1), 0);
        due("years on the day", x.rule(1, 0, 3050, -1), 0);
        due("years not by calendar", x.rule(1, 0, 3149, -1), 0);
        due("years behind 100 days", x.rule(1, 0, 3150, -1), 1);
        x.member(0, 1, 3, 2950);
        due("the first by days, told last", x.rule(1, 0, 3149, -1), 1);
        due("and then two", x.rule(1, 0, 3150, -1), 2);
        due("year", x.rule(4, 0, 3199, -1), 31);
        due("the next year", x.rule(4, 0, 3200, -1), 32);
        x.gone(0, false, 3200);
        due("years of one gone", x.rule(1, 0, 3350, -1), 4);
        x.death(0, 3400);
        due("years of one dead", x.rule(1, 0, 3450, -1), 5);
        due("old of one dead: years since his birth", x.rule(2, 0, 3500, -1), 25);
    }

    /** Each "(0)": 0 and neither -1 nor below, where there is no RATE, no JOINED, no AGE, no WEDDING. */
    private static void namesAreZero() {
        WidowsFund x = Funds.four();
        Check.act(x, "due=5+rate;rent=5+years;sum=5+old;tax=5+wives;vacant=5+year", 0);
        for (int s = 0; s < 5; s++) due("far ahead of all " + s, x.rule(s, 1, 0, -1), 5);
        for (int s = 0; s < 5; s++) due("of none " + s, x.rule(s, -1, 99, -1), 5);
        due("no rate", x.rule(0, 1, 3000, -1), 5);
        due("never joined", x.rule(1, 1, 3000, -1), 5);
        x.member(1, 0, 0, 5000);
        due("joined far behind", x.rule(1, 1, 3000, -1), 5);
        due("rate far behind", x.rule(0, 1, 3000, -1), 5);
        due("rate 0", x.rule(0, 1, 5000, -1), 5);
        due("0 years", x.rule(1, 1, 5099, -1), 5);
        x.wed(1, 2, 5000);
        due("wed far behind", x.rule(3, 1, 3000, -1), 5);
        x.wed(1, 3, 4000);
        due("wed is not joined", x.rule(1, 1, 5099, -1), 5);
        due("nor ahead of it", x.rule(1, 1, 4500, -1), 5);
        WidowsFund y = Funds.four();
        Check.act(y, "due=1 if old<0;due=2 if old=0;due=3 if old>0", 0);
        due("old on day 0", y.rule(0, 0, 0, -1), 2);
        due("old the day ahead of birth", y.rule(0, 0, 999, -1), 2);
        due("old on his birth", y.rule(0, 0, 1000, -1), 2);
        due("old a year later", y.rule(0, 0, 1100, -1), 3);
    }

    /** "(By the same e.)" */
    private static void namesByE() {
        WidowsFund x = named();
        x.member(0, 0, 3, 3000);
        x.wed(0, 2, 3000);
        x.rate(0, 1, 3100);
        int[][] by = {{0, 0, 0}, {3, 2, 0}, {3, 2, 1}, {1, 2, 1}};
        for (int e = 0; e < 4; e++) {
            due("rate by " + e, x.rule(0, 0, 3250, e), by[e][0]);
            due("years by " + e, x.rule(1, 0, 3250, e), by[e][1]);
            due("wives by " + e, x.rule(3, 0, 3250, e), by[e][2]);
            due("old by " + e, x.rule(2, 0, 3250, e), 22);
        }
        x.strike(1);
        due("wives by all", x.rule(3, 0, 3250, -1), 0);
        due("wives by 3", x.rule(3, 0, 3250, 3), 1);
        WidowsFund y = Funds.couple("due=1;due=2 if wives>0");
        due("why by 1", y.why(0, 0, 3000, 1), 0);
        due("why by 2", y.why(0, 0, 3000, 2), 1);
        due("quarrel by 1", y.quarrel(0, 0, 3000, 1), -5);
        due("quarrel by 2", y.quarrel(0, 0, 3000, 2), 0);
    }

    /** "A man (-1: none)": all names are 0 then, but year. */
    private static void namesOfNone() {
        WidowsFund x = named();
        x.member(0, 0, 3, 3000);
        x.wed(0, 2, 3000);
        for (int s = 0; s < 4; s++) due("name of none " + s, x.rule(s, -1, 5000, -1), 0);
        due("year of none", x.rule(4, -1, 5000, -1), 50);
        due("why of none", x.why(4, -1, 5000, -1), 4);
        due("of another man", x.rule(0, 1, 5000, -1), 0);
    }

    // ---- QUARREL

    /** "Another CLAUSE of an ACT of the same DAY, with the same SUBJECT". */
    private static void quarrelOfTheSameDay() {
        WidowsFund x = new WidowsFund();
        Check.act(x, "due=1;rent=2", 500);
        due("alone", x.quarrel(0, -1, 500, -1), -5);
        Check.act(x, "due=3", 499);
        due("of another day", x.quarrel(0, -1, 500, -1), -5);
        Check.act(x, "rent=4", 500);
        due("of another subject", x.quarrel(0, -1, 500, -1), -5);
        due("rents quarrel", x.quarrel(1, -1, 500, -1), 1);
        Check.act(x, "due=5;sum=6", 500);
        due("of the same day", x.quarrel(0, -1, 500, -1), 0);
        due("ahead there was one alone", x.quarrel(0, -1, 499, -1), -5);
        Check.act(x, "due=7", 500);
        due("the one of the greatest number", x.quarrel(0, -1, 500, -1), 300);
        Check.act(x, "due=8;due=9;due=10", 500);
        due("then place, in its own act", x.quarrel(0, -1, 500, -1), 501);
        Check.act(x, "due=11", 501);
        due("a later act alone", x.quarrel(0, -1, 501, -1), -5);
        due("the day ahead", x.quarrel(0, -1, 500, -1), 501);
        due("none for none", x.quarrel(3, -1, 500, -1), -5);
        x.quarrel(0, -1, 500, -1);
        due("nor ahead of all", x.quarrel(0, -1, 498, -1), -5);
        WidowsFund y = new WidowsFund();
        Check.act(y, "late=5;late=6;age=7 if year=9;age=8 if year=9", 300);
        due("late", y.quarrel(8, -1, 300, -1), 0);
        due("none holds, though others of that day quarrel", y.quarrel(7, -1, 300, -1), -5);
        due("both hold", y.quarrel(7, -1, 900, -1), 2);
        due("none again", y.quarrel(7, -1, 1000, -1), -5);
        due("none ahead of its day", y.quarrel(8, -1, 299, -1), -5);
    }

    /** "That holds too": in force, not STRUCK OUT, its CONDITIONS. */
    private static void quarrelThatHoldsToo() {
        WidowsFund x = new WidowsFund();
        Check.act(x, "due=1;due=2 if year<7;due=3", 500);
        due("the second", x.quarrel(0, -1, 699, -1), 1);
        due("does not hold", x.quarrel(0, -1, 700, -1), 0);
        x.out(0, 1, 600);
        due("the day ahead", x.quarrel(0, -1, 599, -1), 1);
        due("struck out", x.quarrel(0, -1, 600, -1), 0);
        x.out(0, 0, 650);
        due("none is left to quarrel", x.quarrel(0, -1, 650, -1), -5);
        x.out(0, 2, 640);
        due("the first alone", x.why(0, -1, 640, -1), 0);
        due("it has no quarrel", x.quarrel(0, -1, 640, -1), -5);
    }

    /** "And comes to something else": what it comes to, between 0 and 9999. */
    private static void quarrelOverSomethingElse() {
        WidowsFund x = new WidowsFund();
        Check.act(x, "due=4;due=5;due=2+3", 0);
        due("the like one is none", x.quarrel(0, -1, 0, -1), 0);
        WidowsFund y = new WidowsFund();
        Check.act(y, "due=5-9;due=0;rent=9999+9;rent=9999", 0);
        due("0 and below 0 are like", y.quarrel(0, -1, 0, -1), -5);
        due("9999 and above are like", y.quarrel(1, -1, 0, -1), -5);
        Check.act(y, "due=1;rent=9998", 0);
        due("0 is else than 1", y.quarrel(0, -1, 0, -1), 1);
        due("9999 is else than 9998", y.quarrel(1, -1, 0, -1), 3);
        WidowsFund z = Funds.couple("due=rate;due=1");
        due("for him they are like", z.quarrel(0, 0, 3000, -1), -5);
        z.rate(0, 2, 3100);
        due("then no more", z.quarrel(0, 0, 3100, -1), 0);
        due("for none", z.quarrel(0, -1, 3100, -1), 0);
    }
}
