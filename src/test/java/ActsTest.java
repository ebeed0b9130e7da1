/** Promises 16 to 22: the tape, acts, their faults, what rules come to, why, and quarrels. */
public final class ActsTest {
    private static final int NONE = WidowsFund.NONE, BAD = WidowsFund.BAD, FULL = WidowsFund.FULL;

    public static void main(String[] args) {
        tape();
        goodTexts();
        faults();
        deepTexts();
        manyActs();
        actsAsKnown();
        sums();
        conditions();
        names();
        defaults();
        whichClause();
        quarrels();
        struckOut();
        refusals();
        Check.end("ActsTest");
    }

    private static void due(String call, long got, long want) {
        Check.due(call, got, want);
    }

    private static void tape() {
        WidowsFund x = new WidowsFund();
        due("feed n 0", x.feed(1, 0), BAD);
        due("feed n 9", x.feed(1, 9), BAD);
        due("feed n -1", x.feed(1, -1), BAD);
        due("feed highest first", x.feed(0x7777647565L, 3), 3);
        due("feed =7", x.feed(0xff3d37L, 2), 5);
        due("count(7)", x.count(7), 5);
        due("text", x.text(0), 0);
        due("count(7) behind text", x.count(7), 0);
        due("rule", x.rule(0, -1, 0, -1), 7);
        for (int i = 1; i <= 24; i++) due("feed 8", x.feed(-1L, 8), 8 * i);
        due("feed 7", x.feed(-1L, 7), 199);
        due("feed 2 more", x.feed(-1L, 2), FULL);
        due("feed bad more", x.feed(-1L, 12), BAD);
        due("feed 1 more", x.feed(-1L, 1), 200);
        due("feed 1 too many", x.feed(-1L, 1), FULL);
        due("count(7) full", x.count(7), 200);
        due("text day", x.text(10000), BAD);
        due("text day -1", x.text(-1), BAD);
        due("count(7) stays", x.count(7), 200);
        due("text fault", x.text(0), -10);
        due("count(7) empty", x.count(7), 0);
        due("text of nothing", x.text(0), -10);
    }

    private static void good(String text) {
        due("text " + text, Check.act(new WidowsFund(), text, 5), 0);
    }

    private static void goodTexts() {
        good("due=0");
        good("begun;due=9999");
        good("due=1;rent=2;sum=3;tax=4;vacant=5;fine=6;keeps=7;age=8");
        good("late=rate+years-old*wives+year");
        good("due=(1)");
        good("due=((rate+1)*(2-3))*4");
        good("due=1 if rate=0");
        good("due=1 if rate<0 and old>2 and (year)=(years+1)*2;rent=5 if 1<2");
        good("age=year");
        good("age=years");
        good("age=1;age=2;age=3;age=4;age=5;age=6;age=7;age=8 if 1=1");
    }

    private static void fault(String text, int place) {
        WidowsFund x = new WidowsFund();
        due("fault of " + text, Check.act(x, text, 5), -10 - place);
        due("acts behind it", x.count(2), 0);
        due("tape behind it", x.count(7), 0);
    }

    private static void faults() {
        fault("", 0);
        fault("x", 0);
        fault("Due=1", 0);
        fault(" due=1", 0);
        fault("d", 1);
        fault("du", 2);
        fault("due", 3);
        fault("due=", 4);
        fault("dux=1", 2);
        fault("dues=1", 3);
        fault("b", 1);
        fault("begun", 5);
        fault("begun;", 6);
        fault("begun:due=1", 5);
        fault("begun;begun;due=1", 6);
        fault("due=1;begun;due=1", 6);
        fault("due=1;", 6);
        fault("due=1;;due=2", 6);
        fault("due=00", 5);
        fault("due=12345", 8);
        fault("due=-1", 4);
        fault("due=1+", 6);
        fault("due=1+*2", 6);
        fault("due=1+-2", 6);
        fault("due=()", 5);
        fault("due=(1", 6);
        fault("due=(1;", 6);
        fault("due=(1))", 7);
        fault("due=1)", 5);
        fault("due=1(", 5);
        fault("due=(1 if 1=1", 6);
        fault("due=(1=1)", 6);
        fault("due=r", 5);
        fault("due=rent", 5);
        fault("due=rate1", 8);
        fault("due=1rate", 5);
        fault("due=ratex", 8);
        fault("due=yearss", 9);
        fault("due=yearl", 8);
        fault("due=yea", 7);
        fault("due=wivez", 8);
        fault("due=due", 4);
        fault("sun=1", 2);
        fault("tex=1", 1);
        fault("rate=1", 1);
        fault("due=1 ", 6);
        fault("due=1  if 1=1", 6);
        fault("due=1 if", 8);
        fault("due=1 if ", 9);
        fault("due=1 if  1=1", 9);
        fault("due=1if 1=1", 5);
        fault("due=1 and 1=1", 6);
        fault("due=1 if 1", 10);
        fault("due=1 if 1;due=2", 10);
        fault("due=1 if 1<", 11);
        fault("due=1 if 1<=2", 11);
        fault("due=1 if 1<2<3", 12);
        fault("due=1 if 1<2=3", 12);
        fault("due=1 if 1<2 ", 13);
        fault("due=1 if 1<2 if 2<3", 13);
        fault("due=1 if 1<2 an", 15);
        fault("due=1 if 1<2 and", 16);
        fault("due=1 if 1<2 and ", 17);
        fault("due=1 if 1<2 and 3", 18);
        fault("due=1 if (1<2)", 11);
        fault("due=1=1", 5);
        fault("due=1;due=2;due=3;due=4;due=5;due=6;due=7;due=8;due=9", 47);
        fault("due=1;due=2;due=3;due=4;due=5;due=6;due=7;due=8;", 47);
        fault("due==1", 4);
        fault("due=1" + (char) 0, 5);
        fault("due=1" + (char) 255, 5);
        fault("due=1\n", 5);
    }

    private static void deepTexts() {
        StringBuilder deep = new StringBuilder("due=");
        for (int i = 0; i < 97; i++) deep.append('(');
        deep.append("12");
        for (int i = 0; i < 97; i++) deep.append(')');
        WidowsFund x = new WidowsFund();
        due("deep", Check.act(x, deep.toString(), 0), 0);
        due("deep rule", x.rule(0, -1, 0, -1), 12);
        StringBuilder open = new StringBuilder("due=");
        for (int i = 0; i < 196; i++) open.append('(');
        fault(open.toString(), 200);
        StringBuilder right = new StringBuilder("due=");
        for (int i = 0; i < 48; i++) right.append("1-(");
        right.append('1');
        for (int i = 0; i < 48; i++) right.append(')');
        due("right", Check.act(x, right.toString(), 0), 1);
        due("right rule", x.rule(0, -1, 0, -1), 1);
        StringBuilder sum = new StringBuilder("due=1");
        for (int i = 0; i < 97; i++) sum.append("+1");
        due("sum", Check.act(x, sum.toString(), 0), 2);
        due("sum rule", x.rule(0, -1, 0, -1), 98);
    }

    private static void manyActs() {
        WidowsFund x = new WidowsFund();
        for (int i = 0; i < 8; i++) due("act", Check.act(x, "due=" + i, 9999 - i), i);
        Check.feed(x, "due=");
        due("full", x.text(5), FULL);
        due("full, bad", x.text(-5), BAD);
        due("count(7)", x.count(7), 4);
        due("count(2)", x.count(2), 8);
        due("rule of the greatest day", x.rule(0, -1, 9999, -1), 0);
        due("rule of one in between", x.rule(0, -1, 9996, -1), 3);
        due("rule ahead", x.why(0, -1, 9991, -1), -5);
    }

    private static void actsAsKnown() {
        WidowsFund x = new WidowsFund();
        Check.act(x, "begun;late=1;due=2", 77);
        Check.act(x, "keeps=1", 9999);
        due("day", x.force(0, 0), 77);
        due("clauses", x.force(0, 1), 2);
        due("begun", x.force(0, 2), 1);
        due("not begun", x.force(1, 2), 0);
        due("what 3", x.force(0, 3), NONE);
        due("what 9", x.force(0, 9), NONE);
        due("what -1", x.force(0, -1), NONE);
        due("clause 0", x.force(0, 10), 8);
        due("clause 1", x.force(0, 11), 0);
        due("clause 2", x.force(0, 12), NONE);
        due("clause 0 of 1", x.force(1, 10), 6);
        due("far", x.force(1, Integer.MAX_VALUE), NONE);
        due("act 2", x.force(2, 0), NONE);
        due("act -1", x.force(-1, 0), NONE);
        WidowsFund y = new WidowsFund();
        Check.act(y, "due=1;rent=1;sum=1;tax=1;vacant=1;fine=1;keeps=1;age=1", 0);
        for (int i = 0; i < 8; i++) due("subject " + i, y.force(0, 10 + i), i);
    }

    private static void comes(String sum, int value) {
        WidowsFund x = new WidowsFund();
        Check.act(x, "due=" + sum, 0);
        due("due=" + sum, x.rule(0, -1, 1234, -1), value);
    }

    private static void sums() {
        comes("1+2*3", 7);
        comes("(1+2)*3", 9);
        comes("10-3-2", 5);
        comes("10-(3-2)", 9);
        comes("2*3*4-1", 23);
        comes("2+3-4*1", 1);
        comes("2*(3-4)*(5-9)", 8);
        comes("1-2", 0);
        comes("9999+1", 9999);
        comes("year", 12);
        comes("year*year", 144);
        comes("0", 0);
        comes("9999*9999*9999", wrapped(9999 * 9999 * 9999));
        comes("9999*9999*22", wrapped(9999 * 9999 * 22));
        comes("8192*8192*64+5", 5);
        comes("8192*8192*32-1", 9999);
        comes("8192*8192*32", 0);
    }

    private static int wrapped(int value) {
        return Math.max(0, Math.min(9999, value));
    }

    private static void holds(String conditions, boolean so) {
        WidowsFund x = new WidowsFund();
        Check.act(x, "due=5;due=7 if " + conditions, 0);
        due("if " + conditions, x.rule(0, -1, 1234, -1), so ? 7 : 5);
        due("why if " + conditions, x.why(0, -1, 1234, -1), so ? 1 : 0);
    }

    private static void conditions() {
        holds("1<2", true);
        holds("2<2", false);
        holds("2=2", true);
        holds("2=3", false);
        holds("3>2", true);
        holds("2>2", false);
        holds("1<2 and 2<3", true);
        holds("1<2 and 3<3", false);
        holds("2<2 and 2<3", false);
        holds("1-2<0", true);
        holds("0-1-1=0-2", true);
        holds("8192*8192*32<0", true);
        holds("9999*9999>9999", true);
        holds("1=1 and 2=2 and 3=4", false);
        holds("(1+2)*3=9 and year=12", true);
    }

    private static void names() {
        WidowsFund x = new WidowsFund();
        x.seat(2);
        x.person(0, 1050, -1, -1);
        x.person(1, 1000, -1, -1);
        x.person(1, 1000, -1, -1);
        Check.act(x, "due=rate;rent=years;sum=old;tax=wives;vacant=year", 0);
        int[] unknown = {0, 0, 19, 0, 30};
        for (int s = 0; s < 5; s++) due("ahead of all " + s, x.rule(s, 0, 3049, -1), unknown[s]);
        due("unborn", x.rule(2, 0, 5, -1), 0);
        x.member(0, 0, 3, 3030);
        x.wed(0, 1, 3040);
        x.death(1, 3100);
        x.wed(0, 2, 3100);
        x.rate(0, 1, 3150);
        int[] then = {3, 0, 20, 2, 31};
        for (int s = 0; s < 5; s++) due("on 3129 " + s, x.rule(s, 0, 3149 - 20, -1), then[s]);
        int[] later = {1, 1, 21, 2, 31};
        for (int s = 0; s < 5; s++) due("on 3150 " + s, x.rule(s, 0, 3150, -1), later[s]);
        int[] byTwo = {3, 1, 21, 1, 31};
        for (int s = 0; s < 5; s++) due("by 2 " + s, x.rule(s, 0, 3150, 2), byTwo[s]);
        int[] ofNone = {0, 0, 0, 0, 31};
        for (int s = 0; s < 5; s++) due("none " + s, x.rule(s, -1, 3150, -1), ofNone[s]);
        x.gone(0, false, 3200);
        x.strike(0);
        x.gone(0, true, 3300);
        due("years without joined", x.rule(1, 0, 3400, -1), 0);
        due("rate by rate alone", x.rule(0, 0, 3400, -1), 1);
    }

    private static void defaults() {
        WidowsFund x = new WidowsFund();
        for (int s = 0; s < 9; s++) {
            due("default " + s, x.rule(s, -1, 0, -1), s == 7 ? 18 : s == 8 ? 40 : 0);
            due("default why " + s, x.why(s, -1, 0, -1), -5);
            due("default quarrel " + s, x.quarrel(s, -1, 0, -1), -5);
        }
        Check.act(x, "age=5 if 1=2;late=5 if 1=1", 10);
        due("age", x.rule(7, -1, 10, -1), 18);
        due("late", x.rule(8, -1, 10, -1), 5);
        due("late ahead", x.rule(8, -1, 9, -1), 40);
        due("late's why", x.why(8, -1, 10, -1), 1);
    }

    private static void whichClause() {
        WidowsFund x = new WidowsFund();
        Check.act(x, "due=1;due=2;rent=9", 500);
        Check.act(x, "due=3", 400);
        Check.act(x, "due=4 if year>9", 500);
        due("earlier", x.why(0, -1, 499, -1), 100);
        due("of one act the last", x.why(0, -1, 500, -1), 1);
        due("its value", x.rule(0, -1, 999, -1), 2);
        due("of like days the greatest number", x.why(0, -1, 1000, -1), 200);
        due("another subject", x.why(1, -1, 1000, -1), 2);
        Check.act(x, "due=5", 300);
        due("not the last told", x.why(0, -1, 400, -1), 100);
        due("the first by days", x.why(0, -1, 399, -1), 300);
    }

    private static void quarrels() {
        WidowsFund x = new WidowsFund();
        Check.act(x, "due=1;due=2;due=2", 500);
        due("in one act", x.quarrel(0, -1, 500, -1), 0);
        Check.act(x, "due=3;rent=1;due=2", 500);
        due("in the same act first", x.quarrel(0, -1, 500, -1), 100);
        due("ahead", x.quarrel(0, -1, 499, -1), -5);
        due("no other", x.quarrel(1, -1, 500, -1), -5);
        Check.act(x, "due=2", 500);
        due("of the greatest number", x.quarrel(0, -1, 500, -1), 100);
        Check.act(x, "due=7", 400);
        due("not of another day", x.quarrel(0, -1, 499, -1), -5);
        x.out(1, 0, 600);
        due("struck out", x.quarrel(0, -1, 600, -1), 0);
        Check.act(x, "due=9 if year=7;due=10 if year=7;due=11 if year=8", 500);
        due("holds too", x.quarrel(0, -1, 700, -1), 400);
        due("value of it", x.rule(0, -1, 700, -1), 10);
        due("holds not", x.quarrel(0, -1, 600, -1), 0);
        due("the one of the greatest place", x.quarrel(0, -1, 800, -1), 200);
        WidowsFund y = new WidowsFund();
        Check.act(y, "due=9999+5;due=9999;due=3-7;due=0", 0);
        due("0 and below are like", y.quarrel(0, -1, 0, -1), 1);
    }

    private static void struckOut() {
        WidowsFund x = new WidowsFund();
        Check.act(x, "due=1;due=2", 500);
        due("no act", x.out(1, 0, -1), NONE);
        due("act -1", x.out(-1, 0, 5), NONE);
        due("no clause", x.out(0, 2, -1), NONE);
        due("clause -1", x.out(0, -1, 5), NONE);
        due("day", x.out(0, 1, 10000), BAD);
        due("day -1", x.out(0, 1, -1), BAD);
        due("out", x.out(0, 1, 600), 1);
        due("ahead", x.rule(0, -1, 599, -1), 2);
        due("from", x.rule(0, -1, 600, -1), 1);
        due("out later", x.out(0, 1, 700), 0);
        due("the least counts", x.rule(0, -1, 650, -1), 1);
        due("out earlier", x.out(0, 1, 550), 0);
        due("the least counts now", x.rule(0, -1, 550, -1), 1);
        due("the other on 9999", x.out(0, 0, 9999), 1);
        due("again", x.out(0, 0, 9999), 0);
        due("none left", x.why(0, -1, 9999, -1), -5);
        due("one left", x.why(0, -1, 9998, -1), 0);
    }

    private static void refusals() {
        WidowsFund x = new WidowsFund();
        x.person(0, 100, -1, -1);
        x.person(1, 100, -1, -1);
        for (int call = 0; call < 3; call++) {
            due("subject 9", ask(x, call, 9, 0, -1, -1), NONE);
            due("subject -1", ask(x, call, -1, 0, 5, -1), NONE);
            due("a woman", ask(x, call, 0, 1, -1, -1), NONE);
            due("no person", ask(x, call, 0, 2, 5, -1), NONE);
            due("man -2", ask(x, call, 0, -2, 5, -1), NONE);
            due("e 1", ask(x, call, 0, 0, -1, 1), NONE);
            due("e -2", ask(x, call, 0, 0, 5, -2), NONE);
            due("day -1", ask(x, call, 0, 0, -1, -1), BAD);
            due("day 10000", ask(x, call, 0, -1, 10000, 0), BAD);
        }
    }

    private static int ask(WidowsFund x, int call, int subject, int man, int day, int e) {
        if (call == 0) return x.rule(subject, man, day, e);
        return call == 1 ? x.why(subject, man, day, e) : x.quarrel(subject, man, day, e);
    }
}
