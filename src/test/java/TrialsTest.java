/** Promises 40 to 49: rows, steps, plans, tried acts, a told year, and counts. */
public final class TrialsTest {
    private static final int NONE = WidowsFund.NONE, BAD = WidowsFund.BAD, FULL = WidowsFund.FULL;
    private static final long NO = WidowsFund.NO;

    public static void main(String[] args) {
        rows();
        shortByNone();
        shortByRows();
        paysAsTheyCome();
        steps();
        plans();
        plansOfLikeSets();
        plansByRows();
        tried();
        told();
        checked();
        judged();
        counts();
        Check.end("TrialsTest");
    }

    private static void due(String call, long got, long want) {
        Check.due(call, got, want);
    }

    /** A member 0 on seat 0 from 3000 on, his wife 1, his child 2, a man 3; rate 1. */
    private static WidowsFund family() {
        WidowsFund x = new WidowsFund();
        x.seat(1);
        x.person(0, 1000, -1, -1);
        x.person(1, 1000, -1, -1);
        x.person(0, 3900, 0, 1);
        x.person(0, 1000, -1, -1);
        x.member(0, 0, 1, 3000);
        x.wed(0, 1, 3000);
        return x;
    }

    private static void rows() {
        WidowsFund x = family();
        due("rows of none", x.rows(0, 0, 5), NONE);
        for (int i = 0; i < 4; i++) due("row", x.row(), i);
        due("row full", x.row(), FULL);
        due("count(5)", x.count(5), 4);
        due("rows 4", x.rows(4, 0, 5), NONE);
        due("rows -1", x.rows(-1, 0, 5), NONE);
        due("person 4", x.rows(0, 4, 500), NONE);
        due("person -1", x.rows(0, -1, 5), NONE);
        due("year 100", x.rows(0, 0, 100), BAD);
        due("year -1", x.rows(0, 0, -1), BAD);
        for (int i = 1; i <= 8; i++) due("rows", x.rows(3, 0, 5), i);
        due("full", x.rows(3, 0, 5), FULL);
        due("full, bad", x.rows(3, 0, 100), BAD);
        due("full, none", x.rows(3, 9, 100), NONE);
        due("another", x.rows(2, 0, 5), 1);
    }

    private static void shortByNone() {
        WidowsFund x = family();
        due("row 0", x.shortBy(0, 5, 5), NONE);
        due("row -2", x.shortBy(-2, 100, 5), NONE);
        due("year 100", x.shortBy(-1, 100, 5), BAD);
        due("year -1", x.shortBy(-1, -1, 5), BAD);
        due("n 0", x.shortBy(-1, 5, 0), BAD);
        due("n 21", x.shortBy(-1, 5, 21), BAD);
        due("never", x.shortBy(-1, 5, 20), -5);
        x.begin(50);
        x.loan(51, 40, 1, 4);
        due("not in its own year", x.shortBy(-1, 40, 5), -5);
        due("in the year of giving", x.shortBy(-1, 39, 5), 40);
        due("by n", x.shortBy(-1, 20, 20), 40);
        due("not by n", x.shortBy(-1, 20, 19), -5);
        x.loan(9999, 99, 1, 4);
        due("the last year", x.shortBy(-1, 98, 20), 99);
        due("behind the last year", x.shortBy(-1, 99, 20), -5);
    }

    private static void shortByRows() {
        WidowsFund x = family();
        x.begin(100);
        Check.act(x, "rent=60;sum=130", 0);
        x.row();
        x.rows(0, 0, 50);
        due("by none", x.shortBy(-1, 45, 20), -5);
        due("30, then 60, then 60", x.shortBy(0, 45, 20), 52);
        due("of a year up to y, too", x.shortBy(0, 50, 20), 52);
        due("it is not so in the book", x.as(0, 5050, -1), 1);
        x.row();
        x.rows(1, 0, 50);
        x.rows(1, 1, 50);
        due("a sum", x.shortBy(1, 45, 20), 50);
        due("a sum of a year up to y is no more", x.shortBy(1, 50, 20), -5);
        x.row();
        x.rows(2, 1, 49);
        x.rows(2, 1, 48);
        x.rows(2, 1, 60);
        x.rows(2, 0, 51);
        due("told earlier", x.shortBy(2, 45, 20), 51);
        x.death(2, 4900);
        due("no child", x.shortBy(2, 45, 20), -5);
        x.death(0, 5000);
        due("dead already", x.shortBy(0, 48, 20), 51);
        due("dead already, no row", x.shortBy(-1, 48, 20), 51);
        WidowsFund y = new WidowsFund();
        y.seat(1);
        y.person(0, 0, -1, -1);
        y.person(1, 0, -1, -1);
        y.member(0, 0, 0, 30);
        y.wed(0, 1, 30);
        Check.act(y, "rent=5;due=1", 0);
        y.row();
        due("an empty row", y.shortBy(0, 0, 20), -5);
        y.rows(0, 0, 0);
        due("in the first year", y.shortBy(0, 0, 20), 1);
    }

    private static void paysAsTheyCome() {
        WidowsFund x = family();
        Check.act(x, "due=10;rent=1;tax=25;vacant=5", 0);
        x.pay(0, 9999, 5100);
        x.begin(0);
        due("paid by the book does not count", x.shortBy(-1, 50, 5), -5);
        x.loan(20 + 150, 52, 30, 0);
        due("dues of 51 and 52 come", x.shortBy(-1, 50, 5), -5);
        due("chest of 50", x.chest(50, -1), 150);
        x.loan(1, 52, 30, 0);
        due("one more is short", x.shortBy(-1, 50, 5), 52);
        x.person(1, 1000, -1, -1);
        x.death(1, 5160);
        x.wed(0, 4, 5160);
        due("and tax", x.shortBy(-1, 50, 5), -5);
        x.row();
        x.rows(0, 0, 51);
        due("no tax of the dead, but a seat", x.shortBy(0, 50, 5), 52);
    }

    private static void steps() {
        WidowsFund x = new WidowsFund();
        for (int s = -1; s < 10; s++) {
            if (s != 0 && s != 1 && s != 3) due("step " + s, x.step(s, 301), NONE);
        }
        due("step -1", x.step(0, -1), BAD);
        due("step 301", x.step(0, 301), BAD);
        due("step 0", x.step(0, 0), 0);
        due("step 300", x.step(1, 300), 1);
        due("step tax", x.step(3, 100), 2);
        due("step due", x.step(0, 100), 3);
        due("full", x.step(0, 100), FULL);
        due("full, bad", x.step(0, 301), BAD);
        due("full, none", x.step(2, 301), NONE);
        due("count(6)", x.count(6), 4);
    }

    private static void plans() {
        WidowsFund x = family();
        due("what 2", x.plan(100, 5, 2), NONE);
        due("what -1", x.plan(5, 5, -1), NONE);
        due("year", x.plan(100, 5, 0), BAD);
        due("year -1", x.plan(-1, 5, 0), BAD);
        due("n 0", x.plan(5, 0, 1), BAD);
        due("n 21", x.plan(5, 21, 1), BAD);
        due("n 20", x.plan(5, 20, 0), 0);
        due("no steps, no rows", x.plan(50, 5, 0), 0);
        due("its dues", x.plan(50, 5, 1), 0);
        due("without members", x.plan(20, 5, 0), 0);
        due("dues without members", x.plan(20, 5, 1), -5);
        Check.act(x, "due=15", 0);
        due("dues", x.plan(50, 5, 1), 15);
        x.step(0, 50);
        due("half", x.plan(50, 5, 0), 1);
        due("half, cut", x.plan(50, 5, 1), 7);
        x.step(0, 30);
        due("least", x.plan(50, 5, 0), 2);
        due("least, cut", x.plan(50, 5, 1), 4);
        x.row();
        x.loan(60, 54, 1, 0);
        due("short by both", x.plan(50, 5, 0), 0);
        due("full dues", x.plan(50, 5, 1), 15);
        x.step(0, 150);
        due("no need", x.plan(50, 5, 0), 0);
        x.loan(20, 54, 1, 0);
        due("a step up", x.plan(50, 5, 0), 4);
        due("dues of a step up", x.plan(50, 5, 1), 22);
        x.loan(9, 54, 1, 0);
        due("none is enough", x.plan(50, 5, 0), -5);
        due("none is enough, dues", x.plan(50, 5, 1), -5);
        due("none for whom there is nobody", x.plan(20, 5, 0), 0);
    }

    private static void plansOfLikeSets() {
        WidowsFund x = family();
        Check.act(x, "due=2;rent=50;tax=4", 0);
        x.step(3, 300);
        x.step(1, 50);
        x.step(0, 101);
        x.step(1, 0);
        due("the fewest", x.plan(50, 5, 0), 0);
        x.row();
        x.rows(0, 0, 51);
        due("rents by a step", x.plan(50, 2, 0), 8);
        x.begin(60);
        due("less of a step", x.plan(50, 2, 0), 2);
        due("dues", x.plan(50, 2, 1), 2);
        x.begin(72);
        due("one coin short", x.plan(50, 2, 0), 2);
        x.begin(73);
        due("no step at all", x.plan(50, 2, 0), 0);
        WidowsFund y = family();
        Check.act(y, "due=2", 0);
        y.step(0, 50);
        y.step(0, 60);
        y.step(0, 99);
        due("like sets", y.plan(50, 2, 0), 1);
        due("like dues", y.plan(50, 2, 1), 1);
    }

    private static void plansByRows() {
        WidowsFund x = family();
        x.member(3, 0, 0, 2500);
        Check.act(x, "due=10+rate*4", 0);
        x.step(0, 200);
        due("who pays least", x.plan(50, 2, 1), 10);
        due("ahead of year 30", x.plan(29, 2, 1), 10);
        x.gone(3, false, 5099);
        due("on the last day", x.plan(50, 2, 1), 14);
        x.row();
        x.rows(0, 0, 51);
        x.row();
        x.loan(27, 52, 5, 0);
        due("one row is short", x.shortBy(0, 50, 2), 52);
        due("the other is not", x.shortBy(1, 50, 2), -5);
        due("by the worst row", x.plan(50, 2, 0), 1);
        due("its dues", x.plan(50, 2, 1), 28);
        due("from 52 on all is as it is", x.plan(53, 2, 0), -5);
    }

    private static void tried() {
        WidowsFund x = family();
        Check.act(x, "vacant=3", 0);
        Check.feed(x, "vacant=5");
        due("year", x.tried(5, 100), NO);
        due("day", x.tried(10000, 5), NO);
        due("the tape stays", x.count(7), 8);
        due("tried", x.tried(1000, 20), 3 * 10 + 5 * 11);
        due("the tape is empty", x.count(7), 0);
        due("no act more", x.count(2), 1);
        due("as before", x.chest(20, -1), 63);
        due("no act", x.tried(5, 5), NO + 1);
        Check.feed(x, "vacant=05");
        due("a fault", x.tried(5, 5), NO + 1);
        due("the tape is empty behind a fault", x.count(7), 0);
        for (int i = 1; i < 8; i++) Check.act(x, "due=" + i, 1000);
        due("eight", x.count(2), 8);
        Check.feed(x, "vacant=4");
        due("a ninth is tried", x.tried(0, 20), 4 * 21);
        due("still eight", x.count(2), 8);
        due("why", x.why(4, -1, 0, -1), 0);
        x.death(0, 4000);
        Check.feed(x, "begun;rent=100");
        due("begun rents", x.tried(4150, 41) - x.chest(41, -1), -50);
        due("rule ahead", x.why(1, -1, 5000, -1), -5);
    }

    private static void told() {
        WidowsFund x = family();
        due("person 4", x.told(4, 0, 9999999), NO);
        due("person -2", x.told(-2, 0, 5), NO);
        due("what 3", x.told(0, 3, 5), NO);
        due("what -1", x.told(0, -1, 5), NO);
        due("chest what 1", x.told(-1, 1, 5), NO);
        due("coins", x.told(0, 0, 1000000), NO + 1);
        due("coins below", x.told(-1, 0, -1000000), NO + 1);
        due("told", x.told(0, 0, 999999), 0);
        due("told again", x.told(0, 0, -999999), 999999);
        due("told once more", x.told(0, 0, 0), -999999);
        due("another what", x.told(0, 1, 7), 0);
        due("a third what", x.told(0, 2, 8), 0);
        due("another person", x.told(1, 1, 9), 0);
        due("the chest", x.told(-1, 0, 10), 0);
        due("as they were", x.told(0, 1, 0) * 1000 + x.told(0, 2, 0) * 100 + x.told(1, 1, 0) * 10 + x.told(-1, 0, 0), 7900);
    }

    private static void checked() {
        WidowsFund x = family();
        Check.act(x, "due=5;rent=50;sum=7;vacant=1", 0);
        due("e", x.check(-1, 3), NONE);
        due("year", x.check(100, -1), BAD);
        due("year -1", x.check(-1, -1), BAD);
        due("dues first", x.check(40, -1), 0);
        x.told(0, 0, 5);
        due("the chest last", x.check(40, -1), 100);
        x.told(-1, 0, x.chest(40, -1));
        due("right", x.check(40, -1), -5);
        due("another year", x.check(29, -1), 0);
        due("by 0", x.check(40, 0), 0);
        x.told(2, 2, 1);
        due("a sum", x.check(40, -1), 8);
        x.told(2, 1, 1);
        due("a rent of a man", x.check(40, -1), 7);
        x.told(1, 0, 1);
        due("dues of a woman", x.check(40, -1), 3);
        WidowsFund y = new WidowsFund();
        for (int p = 0; p < 24; p++) y.person(p & 1, p, -1, -1);
        y.begin(7);
        due("of 24", y.check(40, -1), 100);
        due("judged", y.judge(40, -1), 1);
        due("right", y.check(40, -1), -5);
        y.told(23, 2, 4);
        due("the last one", y.check(40, -1), 71);
    }

    private static void judged() {
        WidowsFund x = family();
        Check.act(x, "due=5;rent=50;sum=7;vacant=1", 0);
        due("e", x.judge(-1, 3), NONE);
        due("year", x.judge(100, -1), BAD);
        due("two", x.judge(40, -1), 2);
        due("none changes", x.judge(40, -1), 0);
        due("right", x.check(40, -1), -5);
        x.death(0, 4150);
        due("rent and chest", x.judge(41, -1), 2);
        due("right then", x.check(41, -1), -5);
        due("rent was", x.told(1, 1, 25), 25);
        due("by 2", x.judge(41, 2), 2);
        due("dues", x.told(0, 0, 0), 5);
        due("chest", x.told(-1, 0, 0), 30);
    }

    private static void counts() {
        WidowsFund x = family();
        due("persons", x.count(0), 4);
        due("entries", x.count(1), 2);
        due("acts", x.count(2), 0);
        due("seats", x.count(3), 1);
        x.loan(5, 5, 5, 5);
        x.row();
        x.step(0, 5);
        x.feed(5, 3);
        due("loans", x.count(4), 1);
        due("rows", x.count(5), 1);
        due("steps", x.count(6), 1);
        due("bytes", x.count(7), 3);
        due("interest", x.count(8), 4);
        due("9", x.count(9), NONE);
        due("-1", x.count(-1), NONE);
    }
}
