/** Promises 33 to 39: tables of deaths, one's own, what lives and promises are worth, and the fund's value. */
public final class TablesTest {
    private static final int NONE = WidowsFund.NONE, BAD = WidowsFund.BAD;
    private static final long NO = WidowsFund.NO;

    public static void main(String[] args) {
        table();
        own();
        alive();
        expect();
        interest();
        worth();
        value();
        Check.end("TablesTest");
    }

    private static void due(String call, long got, long want) {
        Check.due(call, got, want);
    }

    private static void table() {
        WidowsFund x = new WidowsFund();
        due("age 99", x.table(99, 5), NONE);
        due("age -1", x.table(-1, 2000), NONE);
        due("age 100", x.table(100, 5), NONE);
        due("n -1", x.table(5, -1), BAD);
        due("n 1001", x.table(5, 1001), BAD);
        for (int age = 0; age < 99; age++) due("at first " + age, x.table(age, 1000 - age), 10 + age);
        for (int age = 0; age < 99; age++) due("then " + age, x.table(age, 0), 1000 - age);
        due("all live on", x.alive(0, 99), 1000000);
        due("but behind 99", x.alive(0, 100), 0);
        due("n 1000", x.table(50, 1000), 0);
        due("all die", x.alive(40, 11), 0);
        due("not yet", x.alive(40, 10), 1000000);
    }

    private static void own() {
        WidowsFund x = new WidowsFund();
        x.person(0, 1050, -1, -1);
        x.person(1, 1050, -1, -1);
        x.person(1, 1051, -1, -1);
        due("age 100", x.own(100, -1, -1, 0), NONE);
        due("age -1", x.own(-1, 5, -1, 0), NONE);
        due("e", x.own(0, -1, 1, 0), NONE);
        due("what 2", x.own(0, -1, -1, 2), NONE);
        due("what -1", x.own(0, 5, -1, -1), NONE);
        due("day", x.own(0, 10000, -1, 0), BAD);
        due("day -1", x.own(0, -1, -1, 1), BAD);
        due("the last day counts", x.own(0, 1149, -1, 1), 2);
        due("not the day ahead", x.own(0, 1148, -1, 1), 0);
        due("one more", x.own(0, 1150, -1, 1), 3);
        x.death(0, 1149);
        due("died on its last day", x.own(0, 1149, -1, 1), 2);
        due("deaths", x.own(0, 1149, -1, 0), 1);
        due("deaths ahead", x.own(0, 1148, -1, 0), 0);
        due("years ahead", x.own(0, 1148, -1, 1), 0);
        x.death(1, 1150);
        due("lived through", x.own(0, 1150, -1, 1), 3);
        due("died at 1", x.own(1, 1150, -1, 0), 1);
        due("years of 1", x.own(1, 1150, -1, 1), 1);
        due("years of 1 later", x.own(1, 1250, -1, 1), 2);
        due("years of 1 by 1", x.own(1, 1250, 1, 1), 2);
        due("deaths at 1 by 1", x.own(1, 1250, 1, 0), 0);
        x.strike(1);
        due("struck", x.own(1, 1250, -1, 0), 0);
        due("age 88", x.own(88, 9999, -1, 1), 2);
        due("age 89 is not over", x.own(89, 9999, -1, 1), 0);
        WidowsFund y = new WidowsFund();
        y.person(0, 0, -1, -1);
        due("age 99", y.own(99, 9999, -1, 1), 1);
        due("age 99 ahead", y.own(99, 9998, -1, 1), 0);
    }

    private static void alive() {
        WidowsFund x = new WidowsFund();
        due("age 100", x.alive(100, 200), NONE);
        due("age -1", x.alive(-1, 0), NONE);
        due("n 101", x.alive(0, 101), BAD);
        due("n -1", x.alive(0, -1), BAD);
        due("n 0", x.alive(99, 0), 1000000);
        due("n 1 of 99", x.alive(99, 1), 0);
        due("n 100 of 99", x.alive(99, 100), 0);
        due("n 1", x.alive(0, 1), 990000);
        due("n 2", x.alive(0, 2), 979110);
        due("n 3 cut", x.alive(0, 3), 979110 - 11749);
        due("n 100", x.alive(0, 100), 0);
        due("n 99 is more", x.alive(0, 99) > 0 ? 1 : 0, 1);
        due("of 98", x.alive(98, 1), 892000);
    }

    private static void expect() {
        WidowsFund x = new WidowsFund();
        due("age -1", x.expect(-1), NONE);
        due("age 100", x.expect(100), NONE);
        due("age 99", x.expect(99), 0);
        due("age 98", x.expect(98), 892000);
        for (int age = 0; age < 100; age += 9) {
            x = new WidowsFund();
            int all = 0;
            for (int n = 1; age + n <= 99; n++) all += x.alive(age, n);
            due("age " + age, x.expect(age), all);
        }
    }

    private static void interest() {
        WidowsFund x = new WidowsFund();
        due("-1", x.interest(-1), BAD);
        due("21", x.interest(21), BAD);
        due("20", x.interest(20), 4);
        due("count(8)", x.count(8), 20);
        due("0", x.interest(0), 20);
        due("worth without it", x.worth(1000, 98), 892);
        due("0 again", x.interest(10), 0);
        due("worth with 10", x.worth(1000, 98), 810);
    }

    private static void worth() {
        WidowsFund x = new WidowsFund();
        due("age 100", x.worth(5, 100), NO);
        due("age -1", x.worth(5, -1), NO);
        due("coins -1", x.worth(-1, 5), NO);
        due("coins 10000", x.worth(10000, 5), NO);
        due("coins 0", x.worth(0, 5), 0);
        due("age 99", x.worth(9999, 99), 0);
        due("at 98", x.worth(9999, 98), 9999L * 892000 * 961538 / 1000000000000L);
        for (int age = 0; age < 100; age += 7) {
            x = new WidowsFund();
            long all = 0;
            long v = 1000000;
            for (int n = 1; age + n <= 99; n++) {
                v = v * 100 / 104;
                all += 9999L * x.alive(age, n) * v;
            }
            due("at " + age, x.worth(9999, age), all / 1000000000000L);
        }
    }

    private static void value() {
        WidowsFund x = new WidowsFund();
        x.seat(2);
        x.person(0, 1000, -1, -1);
        x.person(1, 2000, -1, -1);
        x.person(0, 2000, -1, -1);
        x.person(1, 1000, -1, -1);
        x.begin(777);
        due("year", x.value(100, -1), NO);
        due("year -1", x.value(-1, -1), NO);
        due("e", x.value(5, 1), NO);
        due("without members", x.value(40, -1), 777);
        Check.act(x, "due=10+rate;rent=400+rate", 0);
        x.member(0, 0, 1, 4099);
        due("ahead", x.value(39, -1), 777);
        due("a member on the last day", x.value(40, -1), 777 + x.worth(11, 30));
        x.wed(0, 1, 4100);
        due("and his wife", x.value(41, -1), 777 + x.worth(11, 31) - (x.worth(401, 21) - x.worth(401, 31)));
        due("by 1", x.value(41, 1), 777 + x.worth(11, 31));
        x.member(2, 1, 0, 4100);
        x.wed(2, 3, 4100);
        due("an elder wife", x.value(41, -1),
                777 + x.worth(11, 31) + x.worth(10, 21) - (x.worth(401, 21) - x.worth(401, 31)));
        x.death(0, 4199);
        due("a widow", x.value(41, -1), x.chest(41, -1) + x.worth(10, 21) - x.worth(401, 21));
        due("her chest", x.chest(41, -1), 777 - 4);
        WidowsFund y = new WidowsFund();
        y.seat(1);
        y.person(1, 2000, -1, -1);
        y.person(0, 1000, -1, -1);
        Check.act(y, "rent=500", 0);
        y.member(1, 0, 0, 3000);
        y.wed(1, 0, 3000);
        due("a wife with number 0", y.value(30, -1), y.worth(500, 20) - y.worth(500, 10));
        x.gone(2, false, 4300);
        due("gone", x.value(43, -1), x.chest(43, -1) - x.worth(401, 23));
    }
}
