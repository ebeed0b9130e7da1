/** Term 5, promises 33 to 39: each sentence on an edge has a test of its own, which bears its words. */
public final class TableEdgesTest {
    private static final int NONE = WidowsFund.NONE, BAD = WidowsFund.BAD;
    private static final long NO = WidowsFund.NO;

    public static void main(String[] args) {
        tenAndAgeAtFirst();
        allDieAt99();
        diedAtThatAge();
        livedThroughToItsEnd();
        ownByEUpToADay();
        ownAtTheEdgesOfAges();
        aliveBehindNYears();
        aliveIsCutEachYear();
        beyondAge99None();
        expectUpToAge99();
        interestFrom0To20();
        vIsCutEachYear();
        worthIsCutOnce();
        worthOfCoins();
        valueOfMembersOnTheLastDay();
        valueByTheRuleOfThatDay();
        valueLessRents();
        valueOfWivesIfAbove0();
        valueByYearAndE();
        Check.end("TableEdgesTest");
    }

    private static void due(String call, long got, long want) {
        Check.due(call, got, want);
    }

    // ---- TABLE

    /** "Of 1000 at an AGE so many die in a YEAR (0 .. 1000; 10 and AGE at first)": what it was. */
    private static void tenAndAgeAtFirst() {
        WidowsFund x = new WidowsFund();
        due("at 0", x.table(0, 1000), 10);
        due("at 98", x.table(98, 0), 108);
        due("at 57", x.table(57, 57), 67);
        due("1001", x.table(0, 1001), BAD);
        due("-1", x.table(0, -1), BAD);
        due("refused, it stays", x.table(0, 5), 1000);
        due("its neighbour", x.table(1, 1), 11);
        due("0", x.table(98, 1000), 0);
        due("1000", x.table(98, 7), 1000);
        due("99", x.table(99, 7), NONE);
        due("-1", x.table(-1, 7), NONE);
    }

    /** "All at 99", which none can tell otherwise. */
    private static void allDieAt99() {
        WidowsFund x = new WidowsFund();
        due("none told", x.table(99, 0), NONE);
        due("one year", x.alive(99, 1), 0);
        due("no year", x.alive(99, 0), 1000000);
        x.table(98, 0);
        due("from 98 to 99", x.alive(98, 1), 1000000);
        due("from 98 beyond", x.alive(98, 2), 0);
        due("no worth", x.worth(9999, 99), 0);
        due("nothing to expect", x.expect(99), 0);
    }

    // ---- OWN

    /** "How many PERSONS DIED at that AGE", up to a DAY. */
    private static void diedAtThatAge() {
        WidowsFund x = Funds.four();
        x.death(0, 3099);
        x.death(1, 3100);
        x.death(2, 3299);
        due("at 20", x.own(20, 9999, -1, 0), 3);
        due("at 19", x.own(19, 9999, -1, 0), 0);
        due("at 21", x.own(21, 9999, -1, 0), 0);
        due("on the day of the first", x.own(20, 3099, -1, 0), 1);
        due("the day ahead", x.own(20, 3098, -1, 0), 0);
        due("on the day of the second", x.own(20, 3100, -1, 0), 2);
        due("ahead of the third", x.own(20, 3298, -1, 0), 2);
        due("on the day of the third", x.own(20, 3299, -1, 0), 3);
        WidowsFund y = Funds.four();
        y.death(0, 1000);
        due("on its birth", y.own(0, 1000, -1, 0), 1);
        due("a year in which it died", y.own(0, 1000, -1, 1), 1);
        y.death(1, 1199);
        due("on the last day at 0", y.own(0, 1199, -1, 0), 2);
        y.death(2, 1300);
        due("on the first day at 1", y.own(0, 9999, -1, 0), 2);
        due("it is one at 1", y.own(1, 9999, -1, 0), 1);
    }

    /** "How many whole YEARS of that AGE PERSONS have LIVED through to its end (its last DAY is that DAY or ahead of it), or died in." */
    private static void livedThroughToItsEnd() {
        WidowsFund x = new WidowsFund();
        x.person(0, 1000, -1, -1);
        due("the day ahead of its last day", x.own(20, 3098, -1, 1), 0);
        due("its last day", x.own(20, 3099, -1, 1), 1);
        due("for ever", x.own(20, 9999, -1, 1), 1);
        x.death(0, 3099);
        due("died on its last day, asked the day ahead", x.own(20, 3098, -1, 1), 0);
        due("died on its last day: once", x.own(20, 3099, -1, 1), 1);
        due("no year behind it", x.own(21, 9999, -1, 1), 0);
        x.strike(0);
        x.death(0, 3100);
        due("died on the day behind its last day", x.own(20, 3099, -1, 1), 1);
        due("then in the next", x.own(21, 3100, -1, 1), 1);
        due("not ahead of that", x.own(21, 3099, -1, 1), 0);
        due("no deaths at 20", x.own(20, 9999, -1, 0), 0);
        x.strike(2);
        x.death(0, 3050);
        due("died within, asked ahead", x.own(20, 3049, -1, 1), 0);
        due("died within", x.own(20, 3050, -1, 1), 1);
        due("each year ahead of it", x.own(0, 3050, -1, 1) + x.own(19, 3050, -1, 1), 2);
        due("none behind it", x.own(21, 9999, -1, 1), 0);
    }

    /** "By e up to a DAY". */
    private static void ownByEUpToADay() {
        WidowsFund x = Funds.four();
        x.death(0, 3050);
        x.death(1, 3150);
        x.strike(0);
        int[] deaths = {0, 1, 2, 1};
        int[] years = {2, 2, 2, 2};
        for (int e = 0; e < 4; e++) {
            due("deaths by " + e, x.own(20, 3199, e, 0), deaths[e]);
            due("years by " + e, x.own(20, 3199, e, 1), years[e]);
        }
        due("years at 21 by 1", x.own(21, 3299, 1, 1), 1);
        due("years at 21 by 0", x.own(21, 3299, 0, 1), 2);
        due("years at 21 by all", x.own(21, 3299, -1, 1), 1);
        due("by 4", x.own(20, 3199, 4, 0), NONE);
    }

    private static void ownAtTheEdgesOfAges() {
        WidowsFund x = new WidowsFund();
        x.person(0, 0, -1, -1);
        x.person(0, 1, -1, -1);
        due("at 0 on 98", x.own(0, 98, -1, 1), 0);
        due("at 0 on 99", x.own(0, 99, -1, 1), 1);
        due("at 0 on 100", x.own(0, 100, -1, 1), 2);
        due("at 99 on 9999", x.own(99, 9999, -1, 1), 1);
        due("at 99 on 9998", x.own(99, 9998, -1, 1), 0);
        due("at 98 on 9900", x.own(98, 9900, -1, 1), 2);
        x.death(0, 9999);
        x.death(1, 9999);
        due("both died at 99", x.own(99, 9999, -1, 0), 2);
        due("both died at 99, years", x.own(99, 9999, -1, 1), 2);
        due("died at 98", x.own(98, 9999, -1, 0), 0);
        x.strike(1);
        x.death(1, 9900);
        due("died at 98 on its last day", x.own(98, 9999, -1, 0), 1);
        due("both years at 98", x.own(98, 9999, -1, 1), 2);
        due("on day 0", x.own(0, 0, -1, 1), 0);
    }

    // ---- ALIVE and EXPECT

    /** "ALIVE: of 1000000 at an AGE after n YEARS: in each YEAR less so many 1000ths of it by AGES one behind the other." */
    private static void aliveBehindNYears() {
        WidowsFund x = new WidowsFund();
        due("no year", x.alive(0, 0), 1000000);
        due("one", x.alive(0, 1), 990000);
        due("two", x.alive(0, 2), 979110);
        due("one at 1", x.alive(1, 1), 989000);
        x.table(50, 500);
        x.table(51, 100);
        x.table(52, 0);
        x.table(53, 1000);
        due("half", x.alive(50, 1), 500000);
        due("a tenth of these", x.alive(50, 2), 450000);
        due("all of these", x.alive(50, 3), 450000);
        due("none of these", x.alive(50, 4), 0);
        due("none for ever", x.alive(50, 5), 0);
        due("from 51 on", x.alive(51, 2), 900000);
        due("from 49 on", x.alive(49, 2), (1000000 - 59000) / 2);
    }

    /** "(These cut)": those who die, in each YEAR. */
    private static void aliveIsCutEachYear() {
        WidowsFund x = new WidowsFund();
        x.table(0, 999);
        x.table(1, 1);
        x.table(2, 1);
        x.table(3, 2);
        x.table(4, 999);
        due("1000 are left", x.alive(0, 1), 1000);
        due("one of 1000", x.alive(0, 2), 999);
        due("none of 999", x.alive(0, 3), 999);
        due("one of 999 by 2", x.alive(0, 4), 998);
        due("997 of 998", x.alive(0, 5), 1);
        due("none of one, though 15 of 1000 die", x.alive(0, 6), 1);
        due("to the end", x.alive(0, 99), 1);
        due("all at 99", x.alive(0, 100), 0);
    }

    /** "(0 .. 100; beyond AGE 99 none)". */
    private static void beyondAge99None() {
        WidowsFund x = new WidowsFund();
        for (int age = 0; age < 99; age++) x.table(age, 0);
        due("at 0 after 99", x.alive(0, 99), 1000000);
        due("at 0 after 100", x.alive(0, 100), 0);
        due("at 60 after 39", x.alive(60, 39), 1000000);
        due("at 60 after 40", x.alive(60, 40), 0);
        due("at 60 after 41", x.alive(60, 41), 0);
        due("at 60 after 100", x.alive(60, 100), 0);
        due("at 99 after 100", x.alive(99, 100), 0);
        due("after 101", x.alive(60, 101), BAD);
        due("after -1", x.alive(60, -1), BAD);
    }

    /** "EXPECT: ALIVE after 1, 2, .. YEARS (up to AGE 99) together." */
    private static void expectUpToAge99() {
        WidowsFund x = new WidowsFund();
        due("at 98", x.expect(98), 892000);
        due("at 97", x.expect(97), 893000 + 893000 - 96444);
        for (int age = 0; age < 99; age++) x.table(age, 0);
        due("all, at 0", x.expect(0), 99000000);
        due("all, at 1", x.expect(1), 98000000);
        due("all, at 98", x.expect(98), 1000000);
        due("all, at 99", x.expect(99), 0);
        x.table(98, 1000);
        due("none at 98", x.expect(98), 0);
        due("one at 97", x.expect(97), 1000000);
        x.table(0, 1000);
        due("none at 0", x.expect(0), 0);
    }

    // ---- INTEREST, V and WORTH

    /** "INTEREST 0 .. 20 (4 at first)": what it was. */
    private static void interestFrom0To20() {
        WidowsFund x = new WidowsFund();
        due("4 at first", x.count(8), 4);
        due("-1", x.interest(-1), BAD);
        due("21", x.interest(21), BAD);
        due("4 still", x.count(8), 4);
        due("what it was", x.interest(0), 4);
        due("0", x.count(8), 0);
        due("0, too", x.interest(20), 0);
        due("20", x.count(8), 20);
        due("20, too", x.interest(7), 20);
        due("7", x.count(8), 7);
    }

    /** "V of n: 1000000, n times: times 100, by (100 and INTEREST), cut". */
    private static void vIsCutEachYear() {
        int[][] cases = {{4, 9999, 0, 154614}, {4, 9999, 20, 118965}, {4, 9999, 40, 95235}, {4, 7777, 0, 120255}, {7, 9999, 0, 109023},
            {7, 1234, 40, 9159}, {13, 9876, 40, 50460}, {20, 9876, 0, 45377}, {20, 1234, 20, 5092}, {1, 9999, 60, 101742}};
        for (int[] c : cases) {
            WidowsFund x = new WidowsFund();
            x.interest(c[0]);
            due("worth(" + c[1] + ", " + c[2] + ") at " + c[0], x.worth(c[1], c[2]), c[3]);
        }
        WidowsFund z = new WidowsFund();
        z.interest(0);
        for (int age = 0; age < 99; age++) z.table(age, 0);
        due("without interest", z.worth(9999, 0), 99L * 9999);
        due("for one year", z.worth(9999, 98), 9999);
        z.interest(20);
        due("with 20", z.worth(9999, 98), 8332);
        due("with 20 for two", z.worth(9999, 97), (833333L + 694444) * 9999 / 1000000);
    }

    /** "By 1000000000000, cut once at the end". */
    private static void worthIsCutOnce() {
        WidowsFund x = new WidowsFund();
        for (int age = 0; age < 99; age++) x.table(age, 0);
        due("0.96", x.worth(1, 98), 0);
        due("0.96 and 0.92", x.worth(1, 97), 1);
        due("0.96 and 0.92 and 0.88", x.worth(1, 96), 2);
        due("1.92 and 1.84 and 1.77", x.worth(2, 96), 5);
        x.interest(0);
        x.table(98, 1);
        due("0.999", x.worth(1, 98), 0);
        due("1.998", x.worth(2, 98), 1);
        due("1.999", x.worth(1, 97), 1);
        WidowsFund y = new WidowsFund();
        y.interest(20);
        due("hardly less than 30151", y.worth(9230, 68), 30150);
        y.interest(0);
        due("just 8697", y.worth(9750, 98), 8697);
    }

    /** "WORTH of COINS yearly at an AGE: over n 1, 2, ..": nothing for the year itself. */
    private static void worthOfCoins() {
        WidowsFund x = new WidowsFund();
        due("0 coins", x.worth(0, 0), 0);
        due("10000 coins", x.worth(10000, 0), NO);
        due("-1 coins", x.worth(-1, 0), NO);
        due("at 99", x.worth(9999, 99), 0);
        due("at 100", x.worth(9999, 100), NO);
        due("at -1", x.worth(9999, -1), NO);
        due("at 98", x.worth(1000, 98), 857);
        x.interest(0);
        due("at 98 without interest", x.worth(1000, 98), 892);
        x.table(98, 1000);
        due("none is left", x.worth(9999, 98), 0);
        due("of the years ahead", x.worth(1000, 97), 893);
    }

    // ---- VALUE

    /** "For each MEMBER on the last DAY of y WORTH of his due at his AGE". */
    private static void valueOfMembersOnTheLastDay() {
        WidowsFund x = Funds.four();
        Check.act(x, "due=100", 0);
        long worth = x.worth(100, 20);
        x.member(0, 0, 0, 3099);
        due("joined on the last day", x.value(30, -1), worth);
        due("the year ahead", x.value(29, -1), 0);
        x.member(1, 1, 0, 3100);
        due("joined a day later", x.value(30, -1), worth);
        due("two of them", x.value(31, -1), x.worth(100, 21) + x.worth(100, 20));
        x.gone(0, false, 3299);
        due("gone on the last day", x.value(32, -1), x.worth(100, 21));
        x.gone(1, false, 3400);
        due("gone a day later", x.value(33, -1), x.worth(100, 22));
        due("all gone", x.value(34, -1), 0);
        x.gone(0, true, 3599);
        due("back on the last day", x.value(35, -1), x.worth(100, 25));
        x.death(0, 3699);
        due("dead on the last day", x.value(36, -1), 0);
        x.strike(x.count(1) - 1);
        x.death(0, 3700);
        due("dead a day later", x.value(36, -1), x.worth(100, 26));
        due("dead the next year", x.value(37, -1), 0);
    }

    /** Due of the last DAY, for him. */
    private static void valueByTheRuleOfThatDay() {
        WidowsFund x = Funds.couple("due=100*rate+year");
        x.death(2, 3050);
        due("rate and year", x.value(30, -1), x.worth(130, 20));
        x.rate(0, 2, 3099);
        due("a rate of the last day", x.value(30, -1), x.worth(230, 20));
        x.rate(0, 3, 3100);
        due("a rate of a day later", x.value(30, -1), x.worth(230, 20));
        Check.act(x, "due=7", 3100);
        due("an act of a day later", x.value(30, -1), x.worth(230, 20));
        Check.act(x, "due=8", 3099);
        due("an act of the last day", x.value(30, -1), x.worth(8, 20));
        due("the year behind", x.value(31, -1), x.worth(7, 21));
    }

    /** "Less for each WIDOW then WORTH of her yearly RENT at her AGE". */
    private static void valueLessRents() {
        WidowsFund x = Funds.couple("rent=500");
        x.death(0, 3099);
        due("a widow from the last day on", x.value(30, -1), -5 - x.worth(500, 18));
        due("the year ahead", x.value(29, -1), 0);
        due("the year behind", x.value(31, -1), -505 - x.worth(500, 19));
        Check.act(x, "begun;rent=300", 3199);
        due("her rent of the last day", x.value(31, -1), x.chest(31, -1) - x.worth(300, 19));
        Check.act(x, "begun;rent=200", 3200);
        due("not of a day later", x.value(31, -1), x.chest(31, -1) - x.worth(300, 19));
        x.wed(1, 2, 3299);
        due("wed on the last day", x.value(32, -1), x.chest(32, -1));
        due("by 3", x.value(32, 3), x.chest(32, 3) - x.worth(200, 20));
        x.strike(3);
        x.death(2, 3299);
        due("dead on the last day", x.value(32, -1), x.chest(32, -1));
        WidowsFund y = Funds.couple("rent=500");
        y.death(0, 3100);
        due("a widow from a day later on", y.value(30, -1), 0 - Math.max(0, y.worth(500, 18) - y.worth(500, 20)));
        WidowsFund z = Funds.couple("rent=500");
        z.wed(1, 3, 3000);
        z.member(1, 1, 0, 3000);
        z.death(0, 3050);
        z.death(1, 3050);
        due("two widows", z.value(30, -1), z.chest(30, -1) - z.worth(500, 18) - z.worth(500, 17));
    }

    /** "For each MEMBER WED then WORTH of rent (for him then) at her AGE less WORTH of it at his AGE, if that is above 0". */
    private static void valueOfWivesIfAbove0() {
        WidowsFund x = Funds.couple("rent=500*rate");
        long more = x.worth(500, 18) - x.worth(500, 20);
        due("a younger wife", x.value(30, -1), -more);
        due("the tests' own ground", more > 0 ? 1 : 0, 1);
        x.rate(0, 2, 3100);
        due("rent for him then", x.value(30, -1), -more);
        due("rent for him later", x.value(31, -1), x.worth(1000, 21) - x.worth(1000, 19));
        x.gone(0, false, 3299);
        due("gone on the last day", x.value(32, -1), 0);
        x.gone(0, true, 3300);
        x.death(2, 3399);
        due("her death on the last day", x.value(33, -1), 0);
        x.wed(0, 3, 3499);
        due("wed again on the last day", x.value(34, -1), x.worth(1000, 24) - x.worth(1000, 21));
        WidowsFund y = new WidowsFund();
        y.seat(2);
        y.person(0, 1100, -1, -1);
        y.person(1, 1000, -1, -1);
        y.person(0, 1100, -1, -1);
        y.person(1, 1100, -1, -1);
        Check.act(y, "rent=500", 0);
        y.member(0, 0, 0, 3000);
        y.wed(0, 1, 3000);
        due("an elder wife", y.value(30, -1), 0);
        y.member(2, 1, 0, 3000);
        y.wed(2, 3, 3000);
        due("a wife as old as he", y.value(30, -1), 0);
        WidowsFund z = Funds.four();
        Check.act(z, "rent=500", 0);
        z.wed(0, 2, 3000);
        due("wed, but no member", z.value(30, -1), 0);
        WidowsFund w = new WidowsFund();
        w.seat(1);
        w.person(1, 1200, -1, -1);
        w.person(0, 1000, -1, -1);
        Check.act(w, "rent=500", 0);
        w.member(1, 0, 0, 3000);
        w.wed(1, 0, 3000);
        due("a wife whose number is 0", w.value(30, -1), -more);
    }

    /** "VALUE behind YEAR y by e: CHEST, and ..". */
    private static void valueByYearAndE() {
        WidowsFund x = new WidowsFund();
        x.seat(1);
        x.person(0, 0, -1, -1);
        Check.act(x, "due=50;vacant=3", 0);
        x.begin(100);
        x.member(0, 0, 0, 99);
        x.pay(0, 20, 99);
        due("year 0", x.value(0, -1), 100 + 3 + 20 + x.worth(50, 0));
        due("year 0 by 0", x.value(0, 0), 103);
        due("year 0 by 1", x.value(0, 1), 103 + x.worth(50, 0));
        due("year 99 at 99", x.value(99, -1), 123);
        due("year 98 at 98", x.value(98, -1), 123 + x.worth(50, 98));
        x.interest(0);
        due("another interest", x.value(98, -1), 123 + 44);
        x.table(98, 0);
        due("another table", x.value(98, -1), 123 + 50);
        x.loan(100, 98, 1, 5);
        due("a loan", x.value(98, -1), 23 + 50);
    }
}
