/** Term 4, promises 23 to 32: each sentence on an edge has a test of its own, which bears its words. */
public final class CoinEdgesTest {
    private static final int NONE = WidowsFund.NONE, BAD = WidowsFund.BAD, FULL = WidowsFund.FULL;
    private static final long NO = WidowsFund.NO, MOST = 1000000000000L;

    public static void main(String[] args) {
        duesOnTheFirstDay();
        duesByTheRuleOfThatDay();
        taxNotForTheFirst();
        taxInTheYear();
        taxOfAMember();
        taxByTheRuleOfThatDay();
        paidInAYear();
        arrearsFromYear0On();
        arrearsAboveZero();
        fineIsCut();
        fineOfTheLastDay();
        arrearsAtMost();
        vacantOnTheFirstDay();
        vacantForNoMan();
        rentForEachDay();
        rentIsCutOnce();
        rentOfTheDayAhead();
        rentFromABegunActOn();
        rentByTheLatestBegunAct();
        rentByClausesStruckOut();
        rentWithNamesAsTheyWere();
        widowsYearlyRent();
        sumInTheYearOfDeath();
        sumOfSuchAOne();
        sumWithoutAWidow();
        sumOfTheDayAhead();
        sumForChildrenBelowAge();
        sumAsEqualAsCanBe();
        sumToNobody();
        sumsOfSeveralFathers();
        whatTheChestBeganWith();
        chestOfAllYears();
        chestByE();
        loansFrom0To11();
        loanYearByYear();
        loanAtHundredths();
        badFromAYearOn();
        badYearsTheLeastCounts();
        loansBeyondTheYears();
        Check.end("CoinEdgesTest");
    }

    private static void due(String call, long got, long want) {
        Check.due(call, got, want);
    }

    // ---- DUES and TAX

    /** "DUES of a MEMBER (as he is on DAY 100 y): due." */
    private static void duesOnTheFirstDay() {
        WidowsFund x = Funds.four();
        Check.act(x, "due=10+rate", 0);
        x.member(0, 0, 1, 3000);
        x.member(1, 1, 1, 3001);
        due("joined on the first day", x.owe(0, 30, -1, 0), 11);
        due("joined a day later", x.owe(1, 30, -1, 0), 0);
        due("the next year", x.owe(1, 31, -1, 0), 11);
        due("the year ahead", x.owe(0, 29, -1, 0), 0);
        x.gone(0, false, 3200);
        x.gone(1, false, 3201);
        due("gone on the first day", x.owe(0, 32, -1, 0), 0);
        due("gone a day later", x.owe(1, 32, -1, 0), 11);
        due("gone the next year", x.owe(1, 33, -1, 0), 0);
        x.gone(0, true, 3400);
        x.gone(1, true, 3401);
        due("back on the first day", x.owe(0, 34, -1, 0), 11);
        due("back a day later", x.owe(1, 34, -1, 0), 0);
        x.death(0, 3600);
        x.death(1, 3601);
        due("dead on the first day", x.owe(0, 36, -1, 0), 0);
        due("dead a day later", x.owe(1, 36, -1, 0), 11);
        due("dead the next year", x.owe(1, 37, -1, 0), 0);
        due("in year 0", x.owe(0, 0, -1, 0), 0);
        due("in year 99", x.owe(0, 99, -1, 0), 0);
        due("by 0", x.owe(0, 30, 0, 0), 0);
        due("by 1", x.owe(0, 99, 1, 0), 11);
    }

    private static void duesByTheRuleOfThatDay() {
        WidowsFund x = Funds.couple("due=1");
        Check.act(x, "due=2", 3100);
        Check.act(x, "due=3", 3201);
        due("ahead", x.owe(0, 30, -1, 0), 1);
        due("an act of the first day", x.owe(0, 31, -1, 0), 2);
        due("an act of a day later", x.owe(0, 32, -1, 0), 2);
        due("the next year", x.owe(0, 33, -1, 0), 3);
        x.out(2, 0, 3400);
        x.out(1, 0, 3501);
        due("struck out on the first day", x.owe(0, 34, -1, 0), 2);
        due("struck out a day later", x.owe(0, 35, -1, 0), 2);
        due("the year behind", x.owe(0, 36, -1, 0), 1);
        Check.act(x, "due=100*rate+years", 3700);
        x.rate(0, 2, 3700);
        x.rate(0, 3, 3801);
        due("rate and years of the first day", x.owe(0, 37, -1, 0), 207);
        due("rate of a day later", x.owe(0, 38, -1, 0), 208);
    }

    /** "Tax for each WEDDING of his that isn't his first one (first by DAYS)". */
    private static void taxNotForTheFirst() {
        WidowsFund x = Funds.couple("tax=7");
        due("the first", x.owe(0, 30, -1, 1), 0);
        x.death(2, 3100);
        x.wed(0, 3, 3100);
        due("the second", x.owe(0, 31, -1, 1), 7);
        due("the first still", x.owe(0, 30, -1, 1), 0);
        x.strike(1);
        due("the second is the first then", x.owe(0, 31, -1, 1), 0);
        due("by 4", x.owe(0, 31, 4, 1), 7);
        WidowsFund y = Funds.couple("tax=7");
        y.wed(0, 3, 2999);
        due("told later, but first by days", y.owe(0, 30, -1, 1), 7);
        due("it is not taxed itself", y.owe(0, 29, -1, 1), 0);
        due("by 2", y.owe(0, 30, 2, 1), 0);
        WidowsFund z = Funds.couple("tax=7");
        z.death(2, 3000);
        z.wed(0, 3, 3000);
        due("on one day the one told first is the first", z.owe(0, 30, -1, 1), 7);
        z.death(3, 3000);
        z.person(1, 1000, -1, -1);
        z.wed(0, 4, 3000);
        due("three on one day", z.owe(0, 30, -1, 1), 14);
    }

    /** "In the YEAR": its first and its last DAY. */
    private static void taxInTheYear() {
        WidowsFund x = Funds.couple("tax=wives");
        x.death(2, 3100);
        x.wed(0, 3, 3100);
        x.person(1, 1000, -1, -1);
        x.person(1, 1000, -1, -1);
        x.death(3, 3199);
        x.wed(0, 4, 3199);
        x.death(4, 3200);
        x.wed(0, 5, 3200);
        due("the first and the last day", x.owe(0, 31, -1, 1), 2 + 3);
        due("the day behind", x.owe(0, 32, -1, 1), 4);
        due("the year ahead", x.owe(0, 30, -1, 1), 0);
        due("a year without", x.owe(0, 33, -1, 1), 0);
    }

    /** "If he is a MEMBER on its DAY". */
    private static void taxOfAMember() {
        WidowsFund x = Funds.four();
        Check.act(x, "tax=7", 0);
        x.wed(0, 2, 2000);
        x.death(2, 3000);
        x.wed(0, 3, 3000);
        due("no member", x.owe(0, 30, -1, 1), 0);
        x.member(0, 0, 0, 3001);
        due("a member the day behind", x.owe(0, 30, -1, 1), 0);
        x.member(0, 0, 0, 3000);
        due("a member on its day", x.owe(0, 30, -1, 1), 7);
        x.gone(0, false, 3000);
        due("gone on its day", x.owe(0, 30, -1, 1), 0);
        x.gone(0, true, 3000);
        due("back on its day", x.owe(0, 30, -1, 1), 7);
        x.death(0, 3000);
        due("dead on its day", x.owe(0, 30, -1, 1), 0);
        x.death(1, 2000);
        due("dead, gone and back are no weddings", x.live(0, 9999, -1, 3), 2);
    }

    /** "(By THE RULE of that DAY)". */
    private static void taxByTheRuleOfThatDay() {
        WidowsFund x = Funds.couple("tax=10*rate+wives");
        x.death(2, 3150);
        x.wed(0, 3, 3150);
        x.rate(0, 2, 3151);
        due("rate of that day", x.owe(0, 31, -1, 1), 12);
        x.rate(0, 3, 3150);
        due("rate told on that day", x.owe(0, 31, -1, 1), 32);
        Check.act(x, "tax=5", 3151);
        due("an act a day later", x.owe(0, 31, -1, 1), 32);
        Check.act(x, "tax=6", 3150);
        due("an act of that day", x.owe(0, 31, -1, 1), 6);
    }

    // ---- PAID and ARREARS

    private static void paidInAYear() {
        WidowsFund x = Funds.couple("");
        due("nothing", x.owe(0, 30, -1, 3), 0);
        x.pay(0, 5, 3000);
        x.pay(0, 9999, 3099);
        x.pay(0, 1, 3100);
        due("together", x.owe(0, 30, -1, 3), 10004);
        due("the next year", x.owe(0, 31, -1, 3), 1);
        due("of another man", x.owe(1, 30, -1, 3), 0);
        due("by 3", x.owe(0, 30, 3, 3), 5);
        x.strike(3);
        due("struck", x.owe(0, 30, -1, 3), 5);
        x.death(0, 3000);
        due("of one dead, as told later", x.owe(0, 30, -1, 3), 5);
    }

    /** "Those behind y - 1 (0 ahead of YEAR 0)". */
    private static void arrearsFromYear0On() {
        WidowsFund x = new WidowsFund();
        x.seat(1);
        x.person(0, 0, -1, -1);
        Check.act(x, "due=5;fine=20", 0);
        x.member(0, 0, 0, 0);
        due("year 0", x.owe(0, 0, -1, 2), 6);
        due("year 1", x.owe(0, 1, -1, 2), 13);
        due("year 2", x.owe(0, 2, -1, 2), 21);
        due("of a man by no entries", x.owe(0, 99, 0, 2), 0);
        x.pay(0, 6, 100);
        due("paid in year 1", x.owe(0, 1, -1, 2), 6);
        due("not ahead of it", x.owe(0, 0, -1, 2), 6);
    }

    /** "If that is above 0, it and fine": not at 0, not below it; below 0 it stands to his good. */
    private static void arrearsAboveZero() {
        WidowsFund x = Funds.couple("due=10;fine=100");
        x.pay(0, 10, 3050);
        due("0", x.owe(0, 30, -1, 2), 0);
        x.pay(0, 11, 3150);
        due("-1", x.owe(0, 31, -1, 2), -1);
        x.pay(0, 8, 3250);
        due("1 and its fine", x.owe(0, 32, -1, 2), 2);
        x.pay(0, 9999, 3350);
        due("far below", x.owe(0, 33, -1, 2), 2 + 10 - 9999);
        due("without a fine", x.owe(0, 34, -1, 2), 2 + 20 - 9999);
        due("for 65 years more", x.owe(0, 99, -1, 2), 2 + 670 - 9999);
        WidowsFund y = Funds.couple("tax=4;fine=50");
        y.death(2, 3001);
        y.wed(0, 3, 3001);
        due("of tax alone", y.owe(0, 30, -1, 2), 6);
        due("they grow", y.owe(0, 31, -1, 2), 9);
        due("cut", y.owe(0, 32, -1, 2), 13);
    }

    /** "Fine hundredths of it (cut)". */
    private static void fineIsCut() {
        int[][] cases = {{1, 99, 1}, {1, 100, 2}, {1, 199, 2}, {1, 200, 3}, {99, 1, 99}, {100, 1, 101}, {101, 1, 102}, {7, 15, 8},
            {6, 16, 6}, {25, 4, 26}, {24, 4, 24}, {9999, 9999, 1009799}, {5, 0, 5}};
        for (int[] c : cases) {
            WidowsFund x = Funds.couple("due=" + c[0] + ";fine=" + c[1]);
            due(c[0] + " by " + c[1], x.owe(0, 30, -1, 2), c[2]);
        }
    }

    /** "By THE RULE for him on DAY 100 y and 99". */
    private static void fineOfTheLastDay() {
        WidowsFund x = Funds.couple("due=100");
        due("no fine", x.owe(0, 30, -1, 2), 100);
        Check.act(x, "fine=50", 3100);
        due("an act of the next year", x.owe(0, 30, -1, 2), 100);
        Check.act(x, "fine=10*rate", 3099);
        due("an act of the last day", x.owe(0, 30, -1, 2), 110);
        x.rate(0, 2, 3099);
        due("a rate of the last day", x.owe(0, 30, -1, 2), 120);
        x.rate(0, 3, 3100);
        due("a rate of the next", x.owe(0, 30, -1, 2), 120);
        x.out(2, 0, 3100);
        due("struck out the next day", x.owe(0, 30, -1, 2), 120);
        x.out(2, 0, 3099);
        due("struck out on the last day", x.owe(0, 30, -1, 2), 100);
        WidowsFund y = Funds.couple("due=100;fine=year-29");
        y.death(0, 3001);
        due("of one dead", y.owe(0, 30, -1, 2), 101);
        due("it grows when he is dead", y.owe(0, 31, -1, 2), 103);
    }

    /** "1000000000000 at most". */
    private static void arrearsAtMost() {
        WidowsFund x = Funds.couple("due=9999;fine=9999");
        due("below", x.owe(0, 31, -1, 2), (1009799 + 9999) + (1009799 + 9999) * 9999L / 100);
        due("below, too", x.owe(0, 32, -1, 2) < MOST ? 1 : 0, 1);
        due("at most", x.owe(0, 34, -1, 2), MOST);
        due("no more", x.owe(0, 35, -1, 2), MOST);
        due("for ever", x.owe(0, 99, -1, 2), MOST);
        Check.act(x, "fine=0", 3500);
        due("without a fine, too", x.owe(0, 35, -1, 2), MOST);
        x.gone(0, false, 3601);
        x.pay(0, 9999, 3600);
        due("dues and paid alike", x.owe(0, 36, -1, 2), MOST);
        x.pay(0, 9998, 3600);
        due("paid", x.owe(0, 36, -1, 2), MOST - 9998);
        due("and no dues any more", x.owe(0, 37, -1, 2), MOST - 9998);
        Check.act(x, "fine=1", 3799);
        due("a fine to the most", x.owe(0, 37, -1, 2), MOST);
    }

    // ---- VACANT

    /** "For each SEAT without a MEMBER on DAY 100 y". */
    private static void vacantOnTheFirstDay() {
        WidowsFund x = Funds.four();
        Check.act(x, "vacant=10", 0);
        due("three", x.vacant(30, -1), 30);
        x.member(0, 0, 0, 3000);
        x.member(1, 1, 0, 3101);
        due("one from the first day", x.vacant(30, -1), 20);
        due("the year ahead", x.vacant(29, -1), 30);
        due("one from a day later", x.vacant(31, -1), 20);
        due("two", x.vacant(32, -1), 10);
        x.gone(0, false, 3300);
        x.gone(1, false, 3401);
        due("gone on the first day", x.vacant(33, -1), 20);
        due("gone a day later", x.vacant(34, -1), 20);
        due("both gone", x.vacant(35, -1), 30);
        x.gone(0, true, 3600);
        x.death(0, 3700);
        due("back", x.vacant(36, -1), 20);
        due("dead on the first day", x.vacant(37, -1), 30);
        due("by 0", x.vacant(36, 0), 30);
        due("by 2", x.vacant(36, 2), 10);
        WidowsFund y = Funds.four();
        Check.act(y, "vacant=10", 0);
        y.member(0, 0, 0, 3000);
        y.gone(0, false, 3100);
        y.member(1, 0, 0, 3100);
        y.strike(1);
        due("two members on one seat", y.vacant(32, -1), 20);
        WidowsFund z = new WidowsFund();
        Check.act(z, "vacant=9999", 0);
        due("no seats", z.vacant(0, -1), 0);
        z.seat(10);
        due("ten seats in year 0", z.vacant(0, -1), 99990);
        due("ten seats in year 99", z.vacant(99, 0), 99990);
        z.seat(9);
        due("as many as there are now", z.vacant(0, -1), 89991);
    }

    /** "The RULE's vacant (for no man)", of DAY 100 y. */
    private static void vacantForNoMan() {
        WidowsFund x = Funds.couple("vacant=1+rate+years+old+wives");
        due("no names", x.vacant(40, -1), 2);
        Check.act(x, "vacant=year", 4101);
        due("an act a day later", x.vacant(41, -1), 2);
        Check.act(x, "vacant=100+year", 4100);
        due("an act of the first day", x.vacant(41, -1), 282);
        due("the next year's", x.vacant(42, -1), 84);
    }

    // ---- RENT

    /** "For each DAY of the YEAR on which she is a WIDOW". */
    private static void rentForEachDay() {
        WidowsFund x = Funds.couple("rent=100");
        x.death(0, 3999);
        due("one day", x.rent(2, 39, -1), 1);
        due("a whole year", x.rent(2, 40, -1), 100);
        due("the year ahead", x.rent(2, 38, -1), 0);
        due("year 99", x.rent(2, 99, -1), 100);
        due("year 0", x.rent(2, 0, -1), 0);
        x.death(2, 4100);
        due("dead from the first day on", x.rent(2, 41, -1), 0);
        x.death(2, 4101 - 2);
        due("dead on the last day", x.rent(2, 40, -1), 99);
        WidowsFund y = Funds.couple("rent=100");
        y.death(0, 4000);
        due("from the first day", y.rent(2, 40, -1), 100);
        y.wed(1, 2, 4030);
        due("until she weds", y.rent(2, 40, -1), 30);
        due("wed", y.rent(2, 41, -1), 0);
        due("another woman", y.rent(3, 40, -1), 0);
        y.member(1, 1, 0, 4040);
        y.death(1, 4090);
        due("a widow twice in a year", y.rent(2, 40, -1), 40);
        due("by 3", y.rent(2, 40, 3), 100);
        due("by 2", y.rent(2, 40, 2), 0);
    }

    /** "All together by 100, cut": not day by day. */
    private static void rentIsCutOnce() {
        WidowsFund x = Funds.couple("rent=1");
        x.death(0, 4000);
        due("1 for 100 days", x.rent(2, 40, -1), 1);
        Check.act(x, "begun;rent=2", 4050);
        due("50 days of 1 and 50 of 2", x.rent(2, 40, -1), 1);
        Check.act(x, "begun;rent=3", 4050);
        due("50 days of 1 and 50 of 3", x.rent(2, 40, -1), 2);
        WidowsFund y = Funds.couple("rent=199");
        y.death(0, 4099);
        due("1.99", y.rent(2, 40, -1), 1);
        y.death(0, 4050);
        due("99.5", y.rent(2, 40, -1), 99);
        WidowsFund z = Funds.couple("rent=99");
        z.death(0, 4099);
        due("0.99", z.rent(2, 40, -1), 0);
        WidowsFund w = Funds.couple("rent=9999");
        w.death(0, 4000);
        due("the most", w.rent(2, 40, -1), 9999);
    }

    /** "Goes by THE RULE for rent for the dead man the DAY ahead of his DEATH, by ACTS as they are on the DAY ahead, too". */
    private static void rentOfTheDayAhead() {
        WidowsFund x = Funds.couple("rent=1000+100*year+10*rate+wives");
        x.death(0, 4000);
        due("year and rate of the day ahead", x.widow(2, 4000, -1), 1000 + 3900 + 11);
        x.rate(0, 3, 3999);
        due("a rate of the day ahead", x.widow(2, 4000, -1), 4931);
        Check.act(x, "rent=7", 4000);
        due("an act of the day of death", x.widow(2, 4000, -1), 4931);
        due("for ever", x.widow(2, 9999, -1), 4931);
        Check.act(x, "rent=8", 3999);
        due("an act of the day ahead", x.widow(2, 4000, -1), 8);
        x.out(2, 0, 4000);
        due("struck out on the day of death", x.widow(2, 9999, -1), 8);
        x.out(2, 0, 3999);
        due("struck out the day ahead", x.widow(2, 9999, -1), 4931);
        WidowsFund y = Funds.couple("rent=old-years");
        y.death(0, 4100);
        due("old and years of the day ahead", y.widow(2, 4100, -1), 30 - 10);
        y.death(0, 4101);
        due("a day later", y.widow(2, 4101, -1), 31 - 11);
    }

    /** "From the DAY of a later ACT that has begun; on". */
    private static void rentFromABegunActOn() {
        WidowsFund x = Funds.couple("rent=100");
        x.death(0, 4000);
        Check.act(x, "rent=7", 4500);
        due("a later act without begun;", x.widow(2, 9999, -1), 100);
        Check.act(x, "begun;rent=50", 4600);
        due("the day ahead", x.widow(2, 4599, -1), 100);
        due("its day", x.widow(2, 4600, -1), 50);
        due("for ever", x.widow(2, 9999, -1), 50);
        due("the year of its day", x.rent(2, 46, -1), 50);
        due("the year ahead of it", x.rent(2, 45, -1), 100);
        WidowsFund y = Funds.couple("rent=100");
        y.death(0, 4000);
        Check.act(y, "begun;due=50", 4075);
        due("that has no rent: all as it was", y.rent(2, 40, -1), 100);
        Check.act(y, "rent=20", 4075);
        due("but the other acts of its day count", y.widow(2, 4075, -1), 20);
        due("75 days and 25", y.rent(2, 40, -1), 75 + 5);
        WidowsFund z = Funds.couple("rent=100");
        Check.act(z, "begun;rent=30", 3999);
        z.death(0, 4000);
        due("one of the day ahead is no later one", z.widow(2, 4000, -1), 30);
        Check.act(z, "rent=9", 3999);
        due("it gives way as all acts do", z.widow(2, 4000, -1), 9);
        Check.act(z, "begun;rent=8", 4000);
        due("one of the day of death is later than the day ahead", z.widow(2, 4000, -1), 8);
    }

    /** "By ACTS as they are on the DAY of the latest such one". */
    private static void rentByTheLatestBegunAct() {
        WidowsFund x = Funds.couple("rent=100");
        x.death(0, 4000);
        Check.act(x, "begun;rent=50", 4600);
        Check.act(x, "begun;rent=40", 4300);
        due("the latest, not the last told", x.widow(2, 4600, -1), 50);
        due("the one ahead", x.widow(2, 4599, -1), 40);
        due("and from its day on", x.widow(2, 4300, -1), 40);
        due("ahead of both", x.widow(2, 4299, -1), 100);
        Check.act(x, "rent=60", 4600);
        due("an act of its day", x.widow(2, 4600, -1), 60);
        Check.act(x, "rent=70", 4601);
        due("an act behind it", x.widow(2, 9999, -1), 60);
        Check.act(x, "rent=80", 4599);
        due("an act ahead of it", x.widow(2, 4599, -1), 40);
        due("its own goes ahead of that", x.widow(2, 4600, -1), 60);
        WidowsFund y = Funds.couple("rent=100");
        y.death(0, 4000);
        Check.act(y, "begun;rent=50 if year>50", 4600);
        Check.act(y, "rent=60", 4500);
        due("a clause that does not hold", y.widow(2, 9999, -1), 60);
    }

    /** "CLAUSES STRUCK OUT, too": as they are on the DAY of the latest such one. */
    private static void rentByClausesStruckOut() {
        WidowsFund x = Funds.couple("rent=100;rent=90");
        x.death(0, 4000);
        x.out(0, 1, 4200);
        due("struck out later", x.widow(2, 4200, -1), 90);
        Check.act(x, "begun;due=1", 4199);
        due("an act ahead of that", x.widow(2, 4200, -1), 90);
        Check.act(x, "begun;due=1", 4200);
        due("an act of that day", x.widow(2, 4200, -1), 100);
        due("the day ahead", x.widow(2, 4199, -1), 90);
        due("the year", x.rent(2, 42, -1), 100);
        Check.act(x, "begun;rent=5", 4300);
        x.out(3, 0, 4301);
        due("struck out behind its own day", x.widow(2, 9999, -1), 5);
        x.out(3, 0, 4300);
        due("struck out on its own day", x.widow(2, 9999, -1), 100);
    }

    /** "His NAMES stay as they were, year, too". */
    private static void rentWithNamesAsTheyWere() {
        WidowsFund x = Funds.couple("rent=1");
        x.rate(0, 3, 3500);
        x.death(0, 4000);
        Check.act(x, "begun;rent=old", 5000);
        due("old", x.widow(2, 5000, -1), 29);
        Check.act(x, "begun;rent=year", 5100);
        due("year", x.widow(2, 5100, -1), 39);
        Check.act(x, "begun;rent=years", 5200);
        due("years", x.widow(2, 5200, -1), 9);
        Check.act(x, "begun;rent=10*rate+wives", 5300);
        due("rate and wives", x.widow(2, 5300, -1), 31);
        Check.act(x, "begun;rent=1;rent=2 if year=54;rent=3 if year=39", 5400);
        due("in conditions, too", x.widow(2, 5400, -1), 3);
    }

    /** Promise 26: "the yearly RENT of a woman on a DAY by e (0: no WIDOW)". */
    private static void widowsYearlyRent() {
        WidowsFund x = Funds.couple("rent=77");
        due("no widow", x.widow(2, 9999, -1), 0);
        x.death(0, 4000);
        due("the day ahead", x.widow(2, 3999, -1), 0);
        due("on his death", x.widow(2, 4000, -1), 77);
        due("by 2", x.widow(2, 4000, 2), 0);
        due("by 3", x.widow(2, 4000, 3), 77);
        x.death(2, 4100);
        due("her last day", x.widow(2, 4099, -1), 77);
        due("her death", x.widow(2, 4100, -1), 0);
        due("ahead of her birth", x.widow(2, 0, -1), 0);
        WidowsFund y = Funds.couple("");
        y.death(0, 4000);
        due("a widow without a clause", y.widow(2, 4000, -1), 0);
        due("is one", y.as(2, 4000, -1), 4);
    }

    // ---- SUM

    /** Man 0 on seat 0, rate 1, of 1000, with children 1 (born 3000), 2 (3100) and 3 (3200); no wife. */
    private static WidowsFund father(String acts) {
        WidowsFund x = new WidowsFund();
        x.seat(2);
        x.person(0, 1000, -1, -1);
        for (int i = 0; i < 3; i++) x.person(i % 2, 3000 + 100 * i, 0, -1);
        Check.act(x, acts, 0);
        x.member(0, 0, 1, 3000);
        return x;
    }

    /** "For each man that DIED in the YEAR": on its first or its last DAY. */
    private static void sumInTheYearOfDeath() {
        WidowsFund x = father("sum=99");
        due("none died", x.sum(1, 35, -1), 0);
        x.death(0, 3500);
        due("on the first day", x.sum(1, 35, -1), 33);
        due("the year ahead", x.sum(1, 34, -1), 0);
        due("the year behind", x.sum(1, 36, -1), 0);
        x.death(0, 3499);
        due("on the last day", x.sum(1, 34, -1), 33);
        due("not the year behind", x.sum(1, 35, -1), 0);
        due("the father himself", x.sum(0, 34, -1), 0);
        due("by 1", x.sum(1, 34, 1), 0);
        due("by 2", x.sum(1, 35, 2), 33);
        due("year 99", x.sum(1, 99, -1), 0);
        x.death(0, 9999);
        due("dead men die no more: the last told holds", x.sum(1, 34, -1), 33);
    }

    /** "And was such a one the DAY ahead": a MEMBER, or GONE that keeps. */
    private static void sumOfSuchAOne() {
        WidowsFund x = father("sum=99;keeps=rate-1");
        x.gone(0, false, 3500);
        x.death(0, 3500);
        due("gone on the day of death", x.sum(1, 35, -1), 33);
        x.death(0, 3499);
        due("a member", x.sum(1, 34, -1), 33);
        WidowsFund y = father("sum=99;keeps=rate-1");
        y.gone(0, false, 3499);
        y.death(0, 3500);
        due("gone the day ahead, keeps 0", y.sum(1, 35, -1), 0);
        y.rate(0, 2, 3400);
        due("keeps 1", y.sum(1, 35, -1), 33);
        WidowsFund z = father("sum=99");
        z.strike(0);
        z.death(0, 3500);
        due("no member", z.sum(1, 35, -1), 0);
        z.member(0, 0, 0, 3499);
        due("joined the day ahead", z.sum(1, 35, -1), 33);
    }

    /** "And left no WIDOW on the DAY of his DEATH". */
    private static void sumWithoutAWidow() {
        WidowsFund x = father("sum=99;rent=10");
        x.person(1, 1200, -1, -1);
        x.wed(0, 4, 3300);
        x.death(0, 3500);
        due("a widow", x.sum(1, 35, -1), 0);
        due("chest with a widow", x.chest(35, -1), -10);
        x.death(4, 3501);
        due("a widow on that day", x.sum(1, 35, -1), 0);
        x.death(4, 3500);
        due("dead on that day", x.sum(1, 35, -1), 33);
        due("chest without her", x.chest(35, -1), -99);
        x.strike(4);
        x.strike(3);
        x.person(0, 1000, -1, -1);
        x.wed(5, 4, 3500);
        due("wed to another on that day", x.sum(1, 35, -1), 33);
        due("by 3 she is left", x.sum(1, 35, 3), 0);
        WidowsFund y = father("sum=99");
        y.person(1, 1200, -1, -1);
        y.person(0, 1000, -1, -1);
        y.member(5, 1, 0, 3000);
        y.wed(5, 4, 3000);
        y.death(5, 3400);
        y.death(0, 3500);
        due("another man's widow is none of his", y.sum(1, 35, -1), 33);
    }

    /** "Sum for him the DAY ahead". */
    private static void sumOfTheDayAhead() {
        WidowsFund x = father("sum=30*rate+3*year");
        x.death(0, 3500);
        due("rate and year of the day ahead", x.sum(1, 35, -1), 10 + 34);
        x.rate(0, 2, 3499);
        due("a rate of the day ahead", x.sum(1, 35, -1), 20 + 34);
        Check.act(x, "sum=3", 3500);
        due("an act of the day of death", x.sum(1, 35, -1), 54);
        Check.act(x, "sum=6", 3499);
        due("an act of the day ahead", x.sum(1, 35, -1), 2);
        Check.act(x, "begun;sum=9", 3500);
        due("begun; is for rents alone", x.sum(1, 35, -1), 2);
        x.out(2, 0, 3500);
        due("struck out on the day of death", x.sum(1, 35, -1), 2);
        x.out(2, 0, 3499);
        due("struck out the day ahead", x.sum(1, 35, -1), 54);
    }

    /** "His children that LIVE and are of an AGE below what age comes to (for no man) on the DAY of his DEATH". */
    private static void sumForChildrenBelowAge() {
        WidowsFund x = father("sum=60");
        x.death(0, 4799);
        due("17", x.sum(1, 47, -1), 20);
        x.death(0, 4800);
        due("no death behind death", x.sum(1, 48, -1), 0);
        WidowsFund z = father("sum=60");
        z.death(0, 5050);
        due("20", z.sum(1, 50, -1), 0);
        due("19", z.sum(2, 50, -1), 0);
        due("18 and a half", z.sum(3, 50, -1), 0);
        due("to nobody", z.chest(50, -1), 0);
        WidowsFund y = father("sum=60");
        y.death(0, 4800);
        due("18", y.sum(1, 48, -1), 0);
        due("the others", y.sum(2, 48, -1) + y.sum(3, 48, -1), 60);
        Check.act(y, "age=18+rate+old+wives+years", 4800);
        due("for no man", y.sum(1, 48, -1), 0);
        Check.act(y, "age=19", 4801);
        due("an act a day later", y.sum(1, 48, -1), 0);
        Check.act(y, "age=19", 4800);
        due("an act of that day", y.sum(1, 48, -1), 20);
        y.death(2, 4801);
        due("who dies a day later lives", y.sum(2, 48, -1), 20);
        y.death(2, 4800);
        due("who dies on that day does not", y.sum(2, 48, -1), 0);
        due("the others get more", y.sum(3, 48, -1), 30);
        y.person(1, 4801, 0, -1);
        due("born a day later", y.sum(4, 48, -1), 0);
        y.person(1, 4800, 0, -1);
        due("born on that day", y.sum(5, 48, -1), 20);
        due("by 2 the dead one lives", y.sum(2, 48, 2), 15);
        y.person(0, 4700, -1, -1);
        due("no child of his", y.sum(6, 48, -1), 0);
    }

    /** "As equal as can be, the first ones (by numbers) one more". */
    private static void sumAsEqualAsCanBe() {
        int[][] cases = {{0, 0, 0, 0}, {1, 1, 0, 0}, {2, 1, 1, 0}, {3, 1, 1, 1}, {4, 2, 1, 1}, {100, 34, 33, 33}, {101, 34, 34, 33},
            {9999, 3333, 3333, 3333}, {9998, 3333, 3333, 3332}};
        for (int[] c : cases) {
            WidowsFund x = father("sum=" + c[0]);
            x.death(0, 3500);
            for (int child = 1; child < 4; child++) due(c[0] + " for " + child, x.sum(child, 35, -1), c[child]);
            due("the chest of " + c[0], x.chest(35, -1), -c[0]);
        }
        WidowsFund y = father("sum=100");
        y.person(0, 2999, 0, -1);
        y.death(0, 3500);
        due("by numbers, not by births", y.sum(4, 35, -1), 25);
        y.death(1, 3400);
        due("the first of those that are left", y.sum(2, 35, -1), 34);
        due("the last one, though the eldest", y.sum(4, 35, -1), 33);
        y.death(2, 3400);
        y.death(3, 3400);
        due("all for one", y.sum(4, 35, -1), 100);
    }

    /** "To nobody if there is none." */
    private static void sumToNobody() {
        WidowsFund x = father("sum=100");
        for (int child = 1; child < 4; child++) x.death(child, 3400);
        x.death(0, 3500);
        for (int p = 0; p < 4; p++) due("none for " + p, x.sum(p, 35, -1), 0);
        due("the chest keeps it", x.chest(35, -1), 0);
        x.strike(2);
        due("one", x.sum(2, 35, -1), 100);
        due("the chest pays", x.chest(35, -1), -100);
    }

    /** "For each man that DIED": each one's sum to his own children, whatever their numbers. */
    private static void sumsOfSeveralFathers() {
        WidowsFund x = new WidowsFund();
        x.seat(3);
        for (int man = 0; man < 3; man++) x.person(0, 1000, -1, -1);
        int[] fathers = {2, 1, 0, 1, 2, 1};
        for (int father : fathers) x.person(father % 2, 3000, father, -1);
        Check.act(x, "sum=10+30*rate", 0);
        for (int man = 0; man < 3; man++) x.member(man, man, man + 1, 3100);
        x.death(1, 3200);
        int[] ofThe1 = {0, 24, 0, 23, 0, 23};
        for (int c = 0; c < 6; c++) due("of 1 for " + (3 + c), x.sum(3 + c, 32, -1), ofThe1[c]);
        x.death(0, 3250);
        x.death(2, 3250);
        int[] ofAll = {50, 24, 40, 23, 50, 23};
        for (int c = 0; c < 6; c++) due("of all for " + (3 + c), x.sum(3 + c, 32, -1), ofAll[c]);
        due("the chest", x.chest(32, -1), -40 - 70 - 100);
        for (int man = 0; man < 3; man++) due("a father gets none", x.sum(man, 32, -1), 0);
    }

    // ---- CHEST

    /** "What it began with (told, 0 .. 99999; 0 at first)". */
    private static void whatTheChestBeganWith() {
        WidowsFund x = new WidowsFund();
        due("0 at first", x.begin(99999), 0);
        due("the most", x.chest(0, -1), 99999);
        due("above", x.begin(100000), BAD);
        due("below", x.begin(-1), BAD);
        due("it stays", x.begin(1), 99999);
        due("behind 99", x.chest(99, -1), 1);
        due("what it was", x.begin(0), 1);
        due("nothing again", x.chest(0, 0), 0);
    }

    /** "For YEARS 0 .. y all that was PAID, VACANT and from LOANS, less RENTS, SUMS and LOANS given." */
    private static void chestOfAllYears() {
        WidowsFund x = new WidowsFund();
        x.seat(2);
        x.person(0, 0, -1, -1);
        x.person(1, 0, -1, -1);
        x.person(0, 100, 0, 1);
        Check.act(x, "vacant=1;rent=200;sum=50;due=7;tax=9", 0);
        due("year 0 counts", x.chest(0, -1), 2);
        due("all years to 99", x.chest(99, -1), 200);
        x.member(0, 0, 0, 200);
        x.wed(0, 1, 200);
        x.pay(0, 40, 299);
        due("dues are not what was paid", x.chest(2, -1), 4 + 1 + 40);
        due("paid in 2 is not in 1", x.chest(1, -1), 4);
        x.death(0, 350);
        due("50 days of rent", x.chest(3, -1), 45 + 1 - 100);
        x.death(1, 350);
        due("a sum", x.chest(3, -1), 45 + 1 - 50);
        due("the year behind", x.chest(4, -1), -4 + 2);
        x.loan(100, 4, 2, 10);
        due("a loan is given", x.chest(4, -1), -2 - 100);
        due("it pays", x.chest(5, -1), -102 + 2 + 10);
        due("it pays all back", x.chest(6, -1), -90 + 2 + 110);
        due("and no more", x.chest(7, -1), 22 + 2);
        due("behind 99", x.chest(99, -1), 22 + 2 * 93);
        x.begin(1000);
        due("and what it began with", x.chest(7, -1), 1024);
    }

    /** Loans and acts go by no ENTRIES, all else does. */
    private static void chestByE() {
        WidowsFund x = Funds.couple("vacant=1;rent=100");
        x.begin(500);
        x.loan(50, 10, 1, 0);
        x.pay(0, 30, 3000);
        x.death(0, 3100);
        int[] behind32 = {500 + 33 * 3, 500 + 30 * 3 + 3 * 2, 596, 596 + 30, 500 + 90 + 2 + 6 + 30 - 200};
        for (int e = 0; e < 5; e++) due("by " + e, x.chest(32, e), behind32[e]);
        due("by all", x.chest(32, -1), behind32[4]);
        due("behind 10 by 0", x.chest(10, 0), 500 + 33 - 50);
    }

    // ---- LOANS

    /** "LOANS are numbered from 0 on, 12 at most". */
    private static void loansFrom0To11() {
        WidowsFund x = new WidowsFund();
        for (int i = 0; i < 12; i++) due("loan " + i, x.loan(1 + i, i, 1, 0), i);
        due("a thirteenth", x.loan(1, 0, 1, 0), FULL);
        due("twelve", x.count(4), 12);
        for (int i = 0; i < 12; i++) due("given " + i, x.due(i, i), -1 - i);
        due("no 12", x.due(12, 0), NO);
        due("bad 11", x.bad(11, 5), 1);
        due("bad 12", x.bad(12, 5), NONE);
        due("the chest", x.chest(99, -1), -12);
        WidowsFund y = new WidowsFund();
        due("the least of all", y.loan(1, 0, 1, 0), 0);
        due("the most of all", y.loan(9999, 99, 30, 20), 1);
        due("0 coins", y.loan(0, 0, 1, 0), BAD);
        due("year 100", y.loan(1, 100, 1, 0), BAD);
        due("for 0 years", y.loan(1, 0, 0, 0), BAD);
        due("at -1", y.loan(1, 0, 1, -1), BAD);
        due("refused ones take no number", y.loan(1, 0, 30, 0), 2);
    }

    /** "Given in that YEAR; in each of the n YEARS behind it pays, in the last one of these all back, too". */
    private static void loanYearByYear() {
        WidowsFund x = new WidowsFund();
        x.loan(200, 10, 3, 5);
        int[] comes = {0, 0, -200, 10, 10, 210, 0, 0};
        for (int i = 0; i < 8; i++) due("due in " + (8 + i), x.due(0, 8 + i), comes[i]);
        due("in 0", x.due(0, 0), 0);
        due("in 99", x.due(0, 99), 0);
        WidowsFund y = new WidowsFund();
        y.loan(200, 0, 1, 5);
        due("given in 0", y.due(0, 0), -200);
        due("for one year", y.due(0, 1), 210);
        due("behind it", y.due(0, 2), 0);
        WidowsFund z = new WidowsFund();
        z.loan(200, 60, 30, 5);
        due("29 years behind", z.due(0, 89), 10);
        due("30 years behind", z.due(0, 90), 210);
        due("31 years behind", z.due(0, 91), 0);
    }

    /** "Pays hundredths of it (cut)", 0 .. 20. */
    private static void loanAtHundredths() {
        int[][] cases = {{1, 20, 0}, {4, 20, 0}, {5, 20, 1}, {9, 20, 1}, {100, 1, 1}, {99, 1, 0}, {9999, 20, 1999}, {9999, 0, 0},
            {9999, 1, 99}, {119, 10, 11}};
        for (int[] c : cases) {
            WidowsFund x = new WidowsFund();
            x.loan(c[0], 5, 2, c[1]);
            due(c[0] + " at " + c[1], x.due(0, 6), c[2]);
            due(c[0] + " at " + c[1] + " in the last year", x.due(0, 7), c[2] + c[0]);
        }
    }

    /** "BAD from a YEAR on: nothing comes any more." */
    private static void badFromAYearOn() {
        WidowsFund x = new WidowsFund();
        x.loan(200, 10, 4, 5);
        due("bad", x.bad(0, 12), 1);
        due("the year ahead", x.due(0, 11), 10);
        due("from it on", x.due(0, 12), 0);
        due("behind it", x.due(0, 13), 0);
        due("nor all back", x.due(0, 14), 0);
        due("it was given", x.due(0, 10), -200);
        due("the chest", x.chest(99, -1), -190);
        WidowsFund y = new WidowsFund();
        y.loan(200, 10, 4, 5);
        due("in its last year", y.bad(0, 14), 1);
        due("nothing back", y.due(0, 14), 0);
        due("all ahead of that", y.due(0, 13), 10);
        WidowsFund z = new WidowsFund();
        z.loan(200, 10, 4, 5);
        z.loan(200, 10, 4, 5);
        due("behind its last year", z.bad(0, 15), 1);
        due("all came back", z.due(0, 14), 210);
        due("the other one is not bad", z.due(1, 14), 210);
        due("bad in 0", z.bad(1, 0), 1);
        due("nothing of that", z.due(1, 14), 0);
    }

    /** "1 if it never was (the least counts), else 0." */
    private static void badYearsTheLeastCounts() {
        WidowsFund x = new WidowsFund();
        x.loan(200, 10, 9, 5);
        due("first", x.bad(0, 15), 1);
        due("later", x.bad(0, 16), 0);
        due("the least counts", x.due(0, 15), 0);
        due("like", x.bad(0, 15), 0);
        due("the year ahead", x.due(0, 14), 10);
        due("less", x.bad(0, 14), 0);
        due("the least", x.due(0, 14), 0);
        due("the year ahead of that", x.due(0, 13), 10);
        due("refused", x.bad(0, -1), BAD);
        due("refused, too", x.bad(0, 100), BAD);
        due("the least still", x.due(0, 13), 10);
        WidowsFund y = new WidowsFund();
        y.loan(200, 10, 9, 5);
        due("on 99", y.bad(0, 99), 1);
        due("on 99 again", y.bad(0, 99), 0);
        due("all came back", y.due(0, 19), 210);
        y.loan(300, 98, 9, 5);
        due("refused is never", y.bad(1, 100), BAD);
        due("so it never was", y.bad(1, 99), 1);
        due("nothing on 99", y.due(1, 99), 0);
    }

    /** A LOAN may end behind the last YEAR: then it never comes back. */
    private static void loansBeyondTheYears() {
        WidowsFund x = new WidowsFund();
        x.loan(200, 99, 1, 5);
        x.loan(200, 98, 2, 5);
        x.loan(200, 98, 1, 5);
        due("given in 99", x.due(0, 99), -200);
        due("no year 100", x.due(0, 100), NO);
        due("pays in 99", x.due(1, 99), 10);
        due("back in 99", x.due(2, 99), 210);
        due("the chest", x.chest(99, -1), -200 - 190 + 10);
    }
}
