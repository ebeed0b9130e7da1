/**
 * Term 8, for every promise: the least and the greatest number that a call takes, the first that it refuses on either side, of
 * several refusals the first one told, and that a refused call changes nothing: behind it the object shows the same picture as one
 * that was never asked.
 */
public final class RefusalsTest {
    private static final int NONE = WidowsFund.NONE, BAD = WidowsFund.BAD, STATE = WidowsFund.STATE, FULL = WidowsFund.FULL;
    private static final long NO = WidowsFund.NO;
    private static final long[] SOME = Funds.pictureOfSome(Funds.some());
    private static final long[] ALL = Funds.pictureOfFull(Funds.full());

    private interface Call {
        long on(WidowsFund x);
    }

    private interface CallOf {
        long on(WidowsFund x, int n);
    }

    public static void main(String[] args) {
        fixtures();
        rangesOfThePersons();
        rangesOfTheBook();
        rangesOfLives();
        rangesOfActs();
        rangesOfRules();
        rangesOfCoins();
        rangesOfLoans();
        rangesOfTables();
        rangesOfTrials();
        rangesOfTheToldYear();
        noneAheadOfBad();
        noneAheadOfBadElsewhere();
        noneAndBadAheadOfState();
        state();
        stateAheadOfFull();
        badAheadOfFull();
        noneAheadOfFull();
        full();
        queriesChangeNothing();
        Check.end("RefusalsTest");
    }

    private static void due(String call, long got, long want) {
        Check.due(call, got, want);
    }

    private static void same(String call, long[] got, long[] want) {
        Check.due(call + ": as many answers", got.length, want.length);
        for (int i = 0; i < want.length && i < got.length; i++) {
            if (got[i] != want[i]) due(call + " changed something: answer " + i, got[i], want[i]);
        }
    }

    private static void refused(String call, long want, Call c) {
        WidowsFund x = Funds.some();
        due(call, c.on(x), want);
        same(call, Funds.pictureOfSome(x), SOME);
    }

    private static void refusedFull(String call, long want, Call c) {
        WidowsFund x = Funds.full();
        due("full: " + call, c.on(x), want);
        same("full: " + call, Funds.pictureOfFull(x), ALL);
    }

    /** A number that is taken from least to greatest: all others are refused and change nothing. */
    private static void range(String call, int least, int greatest, long refusal, CallOf c) {
        due(call + " takes " + least, c.on(Funds.some(), least) == refusal ? 0 : 1, 1);
        due(call + " takes " + greatest, c.on(Funds.some(), greatest) == refusal ? 0 : 1, 1);
        int[] others = {least - 1, greatest + 1, Integer.MIN_VALUE, Integer.MAX_VALUE, greatest + 256, least - 256};
        for (int n : others) refused(call + " of " + n, refusal, x -> c.on(x, n));
    }

    /** The tests' own ground: what some() and full() tell is taken, and both hold what they say. */
    private static void fixtures() {
        int[] some = {10, 14, 2, 4, 2, 2, 2, 8, 6};
        int[] all = {24, 200, 8, 10, 12, 4, 4, 200, 4};
        for (int what = 0; what < 9; what++) {
            due("some count(" + what + ")", Funds.some().count(what), some[what]);
            due("full count(" + what + ")", Funds.full().count(what), all[what]);
        }
        due("full row 3", Funds.full().rows(3, 0, 0), FULL);
        due("full row 2", Funds.full().rows(2, 0, 0), 1);
    }

    // ---- the least and the greatest, promise by promise

    private static void rangesOfThePersons() {
        range("2 seat, many", 0, 10, BAD, (x, n) -> x.seat(n));
        range("3 person, sex", 0, 1, BAD, (x, n) -> x.person(n, 5000, -1, -1));
        range("3 person, birth", 0, 9999, BAD, (x, n) -> x.person(0, n, -1, -1));
        range("3 person, father", -1, 0, NONE, (x, n) -> x.person(0, 9000, n < 1 ? n : n + 9, -1));
        range("3 person, mother", -1, 0, NONE, (x, n) -> x.person(0, 9000, -1, n < 0 ? n : n > 0 ? n + 9 : 1));
        range("4 birth, person", 0, 9, NONE, (x, n) -> x.birth(n, 0));
        range("4 birth, what", 0, 3, NONE, (x, n) -> x.birth(7, n));
    }

    private static void rangesOfTheBook() {
        range("5 wed, man", 0, 9, NONE, (x, n) -> x.wed(n, 2, 3650));
        range("5 wed, woman", 0, 9, NONE, (x, n) -> x.wed(9, n, 3650));
        range("5 wed, day", 0, 9999, BAD, (x, n) -> x.wed(9, 4, n));
        range("6 death, person", 0, 9, NONE, (x, n) -> x.death(n, 3400));
        range("6 death, day", 0, 9999, BAD, (x, n) -> x.death(0, n));
        range("7 member, man", 0, 9, NONE, (x, n) -> x.member(n, 3, 0, 3400));
        range("7 member, seat", 0, 3, NONE, (x, n) -> x.member(9, n, 0, 3900));
        range("7 member, rate", 0, 3, BAD, (x, n) -> x.member(9, 3, n, 3900));
        range("7 member, day", 0, 9999, BAD, (x, n) -> x.member(9, 3, 0, n));
        range("8 rate, man", 0, 9, NONE, (x, n) -> x.rate(n, 0, 3400));
        range("8 rate, rate", 0, 3, BAD, (x, n) -> x.rate(0, n, 3400));
        range("8 rate, day", 0, 9999, BAD, (x, n) -> x.rate(0, 0, n));
        range("9 gone, man", 0, 9, NONE, (x, n) -> x.gone(n, false, 3400));
        range("9 gone, day", 0, 9999, BAD, (x, n) -> x.gone(0, false, n));
        range("9 back, man", 0, 9, NONE, (x, n) -> x.gone(n, true, 3800));
        range("9 back, day", 0, 9999, BAD, (x, n) -> x.gone(3, true, n));
        range("10 pay, man", 0, 9, NONE, (x, n) -> x.pay(n, 5, 3400));
        range("10 pay, coins", 1, 9999, BAD, (x, n) -> x.pay(0, n, 3400));
        range("10 pay, day", 0, 9999, BAD, (x, n) -> x.pay(0, 5, n));
        range("11 strike, entry", 0, 13, NONE, (x, n) -> x.strike(n));
    }

    private static void rangesOfLives() {
        range("12 known, entry", 0, 13, NONE, (x, n) -> x.known(n, 0));
        range("12 known, what", 0, 4, NONE, (x, n) -> x.known(0, n));
        range("13 as, person", 0, 9, NONE, (x, n) -> x.as(n, 3400, -1));
        range("13 as, day", 0, 9999, BAD, (x, n) -> x.as(0, n, -1));
        range("13 as, e", -1, 14, NONE, (x, n) -> x.as(0, 3400, n));
        range("14 live, person", 0, 9, NONE, (x, n) -> x.live(n, 3400, -1, 5));
        range("14 live, day", 0, 9999, BAD, (x, n) -> x.live(0, n, -1, 5));
        range("14 live, e", -1, 14, NONE, (x, n) -> x.live(0, 3400, n, 5));
        range("14 live, what", 0, 5, NONE, (x, n) -> x.live(0, 3650, -1, n));
        range("15 part, person", 0, 9, NONE, (x, n) -> x.part(n, 0, 3400, -1));
        range("15 part, k", 0, 6, NONE, (x, n) -> x.part(0, n, 3400, -1));
        range("15 part, day", 0, 9999, BAD, (x, n) -> x.part(0, 0, n, -1));
        range("15 part, e", -1, 14, NONE, (x, n) -> x.part(0, 0, 3400, n));
    }

    private static void rangesOfActs() {
        range("16 feed, n", 1, 8, BAD, (x, n) -> x.feed(0x3131313131313131L, n));
        range("17 text, day", 0, 9999, BAD, (x, n) -> x.text(n));
        range("18 force, act", 0, 1, NONE, (x, n) -> x.force(n, 0));
        range("18 force, what 0 .. 2", 0, 2, NONE, (x, n) -> x.force(0, n));
        range("18 force, what 10 ..", 10, 16, NONE, (x, n) -> x.force(0, n));
        for (int what = 3; what < 10; what++) {
            int w = what;
            refused("18 force, what " + w, NONE, x -> x.force(0, w));
        }
        range("18 force, what of act 1", 10, 12, NONE, (x, n) -> x.force(1, n));
        range("19 out, act", 0, 1, NONE, (x, n) -> x.out(n, 0, 5000));
        range("19 out, clause", 0, 6, NONE, (x, n) -> x.out(0, n, 5000));
        range("19 out, clause of act 1", 0, 2, NONE, (x, n) -> x.out(1, n, 5000));
        range("19 out, day", 0, 9999, BAD, (x, n) -> x.out(0, 0, n));
    }

    private static long law(int call, WidowsFund x, int subject, int man, int day, int e) {
        if (call == 20) return x.rule(subject, man, day, e);
        return call == 21 ? x.why(subject, man, day, e) : x.quarrel(subject, man, day, e);
    }

    private static void rangesOfRules() {
        for (int call = 20; call <= 22; call++) {
            int c = call;
            range(c + " rule, subject", 0, 8, NONE, (x, n) -> law(c, x, n, 0, 3400, -1));
            range(c + " rule, man", -1, 0, NONE, (x, n) -> law(c, x, 0, n < 1 ? n : n + 9, 3400, -1));
            range(c + " rule, day", 0, 9999, BAD, (x, n) -> law(c, x, 0, 0, n, -1));
            range(c + " rule, day of none", 0, 9999, BAD, (x, n) -> law(c, x, 0, -1, n, -1));
            range(c + " rule, e", -1, 14, NONE, (x, n) -> law(c, x, 0, 0, 3400, n));
            refused(c + " rule of a woman", NONE, x -> law(c, x, 0, 1, 3400, -1));
            refused(c + " rule of a child", NONE, x -> law(c, x, 0, 7, 3400, -1));
        }
    }

    private static void rangesOfCoins() {
        for (int what = 0; what < 4; what++) {
            int w = what;
            range("23 owe " + w + ", man", 0, 0, NO, (x, n) -> x.owe(n > 0 ? n + 9 : n, 34, -1, w));
            range("23 owe " + w + ", year", 0, 99, NO, (x, n) -> x.owe(0, n, -1, w));
            range("23 owe " + w + ", e", -1, 14, NO, (x, n) -> x.owe(0, 34, n, w));
            refused("23 owe of a woman", NO, x -> x.owe(1, 34, -1, w));
        }
        range("23 owe, what", 0, 3, NO, (x, n) -> x.owe(0, 34, -1, n));
        range("24 vacant, year", 0, 99, NO, (x, n) -> x.vacant(n, -1));
        range("24 vacant, e", -1, 14, NO, (x, n) -> x.vacant(34, n));
        range("25 rent, woman", 1, 2, NO, (x, n) -> x.rent(n > 2 ? n + 7 : n, 39, -1));
        range("25 rent, year", 0, 99, NO, (x, n) -> x.rent(6, n, -1));
        range("25 rent, e", -1, 14, NO, (x, n) -> x.rent(6, 39, n));
        refused("25 rent of a man", NO, x -> x.rent(0, 39, -1));
        range("26 widow, woman", 1, 2, NO, (x, n) -> x.widow(n > 2 ? n + 7 : n, 3900, -1));
        range("26 widow, day", 0, 9999, NO, (x, n) -> x.widow(6, n, -1));
        range("26 widow, e", -1, 14, NO, (x, n) -> x.widow(6, 3900, n));
        refused("26 widow of a man", NO, x -> x.widow(0, 3900, -1));
        range("27 sum, person", 0, 9, NO, (x, n) -> x.sum(n, 38, -1));
        range("27 sum, year", 0, 99, NO, (x, n) -> x.sum(8, n, -1));
        range("27 sum, e", -1, 14, NO, (x, n) -> x.sum(8, 38, n));
        range("28 begin, coins", 0, 99999, BAD, (x, n) -> x.begin(n));
        range("29 chest, year", 0, 99, NO, (x, n) -> x.chest(n, -1));
        range("29 chest, e", -1, 14, NO, (x, n) -> x.chest(38, n));
    }

    private static void rangesOfLoans() {
        range("30 loan, coins", 1, 9999, BAD, (x, n) -> x.loan(n, 5, 5, 5));
        range("30 loan, year", 0, 99, BAD, (x, n) -> x.loan(5, n, 5, 5));
        range("30 loan, n", 1, 30, BAD, (x, n) -> x.loan(5, 5, n, 5));
        range("30 loan, hundredths", 0, 20, BAD, (x, n) -> x.loan(5, 5, 5, n));
        range("31 bad, loan", 0, 1, NONE, (x, n) -> x.bad(n, 5));
        range("31 bad, year", 0, 99, BAD, (x, n) -> x.bad(0, n));
        range("32 due, loan", 0, 1, NO, (x, n) -> x.due(n, 33));
        range("32 due, year", 0, 99, NO, (x, n) -> x.due(0, n));
    }

    private static void rangesOfTables() {
        range("33 table, age", 0, 98, NONE, (x, n) -> x.table(n, 5));
        range("33 table, n", 0, 1000, BAD, (x, n) -> x.table(40, n));
        range("34 own, age", 0, 99, NONE, (x, n) -> x.own(n, 5000, -1, 0));
        range("34 own, day", 0, 9999, BAD, (x, n) -> x.own(40, n, -1, 1));
        range("34 own, e", -1, 14, NONE, (x, n) -> x.own(40, 5000, n, 1));
        range("34 own, what", 0, 1, NONE, (x, n) -> x.own(40, 5000, -1, n));
        range("35 alive, age", 0, 99, NONE, (x, n) -> x.alive(n, 5));
        range("35 alive, n", 0, 100, BAD, (x, n) -> x.alive(0, n));
        range("36 expect, age", 0, 99, NONE, (x, n) -> x.expect(n));
        range("37 interest, n", 0, 20, BAD, (x, n) -> x.interest(n));
        range("38 worth, coins", 0, 9999, NO, (x, n) -> x.worth(n, 40));
        range("38 worth, age", 0, 99, NO, (x, n) -> x.worth(40, n));
        range("39 value, year", 0, 99, NO, (x, n) -> x.value(n, -1));
        range("39 value, e", -1, 14, NO, (x, n) -> x.value(39, n));
    }

    private static void rangesOfTrials() {
        range("41 rows, row", 0, 1, NONE, (x, n) -> x.rows(n, 0, 5));
        range("41 rows, person", 0, 9, NONE, (x, n) -> x.rows(0, n, 5));
        range("41 rows, year", 0, 99, BAD, (x, n) -> x.rows(0, 0, n));
        range("42 shortBy, row", -1, 1, NONE, (x, n) -> x.shortBy(n, 40, 5));
        range("42 shortBy, year", 0, 99, BAD, (x, n) -> x.shortBy(0, n, 5));
        range("42 shortBy, n", 1, 20, BAD, (x, n) -> x.shortBy(0, 40, n));
        range("43 step, subject 0 and 1", 0, 1, NONE, (x, n) -> x.step(n, 5));
        range("43 step, subject 3", 3, 3, NONE, (x, n) -> x.step(n, 5));
        for (int subject = 4; subject < 9; subject++) {
            int s = subject;
            refused("43 step, subject " + s, NONE, x -> x.step(s, 5));
        }
        range("43 step, hundredths", 0, 300, BAD, (x, n) -> x.step(0, n));
        range("44 plan, year", 0, 99, BAD, (x, n) -> x.plan(n, 5, 0));
        range("44 plan, n", 1, 20, BAD, (x, n) -> x.plan(40, n, 0));
        range("44 plan, what", 0, 1, NONE, (x, n) -> x.plan(40, 5, n));
        range("45 tried, day", 0, 9999, NO, (x, n) -> x.tried(n, 40));
        range("45 tried, year", 0, 99, NO, (x, n) -> x.tried(40, n));
    }

    private static void rangesOfTheToldYear() {
        range("46 told, person", -1, 9, NO, (x, n) -> x.told(n, 0, 5));
        range("46 told, what", 0, 2, NO, (x, n) -> x.told(0, n, 5));
        range("46 told, what of the chest", 0, 0, NO, (x, n) -> x.told(-1, n, 5));
        range("46 told, coins", -999999, 999999, NO + 1, (x, n) -> x.told(0, 0, n));
        range("46 told, coins of the chest", -999999, 999999, NO + 1, (x, n) -> x.told(-1, 0, n));
        refused("46 told, the greatest long", NO + 1, x -> x.told(0, 0, Long.MAX_VALUE));
        refused("46 told, the least long", NO + 1, x -> x.told(0, 0, Long.MIN_VALUE));
        refused("46 told, 0 in its low half", NO + 1, x -> x.told(-1, 0, 1L << 32));
        range("47 check, year", 0, 99, BAD, (x, n) -> x.check(n, -1));
        range("47 check, e", -1, 14, NONE, (x, n) -> x.check(34, n));
        range("48 judge, year", 0, 99, BAD, (x, n) -> x.judge(n, -1));
        range("48 judge, e", -1, 14, NONE, (x, n) -> x.judge(34, n));
        range("49 count, what", 0, 8, NONE, (x, n) -> x.count(n));
    }

    // ---- of several refusals the first one told

    private static void noneAheadOfBad() {
        refused("3 father, sex, birth", NONE, x -> x.person(2, -1, 10, -1));
        refused("3 mother, sex, birth", NONE, x -> x.person(2, -1, -1, 10));
        refused("3 father is a woman, day", NONE, x -> x.person(0, -1, 1, -1));
        refused("3 mother is a man, day", NONE, x -> x.person(0, -1, -1, 0));
        refused("3 he is not there yet: his own father", NONE, x -> x.person(0, 9000, 10, -1));
        refused("3 no father, born with the mother", NONE, x -> x.person(0, 1050, 10, 1));
        refused("3 born with the father, no mother", NONE, x -> x.person(0, 1000, 0, 10));
        refused("4 no person, no what", NONE, x -> x.birth(10, 4));
        refused("5 man, day", NONE, x -> x.wed(10, 2, -1));
        refused("5 woman, day", NONE, x -> x.wed(0, 10, -1));
        refused("5 no man, no such woman", NONE, x -> x.wed(1, 10, 3400));
        refused("5 no such man, no woman", NONE, x -> x.wed(10, 0, 3400));
        refused("6 person, day", NONE, x -> x.death(10, -1));
        refused("7 man, rate, day", NONE, x -> x.member(10, 0, 4, -1));
        refused("7 seat, rate, day", NONE, x -> x.member(9, 4, 4, -1));
        refused("7 seat, a woman", NONE, x -> x.member(1, 4, 0, 3400));
        refused("8 man, rate, day", NONE, x -> x.rate(10, 4, -1));
        refused("9 man, day", NONE, x -> x.gone(10, false, -1));
        refused("9 man, day, back", NONE, x -> x.gone(10, true, -1));
        refused("10 man, coins, day", NONE, x -> x.pay(10, 0, -1));
        refused("13 person, day", NONE, x -> x.as(10, -1, -1));
        refused("13 e, day", NONE, x -> x.as(0, -1, 15));
        refused("14 person, day", NONE, x -> x.live(10, -1, -1, 5));
        refused("14 e, day", NONE, x -> x.live(0, -1, 15, 5));
        refused("14 what, day", NONE, x -> x.live(0, -1, -1, 6));
        refused("15 person, day", NONE, x -> x.part(10, 0, -1, -1));
        refused("15 k, day", NONE, x -> x.part(0, 7, -1, -1));
        refused("15 e, day", NONE, x -> x.part(0, 0, -1, 15));
    }

    private static void noneAheadOfBadElsewhere() {
        refused("19 act, day", NONE, x -> x.out(2, 0, -1));
        refused("19 clause, day", NONE, x -> x.out(0, 7, -1));
        for (int call = 20; call <= 22; call++) {
            int c = call;
            refused(c + " subject, day", NONE, x -> law(c, x, 9, 0, -1, -1));
            refused(c + " man, day", NONE, x -> law(c, x, 0, 10, -1, -1));
            refused(c + " a woman, day", NONE, x -> law(c, x, 0, 1, -1, -1));
            refused(c + " e, day", NONE, x -> law(c, x, 0, 0, -1, 15));
        }
        refused("31 loan, year", NONE, x -> x.bad(2, -1));
        refused("33 age, n", NONE, x -> x.table(99, -1));
        refused("34 age, day", NONE, x -> x.own(100, -1, -1, 0));
        refused("34 e, day", NONE, x -> x.own(0, -1, 15, 0));
        refused("34 what, day", NONE, x -> x.own(0, -1, -1, 2));
        refused("35 age, n", NONE, x -> x.alive(100, -1));
        refused("41 row, year", NONE, x -> x.rows(2, 0, -1));
        refused("41 person, year", NONE, x -> x.rows(0, 10, -1));
        refused("42 row, year, n", NONE, x -> x.shortBy(2, -1, 0));
        refused("43 subject, hundredths", NONE, x -> x.step(2, -1));
        refused("44 what, year, n", NONE, x -> x.plan(-1, 0, 2));
        refused("46 person, coins", NO, x -> x.told(10, 0, 1000000));
        refused("46 what, coins", NO, x -> x.told(0, 3, 1000000));
        refused("46 the chest's what, coins", NO, x -> x.told(-1, 1, 1000000));
        refused("46 the chest's what", NO, x -> x.told(-1, 2, 5));
        refused("47 e, year", NONE, x -> x.check(-1, 15));
        refused("48 e, year", NONE, x -> x.judge(-1, 15));
    }

    private static void noneAndBadAheadOfState() {
        refused("2 many, a JOINED was told", BAD, x -> x.seat(11));
        refused("2 many below, a JOINED was told", BAD, x -> x.seat(-1));
        refused("5 woman, wed", NONE, x -> x.wed(0, 10, 3650));
        refused("5 day, wed", BAD, x -> x.wed(0, 2, 10000));
        refused("5 no man, dead", BAD, x -> x.wed(1, 2, 3650));
        refused("5 no woman, wed", BAD, x -> x.wed(0, 3, 3650));
        refused("5 the wrong way round", BAD, x -> x.wed(4, 9, 3650));
        refused("5 a man with himself", BAD, x -> x.wed(9, 9, 3650));
        refused("6 day, dead", BAD, x -> x.death(1, 10000));
        refused("7 seat, a member", NONE, x -> x.member(0, 4, 0, 3650));
        refused("7 rate, a member", BAD, x -> x.member(0, 3, 4, 3650));
        refused("7 a woman, dead", BAD, x -> x.member(1, 3, 0, 3650));
        refused("7 a woman", BAD, x -> x.member(2, 3, 0, 3650));
        refused("7 day, a seat that is taken", BAD, x -> x.member(9, 0, 0, -1));
        refused("8 rate, no member", BAD, x -> x.rate(9, 4, 3650));
        refused("8 day, no member", BAD, x -> x.rate(9, 0, 10000));
        refused("8 a woman", BAD, x -> x.rate(2, 0, 3650));
        refused("9 a woman", BAD, x -> x.gone(2, false, 3650));
        refused("9 a woman, back", BAD, x -> x.gone(2, true, 3650));
        refused("9 day, no member", BAD, x -> x.gone(9, false, -1));
        refused("9 day, not gone", BAD, x -> x.gone(9, true, 10000));
        refused("10 a woman", BAD, x -> x.pay(2, 5, 3650));
        refused("10 coins, no member", BAD, x -> x.pay(9, 0, 3650));
        refused("10 day, no member", BAD, x -> x.pay(9, 5, -1));
    }

    /** STATE, as term 1 tells it for each entry; that it changes nothing. */
    private static void state() {
        refused("2 a JOINED was told", STATE, x -> x.seat(4));
        refused("2 a JOINED was told, 0", STATE, x -> x.seat(0));
        refused("5 he is wed", STATE, x -> x.wed(0, 4, 3650));
        refused("5 she is wed", STATE, x -> x.wed(9, 2, 3650));
        refused("5 to each other already", STATE, x -> x.wed(0, 2, 3650));
        refused("5 he is dead", STATE, x -> x.wed(5, 7, 3800));
        refused("5 she is dead", STATE, x -> x.wed(9, 1, 3500));
        refused("5 he is not born", STATE, x -> x.wed(9, 2, 1299));
        refused("5 she is not born", STATE, x -> x.wed(9, 7, 3299));
        refused("6 not born", STATE, x -> x.death(7, 3299));
        refused("6 dead", STATE, x -> x.death(1, 3500));
        refused("7 a member", STATE, x -> x.member(0, 3, 0, 3650));
        refused("7 gone", STATE, x -> x.member(3, 3, 0, 3700));
        refused("7 the seat is taken", STATE, x -> x.member(9, 0, 0, 3650));
        refused("7 dead", STATE, x -> x.member(5, 3, 0, 3800));
        refused("7 not born", STATE, x -> x.member(8, 3, 0, 3199));
        refused("8 no member", STATE, x -> x.rate(9, 0, 3650));
        refused("8 no member yet", STATE, x -> x.rate(0, 0, 2999));
        refused("8 gone", STATE, x -> x.rate(3, 0, 3700));
        refused("8 dead", STATE, x -> x.rate(5, 0, 3800));
        refused("9 no member", STATE, x -> x.gone(9, false, 3650));
        refused("9 gone already", STATE, x -> x.gone(3, false, 3700));
        refused("9 back, but not gone", STATE, x -> x.gone(3, true, 3699));
        refused("9 back of no member", STATE, x -> x.gone(9, true, 3650));
        refused("10 no member", STATE, x -> x.pay(9, 5, 3650));
        refused("10 gone", STATE, x -> x.pay(3, 5, 3700));
        refused("10 dead", STATE, x -> x.pay(5, 5, 3800));
        refused("11 it is struck", STATE, x -> x.strike(12));
        refused("11 it struck one", STATE, x -> x.strike(13));
    }

    private static void stateAheadOfFull() {
        refusedFull("2 a JOINED was told", STATE, x -> x.seat(9));
        refusedFull("5 wed", STATE, x -> x.wed(0, 3, 2500));
        refusedFull("6 not born", STATE, x -> x.death(0, 999));
        refusedFull("7 a member", STATE, x -> x.member(0, 3, 0, 2500));
        refusedFull("7 a seat that is taken", STATE, x -> x.member(4, 0, 0, 2500));
        refusedFull("8 no member", STATE, x -> x.rate(4, 0, 2500));
        refusedFull("9 no member", STATE, x -> x.gone(4, false, 2500));
        refusedFull("9 not gone", STATE, x -> x.gone(0, true, 2500));
        refusedFull("10 no member", STATE, x -> x.pay(4, 5, 2500));
        refusedFull("11 it is struck", STATE, x -> x.strike(4));
        refusedFull("11 it struck one", STATE, x -> x.strike(5));
    }

    private static void badAheadOfFull() {
        refusedFull("2 many", BAD, x -> x.seat(11));
        refusedFull("3 sex", BAD, x -> x.person(2, 5000, -1, -1));
        refusedFull("3 birth", BAD, x -> x.person(0, 10000, -1, -1));
        refusedFull("3 born with the father", BAD, x -> x.person(0, 1000, 0, -1));
        refusedFull("3 born ahead of the mother", BAD, x -> x.person(0, 1000, -1, 1));
        refusedFull("5 no woman", BAD, x -> x.wed(4, 6, 2500));
        refusedFull("6 day", BAD, x -> x.death(0, 10000));
        refusedFull("7 rate", BAD, x -> x.member(4, 3, 4, 2500));
        refusedFull("8 a woman", BAD, x -> x.rate(1, 0, 2500));
        refusedFull("9 day", BAD, x -> x.gone(0, false, -1));
        refusedFull("10 coins", BAD, x -> x.pay(0, 10000, 2500));
        refusedFull("16 n", BAD, x -> x.feed(5, 9));
        refusedFull("16 n 0", BAD, x -> x.feed(5, 0));
        refusedFull("17 day", BAD, x -> x.text(10000));
        refusedFull("30 coins", BAD, x -> x.loan(0, 5, 5, 5));
        refusedFull("30 year", BAD, x -> x.loan(5, 100, 5, 5));
        refusedFull("30 n", BAD, x -> x.loan(5, 5, 31, 5));
        refusedFull("30 hundredths", BAD, x -> x.loan(5, 5, 5, 21));
        refusedFull("41 year", BAD, x -> x.rows(3, 0, 100));
        refusedFull("43 hundredths", BAD, x -> x.step(0, 301));
        refusedFull("45 day", NO, x -> x.tried(10000, 5));
        refusedFull("45 year", NO, x -> x.tried(5, 100));
    }

    private static void noneAheadOfFull() {
        refusedFull("3 father", NONE, x -> x.person(0, 5000, 24, -1));
        refusedFull("3 mother", NONE, x -> x.person(0, 5000, -1, 24));
        refusedFull("5 woman", NONE, x -> x.wed(4, 25, 2500));
        refusedFull("6 person", NONE, x -> x.death(24, 2500));
        refusedFull("7 seat", NONE, x -> x.member(4, 10, 0, 2500));
        refusedFull("8 man", NONE, x -> x.rate(24, 0, 2500));
        refusedFull("9 man", NONE, x -> x.gone(24, false, 2500));
        refusedFull("10 man", NONE, x -> x.pay(24, 5, 2500));
        refusedFull("11 entry", NONE, x -> x.strike(200));
        refusedFull("41 row", NONE, x -> x.rows(4, 0, 5));
        refusedFull("41 person", NONE, x -> x.rows(3, 24, 5));
        refusedFull("43 subject", NONE, x -> x.step(2, 100));
    }

    private static void full() {
        refusedFull("3 person", FULL, x -> x.person(0, 5000, -1, -1));
        refusedFull("3 a child", FULL, x -> x.person(0, 5000, 0, 1));
        refusedFull("5 wed", FULL, x -> x.wed(4, 7, 2500));
        refusedFull("6 death", FULL, x -> x.death(0, 2500));
        refusedFull("7 member", FULL, x -> x.member(4, 3, 0, 2500));
        refusedFull("8 rate", FULL, x -> x.rate(0, 0, 2500));
        refusedFull("9 gone", FULL, x -> x.gone(0, false, 2500));
        refusedFull("9 back", FULL, x -> x.gone(2, true, 2500));
        refusedFull("10 pay", FULL, x -> x.pay(0, 5, 2500));
        refusedFull("11 strike", FULL, x -> x.strike(199));
        refusedFull("11 strike a death", FULL, x -> x.strike(6));
        refusedFull("16 feed", FULL, x -> x.feed(5, 1));
        refusedFull("16 feed 8", FULL, x -> x.feed(5, 8));
        refusedFull("17 text", FULL, x -> x.text(0));
        refusedFull("30 loan", FULL, x -> x.loan(5, 5, 5, 5));
        refusedFull("40 row", FULL, x -> x.row());
        refusedFull("41 rows", FULL, x -> x.rows(3, 0, 5));
        refusedFull("43 step", FULL, x -> x.step(3, 100));
    }

    /** What is asked, tried and checked leaves all as before. */
    private static void queriesChangeNothing() {
        refused("trials", -5, x -> {
            x.shortBy(0, 40, 20);
            x.shortBy(-1, 36, 3);
            x.plan(40, 20, 1);
            return x.shortBy(1, 36, 3);
        });
        refused("questions by few entries", NONE, x -> {
            x.as(0, 3400, 0);
            x.chest(99, 3);
            x.value(40, 1);
            x.rent(6, 39, 9);
            x.rule(0, 0, 3400, 2);
            return x.live(0, 3650, 0, 0);
        });
        refused("a year that is checked", 0, x -> x.check(34, 3));
        refusedFull("trials of all rows and steps", -5, x -> {
            for (int row = -1; row < 4; row++) x.shortBy(row, 90, 20);
            x.plan(30, 20, 0);
            return x.shortBy(3, 98, 1);
        });
    }
}
