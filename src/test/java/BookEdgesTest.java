/** Terms 1 and 2, promises 1 to 15: each sentence on an edge has a test of its own, which bears its words. */
public final class BookEdgesTest {
    private static final int NONE = WidowsFund.NONE, BAD = WidowsFund.BAD, STATE = WidowsFund.STATE, FULL = WidowsFund.FULL;
    private static final long NO = WidowsFund.NO;

    public static void main(String[] args) {
        nothingYet();
        objectsStandAlone();
        daysFromFirstToLast();
        yearsOfAHundredDays();
        ageInWholeYears();
        personsFrom0To23();
        bornAheadOfIt();
        seatsFrom0To10();
        aJoinedWasTold();
        entriesFrom0To199();
        weddingsFrom0To199();
        struckTakesAPlace();
        byTheFirstEntries();
        diesAsToldLast();
        livesUntilTheDayAhead();
        lastWedding();
        wedIfBothLive();
        lastOfJoinedGoneBack();
        hisSeatAndRate();
        joinedAheadOfJoined();
        toldOnlyIf();
        toldOfMembersOnly();
        backIfTheSeatIsFree();
        whatIsKnown();
        notSoAnyMore();
        late();
        lateByTheFirstJoined();
        again();
        widow();
        widowOfSuchAOne();
        widowByHerLastWedding();
        orphan();
        orphanIsNoOther();
        orphanOfSuchAOne();
        kindsUnderKinds();
        livesAsAsked();
        Check.end("BookEdgesTest");
    }

    private static void due(String call, long got, long want) {
        Check.due(call, got, want);
    }

    // ---- promise 1

    /** "No PERSONS, no ACTS, an empty CHEST": and of all else nothing, or what it is at first. */
    private static void nothingYet() {
        WidowsFund x = new WidowsFund();
        int[] first = {0, 0, 0, 0, 0, 0, 0, 0, 4};
        for (int what = 0; what < 9; what++) due("1 count(" + what + ")", x.count(what), first[what]);
        for (int what = 0; what < 4; what++) due("1 birth of none", x.birth(0, what), NONE);
        due("1 an empty chest behind 0", x.chest(0, -1), 0);
        due("1 an empty chest behind 99", x.chest(99, 0), 0);
        due("1 no such e", x.chest(0, 1), NO);
        due("1 no entry", x.known(0, 0), NONE);
        due("1 nothing to strike", x.strike(0), NONE);
        due("1 no act", x.force(0, 0), NONE);
        due("1 no clause", x.out(0, 0, 0), NONE);
        due("1 no loan", x.due(0, 0), NO);
        due("1 no bad loan", x.bad(0, 0), NONE);
        due("1 no row", x.rows(0, 0, 0), NONE);
        due("1 not short by a row", x.shortBy(0, 0, 1), NONE);
        due("1 not short by none", x.shortBy(-1, 0, 1), -5);
        due("1 the plan", x.plan(0, 1, 0), 0);
        due("1 the plan's dues", x.plan(0, 1, 1), -5);
        due("1 no vacant seats", x.vacant(0, -1), 0);
        due("1 value", x.value(99, -1), 0);
        due("1 the told year is right", x.check(0, -1), -5);
        due("1 of no persons no numbers change", x.judge(0, -1), 0);
        due("1 chest told", x.told(-1, 0, 0), 0);
        due("1 nothing told of a person", x.told(0, 0, 0), NO);
        due("1 began with 0", x.begin(0), 0);
        due("1 age", x.rule(7, -1, 0, -1), 18);
        due("1 late", x.rule(8, -1, 0, -1), 40);
        for (int s = 0; s < 7; s++) due("1 rule " + s, x.rule(s, -1, 0, -1), 0);
        due("1 the tape is no act", x.tried(0, 0), NO + 1);
        due("1 the tape's fault", x.text(0), -10);
        due("1 no seat to join on", x.seat(0), 0);
    }

    /** What one object is told the next one does not know. */
    private static void objectsStandAlone() {
        WidowsFund x = Funds.some();
        WidowsFund y = new WidowsFund();
        due("1 persons of another", y.count(0), 0);
        due("1 entries of another", y.count(1), 0);
        due("1 table of another", y.table(40, 50), 50);
        due("1 its own table stays", x.table(40, 77), 77);
        due("1 interest of another", y.interest(4), 4);
        due("1 tape of another", y.count(7), 0);
        due("1 rule of another", y.rule(0, -1, 3000, -1), 0);
        due("1 rows of another", y.row(), 0);
        due("1 steps of another", y.step(0, 0), 0);
        due("1 told of another", y.told(-1, 0, 0), 0);
        due("1 began of another", y.begin(0), 0);
        due("1 seats of another", y.seat(10), 0);
    }

    // ---- term 1

    /** "DAYS are 0 .. 9999." */
    private static void daysFromFirstToLast() {
        WidowsFund x = new WidowsFund();
        x.seat(1);
        due("born on 0", x.person(0, 0, -1, -1), 0);
        due("born on 9999", x.person(1, 9999, -1, -1), 1);
        due("born on 0, too", x.person(1, 0, -1, -1), 2);
        due("joined on 0", x.member(0, 0, 0, 0), 0);
        due("wed on 0", x.wed(0, 2, 0), 1);
        due("rate on 0", x.rate(0, 3, 0), 2);
        due("paid on 0", x.pay(0, 1, 0), 3);
        due("gone on 9999", x.gone(0, false, 9999), 4);
        due("back on 9999", x.gone(0, true, 9999), 5);
        due("rate on 9999", x.rate(0, 1, 9999), 6);
        due("paid on 9999", x.pay(0, 9999, 9999), 7);
        due("dies on 9999", x.death(1, 9999), 8);
        due("never lived", x.as(1, 9999, -1), -5);
        due("a member on 0", x.as(0, 0, -1), 1);
        due("a member on 9999", x.as(0, 9999, -1), 1);
        due("rate of 0", x.live(0, 0, -1, 2), 3);
        due("rate of 9998", x.live(0, 9998, -1, 2), 3);
        due("rate of 9999", x.live(0, 9999, -1, 2), 1);
        due("age on 9999", x.live(0, 9999, -1, 4), 99);
        due("paid in 0", x.owe(0, 0, -1, 3), 1);
        due("paid in 99", x.owe(0, 99, -1, 3), 9999);
        due("wed on 0 is a wedding", x.live(2, 0, -1, 3), 1);
        due("dies on 0", x.death(2, 0), 9);
        due("on 0 it is dead", x.as(2, 0, -1), -5);
        due("he dies on 0, too", x.death(0, 0), 10);
        due("on 0 he is dead", x.as(0, 0, -1), -5);
        due("and on 9999", x.as(0, 9999, -1), -5);
    }

    /** "YEAR y from DAY 100 y on (0 .. 99)": what is PAID on its first and last DAY is of that YEAR, no other. */
    private static void yearsOfAHundredDays() {
        WidowsFund x = Funds.couple("");
        x.pay(0, 1, 3199);
        x.pay(0, 20, 3200);
        x.pay(0, 300, 3299);
        x.pay(0, 4000, 3300);
        due("31", x.owe(0, 31, -1, 3), 1);
        due("32", x.owe(0, 32, -1, 3), 320);
        due("33", x.owe(0, 33, -1, 3), 4000);
        due("34", x.owe(0, 34, -1, 3), 0);
        due("99", x.owe(0, 99, -1, 3), 0);
        due("0", x.owe(0, 0, -1, 3), 0);
        Check.act(x, "vacant=year", 0);
        due("year of its first day", x.rule(4, -1, 3200, -1), 32);
        due("year of its last day", x.rule(4, -1, 3299, -1), 32);
        due("the first year", x.rule(4, -1, 99, -1), 0);
        due("the last year", x.rule(4, -1, 9999, -1), 99);
    }

    /** "AGE of a PERSON on a DAY: how many whole YEARS since its BIRTH." */
    private static void ageInWholeYears() {
        WidowsFund x = new WidowsFund();
        x.person(0, 150, -1, -1);
        due("on its birth", x.live(0, 150, -1, 4), 0);
        due("not by calendar years", x.live(0, 200, -1, 4), 0);
        due("99 days", x.live(0, 249, -1, 4), 0);
        due("100 days", x.live(0, 250, -1, 4), 1);
        due("199 days", x.live(0, 349, -1, 4), 1);
        due("200 days", x.live(0, 350, -1, 4), 2);
        due("9849 days", x.live(0, 9999, -1, 4), 98);
    }

    /** "PERSONS are numbered from 0 on, 24 at most." */
    private static void personsFrom0To23() {
        WidowsFund x = new WidowsFund();
        for (int p = 0; p < 23; p++) due("person " + p, x.person(0, 100 + p, -1, -1), p);
        due("the last one", x.person(1, 9000, 22, -1), 23);
        due("one more", x.person(1, 9000, -1, -1), FULL);
        due("one more again", x.person(0, 0, -1, -1), FULL);
        due("count", x.count(0), 24);
        due("the last one's birth", x.birth(23, 1), 9000);
        due("the last one's father", x.birth(23, 2), 22);
        due("the last one's sex", x.birth(23, 0), 1);
        due("a man's sex", x.birth(22, 0), 0);
        due("the last one lives", x.as(23, 9000, -1), 0);
        due("no 24", x.birth(24, 0), NONE);
        due("24 lives not", x.as(24, 9000, -1), NONE);
        x.seat(1);
        due("the last ones wed", x.wed(22, 23, 9500), 0);
        due("told of the last", x.told(23, 2, 5), 0);
        due("one that is there dies", x.death(23, 9600), 1);
    }

    /** "Those who were born ahead of it": a day ahead at least, of father and mother alike. */
    private static void bornAheadOfIt() {
        WidowsFund x = new WidowsFund();
        x.person(0, 500, -1, -1);
        x.person(1, 600, -1, -1);
        due("on the father's day", x.person(0, 500, 0, -1), BAD);
        due("ahead of the father", x.person(0, 499, 0, -1), BAD);
        due("far ahead of the father", x.person(0, 0, 0, -1), BAD);
        due("the day behind the father", x.person(0, 501, 0, -1), 2);
        due("on the mother's day", x.person(1, 600, -1, 1), BAD);
        due("ahead of the mother", x.person(1, 599, -1, 1), BAD);
        due("far ahead of the mother", x.person(1, 0, -1, 1), BAD);
        due("the day behind the mother", x.person(1, 601, -1, 1), 3);
        due("behind the father, ahead of the mother", x.person(1, 550, 0, 1), BAD);
        due("of both", x.person(1, 601, 0, 1), 4);
        due("a son has a daughter", x.person(1, 502, 2, -1), 5);
        due("of a dead father", x.death(0, 700), 0);
        due("born behind his death", x.person(0, 9999, 0, -1), 6);
        due("father told", x.birth(6, 2), 0);
        due("mother not told", x.birth(6, 3), NONE);
        due("father not told", x.birth(3, 2), NONE);
        due("mother told", x.birth(3, 3), 1);
        due("nobody is mother for want of a sex", x.person(0, 9000, 1, 0), NONE);
        due("count", x.count(0), 7);
    }

    /** "SEATS 0 .. 9 are in the church: how many there are is told (0 .. 10; 0 at first)." */
    private static void seatsFrom0To10() {
        WidowsFund x = new WidowsFund();
        for (int p = 0; p < 11; p++) x.person(0, 10 + p, -1, -1);
        due("0 at first: no seat 0", x.member(0, 0, 0, 500), NONE);
        due("what it was", x.seat(1), 0);
        due("no seat 1", x.member(0, 1, 0, 500), NONE);
        due("ten", x.seat(10), 1);
        due("eleven", x.seat(11), BAD);
        due("ten still", x.seat(10), 10);
        due("none again", x.seat(0), 10);
        due("no seat 0 again", x.member(0, 0, 0, 500), NONE);
        due("ten again", x.seat(10), 0);
        due("no seat 10", x.member(0, 10, 0, 500), NONE);
        due("no seat -1", x.member(0, -1, 0, 500), NONE);
        for (int s = 0; s < 10; s++) due("seat " + s, x.member(s, s, 0, 500), s);
        due("an eleventh finds none", x.member(10, 9, 0, 500), STATE);
        due("nor this", x.member(10, 10, 0, 500), NONE);
        due("the last seat", x.live(9, 500, -1, 1), 9);
        Check.act(x, "vacant=7", 0);
        due("ten stood empty", x.vacant(4, -1), 70);
        due("none stands empty", x.vacant(5, -1), 0);
    }

    /** "STATE: a JOINED was told (STRUCK or not)": a refused one was not told. */
    private static void aJoinedWasTold() {
        WidowsFund x = Funds.four();
        due("refused, BAD", x.member(0, 0, 4, 3000), BAD);
        due("refused, NONE", x.member(0, 3, 0, 3000), NONE);
        due("refused, STATE", x.member(0, 0, 0, 999), STATE);
        x.wed(0, 2, 3000);
        due("none was told", x.seat(4), 3);
        due("told", x.member(0, 3, 0, 3000), 1);
        due("as many", x.seat(4), STATE);
        due("more", x.seat(5), STATE);
        x.strike(1);
        due("struck", x.seat(5), STATE);
        due("four still", x.count(3), 4);
    }

    /** "ENTRIES, 200 at most, numbered from 0 on as they are told." */
    private static void entriesFrom0To199() {
        WidowsFund x = Funds.couple("");
        for (int i = 2; i < 199; i++) due("entry " + i, x.pay(0, i, 3000 + i), i);
        due("refused ones take no number", x.pay(0, 0, 3000), BAD);
        due("the last one", x.gone(0, false, 5000), 199);
        due("one more", x.death(0, 5000), FULL);
        due("one more back", x.gone(0, true, 5000), FULL);
        due("count", x.count(1), 200);
        due("the last one is so", x.as(0, 5000, -1), 6);
        due("by 200", x.as(0, 5000, 200), 6);
        due("by 199", x.as(0, 5000, 199), 1);
        due("by 201", x.as(0, 5000, 201), NONE);
        due("the last one's day", x.known(199, 3), 5000);
        due("no 200", x.known(200, 0), NONE);
        due("none dies", x.live(0, 5000, -1, 5), 10000);
    }

    /** 200 WEDDINGS: each told for the day ahead of all that were told, when neither is wed yet. */
    private static void weddingsFrom0To199() {
        WidowsFund x = Funds.four();
        for (int i = 0; i < 200; i++) due("wedding " + i, x.wed(0, 2, 9999 - i), i);
        due("one more", x.wed(0, 2, 5000), FULL);
        due("his", x.live(0, 9999, -1, 3), 200);
        due("hers", x.live(2, 9999, -1, 3), 200);
        due("hers on the day of the last told", x.live(2, 9800, -1, 3), 1);
        due("hers the day ahead", x.live(2, 9799, -1, 3), 0);
        due("hers by 199", x.live(2, 9999, 199, 3), 199);
        due("another woman's", x.live(3, 9999, -1, 3), 0);
        due("wed", x.live(2, 9999, -1, 0), 0);
        due("no tax, no member", x.owe(0, 99, -1, 1), 0);
    }

    /** STRUCK is an entry as all are: it takes the last place, and behind it there is none. */
    private static void struckTakesAPlace() {
        WidowsFund x = Funds.couple("");
        for (int i = 2; i < 199; i++) x.pay(0, 1, 3000 + i);
        due("the last one", x.strike(1), 199);
        due("one more", x.strike(2), FULL);
        due("it is struck", x.strike(1), STATE);
        due("it struck one", x.strike(199), STATE);
        due("known", x.known(199, 0), 7);
        due("not wed", x.live(0, 3000, -1, 0), NONE);
        due("wed by 199", x.live(0, 3000, 199, 0), 2);
    }

    /** "By e: of the first e ENTRIES those that none of the first e has STRUCK (e -1: all)." */
    private static void byTheFirstEntries() {
        WidowsFund x = Funds.couple("");
        x.strike(1);
        x.wed(0, 3, 3000);
        due("by 0 no member", x.as(0, 3000, 0), 0);
        due("by 1 a member", x.as(0, 3000, 1), 1);
        due("by 1 not wed", x.live(0, 3000, 1, 0), NONE);
        due("by 2 wed to 2", x.live(0, 3000, 2, 0), 2);
        due("by 3 it is struck", x.live(0, 3000, 3, 0), NONE);
        due("by 4 wed to 3", x.live(0, 3000, 4, 0), 3);
        due("by all", x.live(0, 3000, -1, 0), 3);
        due("weddings by 2", x.live(0, 3000, 2, 3), 1);
        due("weddings by 3", x.live(0, 3000, 3, 3), 0);
        due("weddings by 4", x.live(0, 3000, 4, 3), 1);
        due("hers by 2", x.live(2, 3000, 2, 3), 1);
        due("hers by all", x.live(2, 3000, -1, 3), 0);
        due("by 5", x.live(0, 3000, 5, 3), NONE);
    }

    /** "A PERSON DIES on the DAY of its DEATH told last (of several), or never." */
    private static void diesAsToldLast() {
        WidowsFund x = Funds.four();
        due("never", x.live(0, 5000, -1, 5), 10000);
        x.death(0, 5000);
        due("told", x.live(0, 0, -1, 5), 5000);
        x.death(0, 4000);
        due("told last, earlier", x.live(0, 0, -1, 5), 4000);
        due("behind it no more", x.death(0, 4500), STATE);
        x.strike(1);
        due("the one ahead holds again", x.live(0, 0, -1, 5), 5000);
        x.death(0, 4999);
        x.strike(0);
        due("the last one stays", x.live(0, 0, -1, 5), 4999);
        x.strike(3);
        due("never again", x.live(0, 0, -1, 5), 10000);
        due("lives on 9999", x.as(0, 9999, -1), 0);
        int[] by = {10000, 5000, 4000, 5000, 4999, 4999, 10000};
        for (int e = 0; e < 7; e++) due("by " + e, x.live(0, 0, e, 5), by[e]);
    }

    /** "It LIVES on a DAY from its BIRTH on to the DAY ahead of its DEATH." */
    private static void livesUntilTheDayAhead() {
        WidowsFund x = Funds.four();
        x.death(0, 5000);
        due("the day ahead of birth", x.as(0, 999, -1), -5);
        due("the day of birth", x.as(0, 1000, -1), 0);
        due("the day ahead of death", x.as(0, 4999, -1), 0);
        due("the day of death", x.as(0, 5000, -1), -5);
        due("behind", x.as(0, 9999, -1), -5);
        due("part ahead", x.part(0, 0, 999, -1), -5);
        due("part", x.part(0, 0, 1000, -1), 0);
        due("part at the end", x.part(0, 0, 4999, -1), 39);
        due("part on death", x.part(0, 0, 5000, -1), -5);
        due("age ahead", x.live(0, 999, -1, 4), NONE);
        due("age at the end", x.live(0, 4999, -1, 4), 39);
        due("age on death", x.live(0, 5000, -1, 4), NONE);
    }

    /** "Of WEDDINGS on or ahead of a DAY the last is that of the greatest DAY, of like ones the one told last." */
    private static void lastWedding() {
        WidowsFund x = Funds.four();
        x.wed(0, 2, 4000);
        due("ahead of all", x.live(0, 3999, -1, 0), NONE);
        due("on its day", x.live(0, 4000, -1, 0), 2);
        x.wed(0, 3, 3999);
        due("an earlier one, told later", x.live(0, 3999, -1, 0), 3);
        due("the greatest day", x.live(0, 4000, -1, 0), 2);
        due("her last is hers", x.live(3, 4000, -1, 0), 0);
        WidowsFund y = Funds.four();
        y.wed(0, 2, 4000);
        y.death(2, 4000);
        y.wed(0, 3, 4000);
        due("of like days the one told last", y.live(0, 4000, -1, 0), 3);
        y.strike(1);
        due("and still so when both live", y.live(0, 4000, -1, 0), 3);
        due("two weddings on one day", y.live(0, 4000, -1, 3), 2);
        due("none the day ahead", y.live(0, 3999, -1, 3), 0);
        due("by 1", y.live(0, 4000, 1, 0), 2);
    }

    /** "WED on a DAY to: the other one of its last WEDDING, if both LIVE then." */
    private static void wedIfBothLive() {
        WidowsFund x = Funds.four();
        x.wed(0, 2, 4000);
        x.wed(1, 3, 4000);
        x.death(0, 4100);
        x.death(3, 4200);
        due("hers the day ahead", x.live(2, 4099, -1, 0), 0);
        due("hers on his death", x.live(2, 4100, -1, 0), NONE);
        due("his own on his death", x.live(0, 4100, -1, 0), NONE);
        due("his the day ahead", x.live(1, 4199, -1, 0), 3);
        due("his on her death", x.live(1, 4200, -1, 0), NONE);
        due("her own on her death", x.live(3, 4200, -1, 0), NONE);
        due("a widow is free on the day", x.wed(1, 2, 4200), 4);
        due("no dead wife comes back", x.live(1, 9999, -1, 0), 2);
    }

    /** "Of JOINED, GONE, BACK of a man likewise the last one: he is a MEMBER, if that is JOINED or BACK; GONE, if that is GONE." */
    private static void lastOfJoinedGoneBack() {
        WidowsFund x = Funds.four();
        x.member(0, 0, 1, 3000);
        due("ahead", x.as(0, 2999, -1), 0);
        due("joined", x.as(0, 3000, -1), 1);
        x.gone(0, false, 3000);
        due("gone on the day, told last", x.as(0, 3000, -1), 6);
        x.gone(0, true, 3000);
        due("back on the day, told last", x.as(0, 3000, -1), 1);
        x.gone(0, false, 4000);
        x.gone(0, true, 5000);
        due("a member", x.as(0, 3999, -1), 1);
        due("gone", x.as(0, 4000, -1), 6);
        due("gone until", x.as(0, 4999, -1), 6);
        due("back", x.as(0, 5000, -1), 1);
        x.death(0, 6000);
        due("a member at the end", x.as(0, 5999, -1), 1);
        due("dead", x.as(0, 6000, -1), -5);
        WidowsFund y = Funds.four();
        y.member(0, 0, 1, 3000);
        y.gone(0, false, 4000);
        y.gone(0, true, 5000);
        y.strike(0);
        due("gone, though he never joined", y.as(0, 4000, -1), 6);
        due("back, but he never joined", y.as(0, 5000, -1), 0);
        due("so no member", y.pay(0, 1, 5000), STATE);
        due("nor gone: he may join", y.member(0, 1, 0, 5000), 4);
        due("then he is one", y.as(0, 5000, -1), 1);
        due("ahead of it not", y.as(0, 4999, -1), 6);
        WidowsFund z = Funds.four();
        z.member(0, 0, 1, 3000);
        z.gone(0, false, 3500);
        z.gone(0, true, 4000);
        z.strike(0);
        z.member(0, 0, 1, 4100);
        due("back, but he joined later", z.as(0, 4099, -1), 0);
        due("joined", z.as(0, 4100, -1), 1);
        due("back, and no seat yet", z.live(0, 4099, -1, 1), NONE);
    }

    /** "His SEAT: that of the last JOINED; his RATE: of the last of JOINED and RATE." */
    private static void hisSeatAndRate() {
        WidowsFund x = Funds.four();
        x.member(0, 2, 3, 3000);
        x.rate(0, 1, 3000);
        due("told last on the day", x.live(0, 3000, -1, 2), 1);
        x.rate(0, 2, 3500);
        x.rate(0, 0, 3400);
        due("the day ahead", x.live(0, 3399, -1, 2), 1);
        due("on the day", x.live(0, 3400, -1, 2), 0);
        due("until the next", x.live(0, 3499, -1, 2), 0);
        due("the greatest day", x.live(0, 3500, -1, 2), 2);
        due("the greatest day for ever", x.live(0, 9999, -1, 2), 2);
        due("seat", x.live(0, 3000, -1, 1), 2);
        due("no seat the day ahead", x.live(0, 2999, -1, 1), NONE);
        due("no rate the day ahead", x.live(0, 2999, -1, 2), NONE);
        x.gone(0, false, 3600);
        due("the seat of one gone", x.live(0, 3600, -1, 1), 2);
        due("the rate of one gone", x.live(0, 3600, -1, 2), 2);
        x.death(0, 3700);
        due("the seat of one dead", x.live(0, 3700, -1, 1), 2);
        due("the rate of one dead", x.live(0, 3700, -1, 2), 2);
        due("none of who never joined", x.live(1, 9999, -1, 1), NONE);
        due("no rate of who never joined", x.live(1, 9999, -1, 2), NONE);
        due("none of a woman", x.live(2, 9999, -1, 1), NONE);
        due("no rate of a woman", x.live(2, 9999, -1, 2), NONE);
        x.strike(0);
        due("a RATE alone, but he never joined", x.live(0, 3500, -1, 2), NONE);
        due("nor has he a seat", x.live(0, 3500, -1, 1), NONE);
        due("by 4 he joined", x.live(0, 3500, 4, 2), 2);
    }

    /** A JOINED told later for a day ahead: from its day to the next one he has that seat and that rate. */
    private static void joinedAheadOfJoined() {
        WidowsFund x = Funds.four();
        x.member(0, 0, 1, 4000);
        due("ahead of it he is none", x.member(0, 1, 3, 3500), 1);
        due("on it he is one", x.member(0, 2, 3, 4000), STATE);
        due("seat then", x.live(0, 3999, -1, 1), 1);
        due("seat later", x.live(0, 4000, -1, 1), 0);
        due("rate then", x.live(0, 3999, -1, 2), 3);
        due("rate later", x.live(0, 4000, -1, 2), 1);
        due("his first seat is taken then", x.member(1, 1, 0, 3999), STATE);
        due("and free later", x.member(1, 1, 0, 4000), 2);
        due("his second was free then", x.as(0, 3999, 1), 0);
        x.strike(1);
        due("only the first told", x.live(0, 3999, -1, 1), NONE);
    }

    /** "Told only if: DEATH: the PERSON LIVES; WEDDING: they LIVE; JOINED: he LIVES": on the first and last day of a life. */
    private static void toldOnlyIf() {
        WidowsFund x = Funds.four();
        x.death(0, 5000);
        x.death(2, 5000);
        due("wed ahead of her birth", x.wed(1, 3, 1299), STATE);
        due("wed on her birth", x.wed(1, 3, 1300), 2);
        due("wed on his death", x.wed(0, 2, 5000), STATE);
        due("wed a living one on his death", x.wed(0, 3, 5000), STATE);
        due("wed on the last day", x.wed(0, 2, 4999), 3);
        due("joined ahead of his birth", x.member(0, 0, 0, 999), STATE);
        due("joined on his birth", x.member(0, 0, 0, 1000), 4);
        due("joined on his death", x.member(0, 1, 0, 5000), STATE);
        due("death ahead of birth", x.death(3, 1299), STATE);
        due("death on birth", x.death(3, 1300), 5);
        due("death again", x.death(3, 1300), STATE);
        due("death on the day of death", x.death(0, 5000), STATE);
        due("death on the last day", x.death(0, 4999), 6);
        due("then it is not lived", x.death(0, 4999), STATE);
    }

    /** "RATE, PAID: he is a MEMBER; GONE: he is a MEMBER; JOINED: is no MEMBER, nor GONE": on the first and last day of it. */
    private static void toldOfMembersOnly() {
        WidowsFund x = Funds.four();
        x.member(0, 0, 0, 3000);
        x.gone(0, false, 4000);
        due("rate ahead", x.rate(0, 0, 2999), STATE);
        due("paid ahead", x.pay(0, 1, 2999), STATE);
        due("gone ahead", x.gone(0, false, 2999), STATE);
        due("rate at first", x.rate(0, 1, 3000), 2);
        due("paid at first", x.pay(0, 1, 3000), 3);
        due("rate at last", x.rate(0, 2, 3999), 4);
        due("paid at last", x.pay(0, 9999, 3999), 5);
        due("rate of one gone", x.rate(0, 0, 4000), STATE);
        due("paid of one gone", x.pay(0, 1, 4000), STATE);
        due("gone again", x.gone(0, false, 4000), STATE);
        due("joined when gone", x.member(0, 1, 0, 4000), STATE);
        due("back the day ahead", x.gone(0, true, 3999), STATE);
        due("gone at first", x.gone(0, false, 3000), 6);
        due("back on the day", x.gone(0, true, 4000), 7);
        due("a member again pays", x.pay(0, 1, 4000), 8);
        due("and not in between", x.pay(0, 1, 3999), STATE);
    }

    /** "BACK: he is GONE, and no MEMBER has his SEAT"; "JOINED: no MEMBER has that SEAT". */
    private static void backIfTheSeatIsFree() {
        WidowsFund x = Funds.four();
        x.member(0, 0, 0, 3000);
        due("taken from its first day", x.member(1, 0, 0, 3000), STATE);
        x.gone(0, false, 4000);
        due("taken on the last day", x.member(1, 0, 0, 3999), STATE);
        due("free as he is gone", x.member(1, 0, 0, 4000), 2);
        due("his seat is taken", x.gone(0, true, 4000), STATE);
        x.gone(1, false, 5000);
        due("still taken", x.gone(0, true, 4999), STATE);
        due("free again", x.gone(0, true, 5000), 4);
        due("now the other's seat is taken", x.gone(1, true, 5000), STATE);
        due("another seat is no hindrance", x.member(1, 1, 0, 3000), 5);
        x.death(0, 6000);
        due("taken until his death", x.gone(1, true, 5999), STATE);
        due("free on his death", x.gone(1, true, 6000), 7);
        due("he has the seat of his last joining", x.live(1, 6000, -1, 1), 0);
        WidowsFund y = Funds.four();
        y.member(0, 0, 0, 3000);
        y.member(1, 1, 0, 3000);
        y.gone(0, false, 4000);
        due("a member on another seat", y.gone(0, true, 4500), 3);
        WidowsFund z = Funds.four();
        z.member(0, 0, 0, 3000);
        z.death(0, 4000);
        due("taken on his last day", z.member(1, 0, 0, 3999), STATE);
        due("free on his death", z.member(1, 0, 0, 4000), 2);
    }

    /** Promise 12: each kind of ENTRY and each what; NONE where there is no such number. */
    private static void whatIsKnown() {
        WidowsFund x = Funds.four();
        x.member(0, 2, 3, 3000);
        x.wed(0, 3, 3001);
        x.rate(0, 1, 3002);
        x.pay(0, 77, 3003);
        x.gone(0, false, 3004);
        x.gone(0, true, 3005);
        x.death(3, 3006);
        x.strike(2);
        int[][] known = {{2, 0, 2, 3000, 3}, {1, 0, 3, 3001, NONE}, {3, 0, 1, 3002, NONE}, {6, 0, 77, 3003, NONE},
            {4, 0, NONE, 3004, NONE}, {5, 0, NONE, 3005, NONE}, {0, 3, NONE, 3006, NONE}, {7, 2, NONE, NONE, NONE}};
        for (int entry = 0; entry < 8; entry++) {
            for (int what = 0; what < 5; what++) due("known(" + entry + ", " + what + ")", x.known(entry, what), known[entry][what]);
            due("known what 5", x.known(entry, 5), NONE);
        }
        due("a struck one is known as it was", x.known(2, 3), 3002);
        due("no entry 8", x.known(8, 0), NONE);
    }

    /** "STRUCK: it is not so any more", of each kind. */
    private static void notSoAnyMore() {
        WidowsFund x = Funds.couple("");
        x.rate(0, 3, 3100);
        x.pay(0, 77, 3100);
        x.gone(0, false, 3200);
        x.gone(0, true, 3300);
        x.death(2, 3400);
        x.strike(2);
        due("no rate", x.live(0, 3100, -1, 2), 1);
        x.strike(3);
        due("no coins", x.owe(0, 31, -1, 3), 0);
        due("nor in the chest", x.chest(99, -1), 0);
        x.strike(5);
        due("not back", x.as(0, 3300, -1), 6);
        x.strike(4);
        due("not gone", x.as(0, 3300, -1), 1);
        x.strike(6);
        due("not dead", x.as(2, 3400, -1), 0);
        x.strike(1);
        due("not wed", x.live(2, 3400, -1, 0), NONE);
        due("no wedding", x.live(2, 3400, -1, 3), 0);
        x.strike(0);
        due("not joined", x.as(0, 3300, -1), 0);
        due("told again", x.member(0, 0, 2, 3000), 14);
        due("as it is told now", x.live(0, 3000, -1, 2), 2);
    }

    // ---- term 2

    /** "LATE: his AGE on the DAY of his first JOINED is above what late comes to for him on that DAY"; 40 without a clause. */
    private static void late() {
        WidowsFund x = Funds.four();
        x.member(0, 0, 0, 5099);
        due("40 is not above 40", x.as(0, 5099, -1), 1);
        due("nor later, when he is older", x.as(0, 9000, -1), 1);
        due("part of no late one", x.part(0, 2, 5099, -1), -6);
        WidowsFund y = Funds.four();
        y.member(0, 0, 0, 5100);
        due("41 is above 40", y.as(0, 5100, -1), 2);
        due("part of a late one", y.part(0, 2, 5100, -1), 41);
        due("no late one the day ahead", y.as(0, 5099, -1), 0);
        Check.act(y, "late=41", 5101);
        due("a later act is none of that day", y.as(0, 6000, -1), 2);
        Check.act(y, "late=41", 5100);
        due("an act of that day is", y.as(0, 6000, -1), 1);
        y.out(1, 0, 5101);
        due("struck out behind that day", y.as(0, 6000, -1), 1);
        y.out(1, 0, 5100);
        due("struck out on that day", y.as(0, 6000, -1), 2);
        WidowsFund z = Funds.four();
        Check.act(z, "late=0;late=1 if rate=2", 0);
        z.member(0, 0, 0, 1099);
        due("0 is not above 0", z.as(0, 1100, -1), 1);
        z.member(1, 1, 1, 1200);
        due("1 is above 0", z.as(1, 1200, -1), 2);
        z.rate(1, 2, 1200);
        due("late for him: by his rate of that day", z.as(1, 1200, -1), 1);
        due("by 2", z.as(1, 1200, 2), 2);
    }

    /** "His first JOINED (first by DAYS) on or ahead of the DAY." */
    private static void lateByTheFirstJoined() {
        WidowsFund x = Funds.four();
        x.member(0, 0, 0, 5200);
        due("late", x.as(0, 5200, -1), 2);
        x.member(0, 1, 0, 3000);
        due("the first by days, told last", x.as(0, 5200, -1), 1);
        due("and on that day", x.as(0, 3000, -1), 1);
        due("by 1", x.as(0, 5200, 1), 2);
        x.strike(1);
        due("struck", x.as(0, 5200, -1), 2);
        x.gone(0, false, 5300);
        due("gone, late or not", x.as(0, 5300, -1), 6);
        x.gone(0, true, 5400);
        due("back, he is late", x.as(0, 5400, -1), 2);
    }

    /** "AGAIN under LATE (he is a MEMBER with two WEDDINGS or more on or ahead of the DAY)"; "AGAIN ahead of LATE". */
    private static void again() {
        WidowsFund x = Funds.couple("");
        x.person(1, 1000, -1, -1);
        due("one wedding", x.as(0, 9999, -1), 1);
        x.death(2, 3500);
        x.wed(0, 3, 3600);
        due("the day ahead of the second", x.as(0, 3599, -1), 1);
        due("two", x.as(0, 3600, -1), 3);
        x.death(3, 3700);
        due("though none is left", x.as(0, 3700, -1), 3);
        x.wed(0, 4, 3800);
        due("three", x.as(0, 3800, -1), 3);
        x.gone(0, false, 3900);
        due("gone", x.as(0, 3900, -1), 6);
        due("part of gone", x.part(0, 3, 3900, -1), -6);
        due("part of again", x.part(0, 3, 3899, -1), 28);
        due("by 3", x.as(0, 3800, 3), 1);
        WidowsFund y = Funds.four();
        y.wed(0, 2, 2000);
        y.death(2, 2100);
        y.wed(0, 3, 2200);
        due("no member", y.as(0, 2200, -1), 0);
        y.member(0, 0, 0, 6000);
        due("again ahead of late", y.as(0, 6000, -1), 3);
        y.strike(2);
        due("late", y.as(0, 6000, -1), 2);
        due("a woman with two weddings", y.as(3, 6000, -1), 0);
    }

    /** "WIDOW: whose last WEDDING was to a man who DIED on or ahead of the DAY." */
    private static void widow() {
        WidowsFund x = Funds.couple("");
        x.death(0, 4000);
        due("the day ahead", x.as(2, 3999, -1), 0);
        due("on his death", x.as(2, 4000, -1), 4);
        due("for ever", x.as(2, 9999, -1), 4);
        x.death(2, 5000);
        due("until her death", x.as(2, 4999, -1), 4);
        due("dead", x.as(2, 5000, -1), -5);
        due("another woman", x.as(3, 4000, -1), 0);
        WidowsFund y = Funds.couple("");
        y.death(2, 4000);
        due("a man is no widow", y.as(0, 4000, -1), 1);
        WidowsFund z = Funds.couple("");
        z.death(2, 4000);
        z.death(0, 4000);
        due("both on one day", z.as(2, 4000, -1), -5);
        z.strike(2);
        due("she lived on", z.as(2, 4000, -1), 4);
        due("by 3", z.as(2, 4000, 3), -5);
    }

    /** "And who on the DAY ahead of that was a MEMBER, or GONE and keeps came to more than 0 for him then." */
    private static void widowOfSuchAOne() {
        WidowsFund x = Funds.four();
        x.wed(0, 2, 2000);
        x.member(0, 0, 1, 4000);
        x.death(0, 4000);
        due("joined on the day of his death", x.as(2, 4000, -1), 0);
        x.strike(2);
        x.death(0, 4001);
        due("joined the day ahead", x.as(2, 4001, -1), 4);
        WidowsFund y = Funds.couple("keeps=rate-1");
        y.gone(0, false, 4000);
        y.death(0, 4000);
        due("gone on the day of his death", y.as(2, 4000, -1), 4);
        y.strike(3);
        y.death(0, 4001);
        due("gone the day ahead, keeps 0", y.as(2, 4001, -1), 0);
        y.rate(0, 2, 3999);
        due("keeps 1", y.as(2, 4001, -1), 4);
        y.out(0, 0, 4001);
        due("struck out on his death", y.as(2, 4001, -1), 4);
        y.out(0, 0, 4000);
        due("struck out the day ahead", y.as(2, 4001, -1), 0);
        Check.act(y, "keeps=5", 4001);
        due("an act of his death", y.as(2, 4001, -1), 0);
        Check.act(y, "keeps=5", 4000);
        due("an act of the day ahead", y.as(2, 4001, -1), 4);
        WidowsFund z = Funds.couple("");
        z.gone(0, false, 4000);
        z.death(0, 4500);
        due("without a clause nothing is kept", z.as(2, 4500, -1), 0);
        due("gone is no widow's husband, but alive", z.as(0, 4499, -1), 6);
        WidowsFund w = Funds.four();
        w.wed(0, 2, 2000);
        w.death(0, 3000);
        due("no member at all", w.as(2, 3000, -1), 0);
        WidowsFund v = Funds.four();
        v.member(0, 0, 1, 1000);
        v.wed(0, 2, 1200);
        v.death(0, 1200);
        due("wed on the day he dies, as told later", v.as(2, 1200, -1), 4);
    }

    /** "Whose last WEDDING": a later one, told or not so any more, decides. */
    private static void widowByHerLastWedding() {
        WidowsFund x = Funds.couple("");
        x.death(0, 4000);
        x.wed(1, 2, 4500);
        due("until she weds", x.as(2, 4499, -1), 4);
        due("wed", x.as(2, 4500, -1), 0);
        x.death(1, 5000);
        due("the last one was no member", x.as(2, 5000, -1), 0);
        x.strike(3);
        due("the wedding is not so", x.as(2, 5000, -1), 4);
        WidowsFund y = Funds.couple("");
        y.wed(1, 2, 2900);
        y.death(0, 4000);
        due("an earlier one told later", y.as(2, 4000, -1), 4);
        y.death(1, 3500);
        due("the last one decides", y.as(2, 3999, -1), 0);
    }

    /** "ORPHAN: of an AGE below what age comes to (for no man) on the DAY, and whose father DIED on or ahead of the DAY." */
    private static void orphan() {
        WidowsFund x = Funds.couple("");
        x.person(1, 3050, 0, 2);
        x.person(0, 4100, 0, 2);
        x.person(0, 3000 + 1, -1, 2);
        x.death(0, 4000);
        due("the day ahead", x.as(4, 3999, -1), 0);
        due("on his death", x.as(4, 4000, -1), 5);
        due("17", x.as(4, 4849, -1), 5);
        due("18", x.as(4, 4850, -1), 0);
        due("not born yet", x.as(5, 4099, -1), -5);
        due("born behind his death", x.as(5, 4100, -1), 5);
        due("no father told", x.as(6, 4000, -1), 0);
        x.death(2, 4001);
        due("no father told, no mother left", x.as(6, 4001, -1), 0);
        Check.act(x, "age=9+old+rate+years+wives", 4000);
        due("9 is not below 9", x.as(4, 4000, -1), 0);
        due("born behind", x.as(5, 4999, -1), 5);
        due("8 is below 9, 9 not", x.as(5, 5000, -1), 0);
        due("the day ahead of the act he lives", x.as(4, 3999, -1), 0);
        Check.act(x, "age=0", 4500);
        due("none is below 0", x.as(5, 4500, -1), 0);
        due("the day ahead of that act", x.as(5, 4499, -1), 5);
    }

    /** "Who LIVES, is no WIDOW, no MEMBER, nor GONE": those go ahead of ORPHAN; a dead member's orphan may be any of them. */
    private static void orphanIsNoOther() {
        WidowsFund x = Funds.couple("keeps=1");
        x.person(0, 3100, 0, 2);
        x.person(1, 3200, 0, 2);
        x.person(0, 3300, 0, 2);
        x.death(0, 3500);
        x.member(4, 0, 0, 3600);
        x.wed(4, 5, 3700);
        due("an orphan", x.as(4, 3599, -1), 5);
        due("a member", x.as(4, 3600, -1), 1);
        x.gone(4, false, 3800);
        due("gone", x.as(4, 3800, -1), 6);
        due("an orphan that is wed", x.as(5, 3800, -1), 5);
        x.death(4, 3900);
        due("a widow", x.as(5, 3900, -1), 4);
        due("the day ahead", x.as(5, 3899, -1), 5);
        due("another orphan", x.as(6, 3900, -1), 5);
        due("part of the widow", x.part(5, 5, 3900, -1), -6);
    }

    /** "And was such a one the DAY ahead": as for WIDOWS. */
    private static void orphanOfSuchAOne() {
        WidowsFund x = Funds.four();
        x.person(0, 3000, 0, -1);
        x.member(0, 0, 1, 3500);
        x.death(0, 3500);
        due("joined on the day of his death", x.as(4, 3500, -1), 0);
        x.strike(1);
        x.death(0, 3501);
        due("joined the day ahead", x.as(4, 3501, -1), 5);
        x.gone(0, false, 3500);
        due("gone the day ahead", x.as(4, 3501, -1), 0);
        Check.act(x, "keeps=1", 3500);
        due("and kept", x.as(4, 3501, -1), 5);
        x.out(0, 0, 3500);
        due("and kept no more", x.as(4, 3501, -1), 0);
    }

    /** Promise 15: "a life taken for a KIND k, or one under that"; -6 for all others. */
    private static void kindsUnderKinds() {
        WidowsFund x = Funds.some();
        int[] who = {9, 0, 0, 3, 6, 8};
        int[] day = {3999, 3400, 3999, 3999, 3999, 3999};
        int[] kind = {0, 1, 3, 6, 4, 5};
        int[] age = {26, 24, 29, 28, 30, 7};
        String[] over = {"0", "01", "0123", "016", "04", "05"};
        for (int i = 0; i < 6; i++) {
            due("kind " + kind[i], x.as(who[i], day[i], -1), kind[i]);
            for (int k = 0; k < 7; k++) {
                int want = over[i].indexOf('0' + k) >= 0 ? age[i] : -6;
                due("kind " + kind[i] + " taken for " + k, x.part(who[i], k, day[i], -1), want);
            }
        }
        WidowsFund y = Funds.four();
        y.member(0, 0, 0, 5100);
        for (int k = 0; k < 7; k++) due("late taken for " + k, y.part(0, k, 5100, -1), k < 3 ? 41 : -6);
        for (int k = 0; k < 7; k++) due("dead taken for " + k, y.part(3, k, 1299, -1), -5);
        due("by 0", y.part(0, 1, 5100, 0), -6);
    }

    /** Promise 14, each what: NONE where there is none such. */
    private static void livesAsAsked() {
        WidowsFund x = Funds.couple("");
        x.death(2, 4000);
        x.wed(0, 3, 4100);
        due("0 wed", x.live(0, 3999, -1, 0), 2);
        due("0 not wed", x.live(0, 4099, -1, 0), NONE);
        due("0 wed again", x.live(0, 4100, -1, 0), 3);
        due("0 unborn", x.live(0, 0, -1, 0), NONE);
        due("3 none yet", x.live(0, 2999, -1, 3), 0);
        due("3 one on its day", x.live(0, 3000, -1, 3), 1);
        due("3 one until", x.live(0, 4099, -1, 3), 1);
        due("3 two", x.live(0, 4100, -1, 3), 2);
        due("3 hers", x.live(2, 9999, -1, 3), 1);
        due("3 of one unborn", x.live(3, 0, -1, 3), 0);
        due("4 unborn", x.live(3, 1299, -1, 4), NONE);
        due("4 dead", x.live(2, 4000, -1, 4), NONE);
        due("5 all days, ahead of birth", x.live(2, 0, -1, 5), 4000);
        due("5 all days, behind", x.live(2, 9999, -1, 5), 4000);
        due("5 never", x.live(3, 9999, -1, 5), 10000);
        due("5 by 2", x.live(2, 9999, 2, 5), 10000);
        x.death(3, 9999);
        due("5 on the last day", x.live(3, 0, -1, 5), 9999);
        x.death(0, 1000);
        due("5 on his birth", x.live(0, 0, -1, 5), 1000);
    }
}
