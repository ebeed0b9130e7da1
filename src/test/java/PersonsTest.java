/** Promises 1 to 15: a new object, persons, the book, and lives as they are by it. */
public final class PersonsTest {
    private static final int NONE = WidowsFund.NONE, BAD = WidowsFund.BAD, STATE = WidowsFund.STATE, FULL = WidowsFund.FULL;

    public static void main(String[] args) {
        newObject();
        seats();
        persons();
        weddings();
        deaths();
        members();
        ratesAndPays();
        goneAndBack();
        strikes();
        fullBook();
        manyWeddings();
        toldOtherwise();
        kinds();
        kindsByLaws();
        livesByDays();
        Check.end("PersonsTest");
    }

    private static void due(String call, long got, long want) {
        Check.due(call, got, want);
    }

    /** Two men 0 and 1, two women 2 and 3, three seats. */
    private static WidowsFund four() {
        WidowsFund x = new WidowsFund();
        x.seat(3);
        x.person(0, 1000, -1, -1);
        x.person(0, 1100, -1, -1);
        x.person(1, 1200, -1, -1);
        x.person(1, 1300, -1, -1);
        return x;
    }

    private static void newObject() {
        WidowsFund x = new WidowsFund();
        for (int what = 0; what <= 7; what++) due("new count(" + what + ")", x.count(what), 0);
        due("new count(8)", x.count(8), 4);
        due("new chest", x.chest(99, -1), 0);
        due("new chest by none", x.chest(0, 0), 0);
        due("new as", x.as(0, 0, -1), NONE);
        due("new value", x.value(50, -1), 0);
        due("NONE", WidowsFund.NONE, -1);
        due("BAD", WidowsFund.BAD, -2);
        due("STATE", WidowsFund.STATE, -3);
        due("FULL", WidowsFund.FULL, -4);
        due("NO", WidowsFund.NO, Long.MIN_VALUE);
    }

    private static void seats() {
        WidowsFund x = new WidowsFund();
        due("seat(10)", x.seat(10), 0);
        due("seat(-1)", x.seat(-1), BAD);
        due("seat(11)", x.seat(11), BAD);
        due("seat(1)", x.seat(1), 10);
        x.person(0, 0, -1, -1);
        due("no such seat", x.member(0, 1, 0, 5), NONE);
        due("seat(1) still", x.seat(1), 1);
        due("joined", x.member(0, 0, 0, 5), 0);
        due("seat behind joined", x.seat(2), STATE);
        due("bad seat behind joined", x.seat(11), BAD);
        x.strike(0);
        due("seat behind struck joined", x.seat(2), STATE);
        due("count(3)", x.count(3), 1);
    }

    private static void persons() {
        WidowsFund x = new WidowsFund();
        due("man", x.person(0, 0, -1, -1), 0);
        due("woman", x.person(1, 100, -1, -1), 1);
        due("child", x.person(1, 101, 0, 1), 2);
        due("father is a woman", x.person(0, 500, 1, -1), NONE);
        due("mother is a man", x.person(0, 500, -1, 0), NONE);
        due("no such father", x.person(7, 500, 3, -1), NONE);
        due("father -2", x.person(0, 500, -2, -1), NONE);
        due("no such mother", x.person(0, -5, 0, 9), NONE);
        due("sex 2", x.person(2, 500, -1, -1), BAD);
        due("sex -1", x.person(-1, 500, -1, -1), BAD);
        due("birth -1", x.person(0, -1, -1, -1), BAD);
        due("birth 10000", x.person(0, 10000, -1, -1), BAD);
        due("born with mother", x.person(0, 100, -1, 1), BAD);
        due("born with father", x.person(0, 0, 0, -1), BAD);
        due("born ahead of mother", x.person(0, 99, 0, 1), BAD);
        due("born a day behind", x.person(0, 1, 0, -1), 3);
        for (int p = 4; p < 24; p++) due("person", x.person(p % 2, 9999, -1, -1), p);
        due("one too many", x.person(0, 5, -1, -1), FULL);
        due("one too many, bad", x.person(2, 5, -1, -1), BAD);
        due("one too many, none", x.person(0, 5, 24, -1), NONE);
        due("count(0)", x.count(0), 24);
        due("sex", x.birth(2, 0), 1);
        due("birth", x.birth(2, 1), 101);
        due("father", x.birth(2, 2), 0);
        due("mother", x.birth(2, 3), 1);
        due("no father", x.birth(0, 2), NONE);
        due("no mother", x.birth(0, 3), NONE);
        due("what 4", x.birth(0, 4), NONE);
        due("what -1", x.birth(0, -1), NONE);
        due("no person", x.birth(24, 0), NONE);
        due("person -1", x.birth(-1, 0), NONE);
    }

    private static void weddings() {
        WidowsFund x = four();
        due("no such woman", x.wed(0, 4, -1), NONE);
        due("no such man", x.wed(-1, 2, 5000), NONE);
        due("wed -1", x.wed(0, 2, -1), BAD);
        due("wed 10000", x.wed(0, 2, 10000), BAD);
        due("two men", x.wed(0, 1, 5000), BAD);
        due("two women", x.wed(2, 3, 5000), BAD);
        due("the wrong way round", x.wed(2, 0, 5000), BAD);
        due("ahead of her birth", x.wed(0, 2, 1199), STATE);
        due("on her birth", x.wed(0, 2, 1200), 0);
        due("he is wed", x.wed(0, 3, 1300), STATE);
        due("she is wed", x.wed(1, 2, 1300), STATE);
        due("others", x.wed(1, 3, 1300), 1);
        due("wed to", x.live(0, 1200, -1, 0), 2);
        due("wed to him", x.live(2, 9999, -1, 0), 0);
        due("not wed yet", x.live(0, 1199, -1, 0), NONE);
        x.death(2, 3000);
        due("not wed any more", x.live(0, 3000, -1, 0), NONE);
        due("still wed the day ahead", x.live(0, 2999, -1, 0), 2);
        due("a dead woman", x.wed(0, 2, 3000), STATE);
        x.death(1, 3000);
        due("a second one on the day", x.wed(0, 3, 3000), 4);
        due("her second", x.live(3, 3000, -1, 3), 2);
        due("known which", x.known(4, 0), 1);
        due("known man", x.known(4, 1), 0);
        due("known woman", x.known(4, 2), 3);
        due("known day", x.known(4, 3), 3000);
        due("known rate", x.known(4, 4), NONE);
    }

    private static void deaths() {
        WidowsFund x = four();
        due("no such", x.death(4, -1), NONE);
        due("day -1", x.death(0, -1), BAD);
        due("day 10000", x.death(0, 10000), BAD);
        due("ahead of birth", x.death(0, 999), STATE);
        due("never", x.live(0, 0, -1, 5), 10000);
        due("death", x.death(0, 5000), 0);
        due("dies", x.live(0, 0, -1, 5), 5000);
        due("dead", x.death(0, 5000), STATE);
        due("dead later", x.death(0, 6000), STATE);
        due("told otherwise, earlier", x.death(0, 4999), 1);
        due("dies earlier", x.live(0, 9999, -1, 5), 4999);
        due("dies by 1", x.live(0, 0, 1, 5), 5000);
        due("dies by 0", x.live(0, 0, 0, 5), 10000);
        due("on the day of birth", x.death(1, 1100), 2);
        due("never lived", x.as(1, 1100, -1), -5);
        due("known which", x.known(0, 0), 0);
        due("known person", x.known(2, 1), 1);
        due("known other", x.known(0, 2), NONE);
        due("known day", x.known(1, 3), 4999);
        due("known rate", x.known(0, 4), NONE);
    }

    private static void members() {
        WidowsFund x = four();
        due("no such man", x.member(4, 0, 0, 2000), NONE);
        due("seat 3", x.member(2, 3, 9, 2000), NONE);
        due("seat -1", x.member(0, -1, 0, 2000), NONE);
        due("a woman", x.member(2, 0, 0, 2000), BAD);
        due("rate 4", x.member(0, 0, 4, 2000), BAD);
        due("rate -1", x.member(0, 0, -1, 2000), BAD);
        due("day 10000", x.member(0, 0, 0, 10000), BAD);
        due("unborn", x.member(0, 0, 0, 999), STATE);
        due("joined", x.member(0, 0, 3, 3000), 0);
        due("again", x.member(0, 1, 3, 3001), STATE);
        due("taken", x.member(1, 0, 0, 3000), STATE);
        due("not taken ahead", x.member(1, 0, 0, 2999), 1);
        due("both have it", x.live(0, 3000, -1, 1), x.live(1, 3000, -1, 1));
        due("seat", x.live(0, 3000, -1, 1), 0);
        due("rate", x.live(0, 3000, -1, 2), 3);
        due("no seat ahead", x.live(0, 2999, -1, 1), NONE);
        due("no rate ahead", x.live(0, 2999, -1, 2), NONE);
        due("no seat of a woman", x.live(2, 3000, -1, 1), NONE);
        due("known which", x.known(0, 0), 2);
        due("known man", x.known(0, 1), 0);
        due("known seat", x.known(0, 2), 0);
        due("known day", x.known(0, 3), 3000);
        due("known rate", x.known(0, 4), 3);
        due("known what 5", x.known(0, 5), NONE);
        due("known what -1", x.known(0, -1), NONE);
        due("known 2", x.known(2, 0), NONE);
        due("known -1", x.known(-1, 0), NONE);
        due("seats stay of the dead", x.death(0, 4000), 2);
        due("seat of the dead", x.live(0, 5000, -1, 1), 0);
        due("age of the dead", x.live(0, 5000, -1, 4), NONE);
    }

    private static void ratesAndPays() {
        WidowsFund x = four();
        x.member(0, 0, 1, 3000);
        due("rate of none", x.rate(4, 5, -1), NONE);
        due("rate of a woman", x.rate(2, 1, 3000), BAD);
        due("rate 4", x.rate(0, 4, 3000), BAD);
        due("rate -1", x.rate(0, -1, 3000), BAD);
        due("rate day", x.rate(0, 1, -1), BAD);
        due("rate of no member", x.rate(1, 1, 3000), STATE);
        due("rate ahead", x.rate(0, 1, 2999), STATE);
        due("rate", x.rate(0, 2, 3000), 1);
        due("rate on the day", x.live(0, 3000, -1, 2), 2);
        due("rate later", x.rate(0, 0, 3500), 2);
        due("rate then", x.live(0, 3499, -1, 2), 2);
        due("rate from then on", x.live(0, 3500, -1, 2), 0);
        due("known rate", x.known(2, 2), 0);
        due("known rate's which", x.known(2, 0), 3);
        due("known rate's what 4", x.known(2, 4), NONE);
        due("pay of none", x.pay(-1, 0, -1), NONE);
        due("pay of a woman", x.pay(2, 5, 3000), BAD);
        due("pay 0", x.pay(0, 0, 3000), BAD);
        due("pay 10000", x.pay(0, 10000, 3000), BAD);
        due("pay day", x.pay(0, 5, 10000), BAD);
        due("pay of no member", x.pay(1, 5, 3000), STATE);
        due("pay 9999", x.pay(0, 9999, 3000), 3);
        due("pay 1", x.pay(0, 1, 9999), 4);
        due("known paid", x.known(3, 2), 9999);
        due("known paid's which", x.known(3, 0), 6);
        due("struck joined", x.strike(0), 5);
        due("no rate of who never joined", x.live(0, 3500, -1, 2), NONE);
    }

    private static void goneAndBack() {
        WidowsFund x = four();
        x.member(0, 0, 1, 3000);
        due("gone none", x.gone(9, false, -1), NONE);
        due("gone woman", x.gone(3, false, 3000), BAD);
        due("gone day", x.gone(0, true, 10000), BAD);
        due("back of a member", x.gone(0, true, 3100), STATE);
        due("gone of no member", x.gone(1, false, 3100), STATE);
        due("gone", x.gone(0, false, 3100), 1);
        due("as gone", x.as(0, 3100, -1), 6);
        due("as member", x.as(0, 3099, -1), 1);
        due("gone again", x.gone(0, false, 3200), STATE);
        due("pays no more", x.pay(0, 5, 3100), STATE);
        due("no joining of one gone", x.member(0, 1, 1, 3200), STATE);
        due("the seat is free", x.member(1, 0, 0, 3200), 2);
        due("no way back", x.gone(0, true, 3300), STATE);
        due("back ahead of him", x.gone(0, true, 3150), 3);
        due("member", x.as(0, 3150, -1), 1);
        due("gone in between", x.as(0, 3149, -1), 6);
        due("known gone", x.known(1, 0), 4);
        due("known back", x.known(3, 0), 5);
        due("known back's other", x.known(3, 2), NONE);
        due("struck joined", x.strike(0), 4);
        due("back without joined", x.as(0, 3150, -1), 0);
        due("gone without joined", x.as(0, 3149, -1), 6);
        due("back without a seat", x.gone(0, true, 3120), 5);
        due("is no member by that", x.as(0, 3120, -1), 0);
    }

    private static void strikes() {
        WidowsFund x = four();
        due("strike none", x.strike(0), NONE);
        due("strike -1", x.strike(-1), NONE);
        x.death(0, 3000);
        due("strike", x.strike(0), 1);
        due("strike again", x.strike(0), STATE);
        due("strike a struck one", x.strike(1), STATE);
        due("strike 2", x.strike(2), NONE);
        due("lives", x.as(0, 3000, -1), 0);
        due("dead by 1", x.as(0, 3000, 1), -5);
        due("lives by 2", x.as(0, 3000, 2), 0);
        due("by 3", x.as(0, 3000, 3), NONE);
        due("by -2", x.as(0, 3000, -2), NONE);
        due("known", x.known(1, 0), 7);
        due("known entry", x.known(1, 1), 0);
        due("known other", x.known(1, 2), NONE);
        due("known day", x.known(1, 3), NONE);
        due("known rate", x.known(1, 4), NONE);
        due("known of the struck", x.known(0, 3), 3000);
        due("count(1)", x.count(1), 2);
    }

    private static void fullBook() {
        WidowsFund x = four();
        x.member(0, 0, 1, 2000);
        for (int i = 1; i < 200; i++) due("pay", x.pay(0, 1, 2000 + i), i);
        due("full pay", x.pay(0, 1, 2500), FULL);
        due("full pay of no member", x.pay(1, 1, 2500), STATE);
        due("full wed", x.wed(0, 2, 2500), FULL);
        due("full death", x.death(0, 2500), FULL);
        due("full member", x.member(1, 1, 0, 2500), FULL);
        due("full rate", x.rate(0, 1, 2500), FULL);
        due("full gone", x.gone(0, false, 2500), FULL);
        due("full strike", x.strike(5), FULL);
        due("full strike of none", x.strike(200), NONE);
        due("count(1)", x.count(1), 200);
        due("by 200", x.live(0, 2500, 200, 1), 0);
        due("by 201", x.live(0, 2500, 201, 1), NONE);
        due("paid", x.owe(0, 20, -1, 3), 99);
        due("paid then", x.owe(0, 21, 150, 3), 50);
    }

    /** Each wedding is told ahead of the ones that were told: on its day nobody is wed yet. */
    private static void manyWeddings() {
        WidowsFund x = four();
        for (int i = 0; i < 200; i++) due("wed", x.wed(0, 2, 9000 - i), i);
        due("full", x.wed(0, 2, 8000), FULL);
        due("his", x.live(0, 9999, -1, 3), 200);
        due("hers", x.live(2, 9999, -1, 3), 200);
        due("hers then", x.live(2, 8801, -1, 3), 1);
        due("hers by 7", x.live(2, 9999, 7, 3), 7);
        due("wed to", x.live(2, 8801, -1, 0), 0);
    }

    /** A wedding ahead of a wedding that was told first: the day counts, not the telling. */
    private static void toldOtherwise() {
        WidowsFund x = four();
        x.wed(0, 2, 4000);
        due("an earlier wedding", x.wed(0, 3, 3000), 1);
        due("wed to the first", x.live(0, 3999, -1, 0), 3);
        due("wed to the later", x.live(0, 4000, -1, 0), 2);
        due("she goes by her last", x.live(3, 4000, -1, 0), 0);
        due("known by 1", x.live(0, 3999, 1, 0), NONE);
        due("weddings", x.live(0, 4000, -1, 3), 2);
        x.member(0, 0, 1, 5000);
        x.gone(0, false, 4999);
        due("again", x.as(0, 5000, -1), 3);
        due("not gone ahead", x.count(1), 3);
    }

    private static void kinds() {
        WidowsFund x = four();
        x.person(0, 3000, 0, 2);
        x.person(1, 3100, 0, 2);
        due("unborn", x.as(4, 2999, -1), -5);
        due("no person", x.as(6, 2999, -1), NONE);
        due("as day", x.as(0, 10000, -1), BAD);
        due("as day and e", x.as(0, 10000, 1), NONE);
        x.wed(0, 2, 2900);
        x.member(0, 0, 0, 2900);
        x.death(0, 4000);
        due("no widow ahead", x.as(2, 3999, -1), 0);
        due("widow", x.as(2, 4000, -1), 4);
        due("orphan", x.as(4, 4000, -1), 5);
        due("orphan until 18", x.as(4, 4799, -1), 5);
        due("no orphan at 18", x.as(4, 4800, -1), 0);
        due("no orphan ahead", x.as(5, 3999, -1), 0);
        x.wed(1, 2, 4500);
        due("wed again", x.as(2, 4500, -1), 0);
        due("widow until", x.as(2, 4499, -1), 4);
        x.death(1, 5000);
        due("of no member no widow", x.as(2, 5000, -1), 0);
        due("part of another kind", x.part(2, 4, 4500, -1), -6);
        due("part", x.part(2, 4, 4400, -1), 32);
        due("part of life", x.part(2, 0, 4400, -1), 32);
        due("part of the dead", x.part(0, 0, 4400, -1), -5);
        due("part k 7", x.part(2, 7, 4400, -1), NONE);
        due("part k -1", x.part(2, -1, 4400, -1), NONE);
        due("part day", x.part(2, 0, 10000, -1), BAD);
        due("part e", x.part(2, 0, 10000, 99), NONE);
        due("part person", x.part(9, 0, 1, -1), NONE);
        due("part member", x.part(0, 1, 3000, -1), 20);
        due("part no late", x.part(0, 2, 3000, -1), -6);
        due("member is no widow", x.part(0, 4, 3000, -1), -6);
        due("member is a life", x.part(0, 0, 3000, -1), 20);
    }

    private static void kindsByLaws() {
        WidowsFund x = four();
        due("act", Check.act(x, "late=20;late=30 if rate=3", 0), 0);
        due("act", Check.act(x, "late=90", 6000), 1);
        x.person(0, 1000, -1, -1);
        x.member(0, 0, 0, 3099);
        due("20 is not above 20", x.as(0, 3100, -1), 1);
        x.member(1, 1, 0, 3200);
        due("21 is above 20", x.as(1, 3200, -1), 2);
        due("by the day of joining", x.as(1, 6000, -1), 2);
        x.member(4, 2, 3, 4000);
        due("30 is not above 30", x.as(4, 4000, -1), 1);
        x.wed(1, 2, 3300);
        due("late still", x.as(1, 3300, -1), 2);
        x.death(2, 3400);
        x.wed(1, 3, 3400);
        due("again ahead of late", x.as(1, 3400, -1), 3);
        due("again is late", x.part(1, 2, 3400, -1), 23);
        due("again is a member", x.part(1, 1, 3400, -1), 23);
        due("late is no again", x.part(1, 3, 3399, -1), -6);
        x.gone(1, false, 3500);
        due("gone", x.as(1, 3500, -1), 6);
        due("gone is under member", x.part(1, 1, 3500, -1), 24);
        due("gone is not late", x.part(1, 2, 3500, -1), -6);
        x.death(1, 3600);
        due("gone that does not keep", x.as(3, 3600, -1), 0);
        Check.act(x, "keeps=rate+1;age=20+rate", 3599);
        due("gone that keeps", x.as(3, 3600, -1), 4);
        x.out(2, 0, 3599);
        due("keeps is struck out", x.as(3, 3600, -1), 0);
        WidowsFund z = four();
        z.member(0, 0, 0, 5200);
        due("42 is above 40, told first of all", z.as(0, 5200, -1), 2);
        z.member(1, 1, 0, 5199);
        due("40 is not above 40", z.as(1, 5200, -1), 1);
        WidowsFund y = four();
        y.person(1, 3000, 1, -1);
        y.member(1, 0, 1, 3000);
        y.death(1, 3500);
        Check.act(y, "age=old+rate+wives+1", 4000);
        due("age for no man", y.as(4, 4000, -1), 0);
        due("age for no man ahead", y.as(4, 3999, -1), 5);
        due("the same day counts", y.as(4, 3500, -1), 5);
        due("not ahead", y.as(4, 3499, -1), 0);
    }

    private static void livesByDays() {
        WidowsFund x = four();
        due("live what 6", x.live(0, 0, -1, 6), NONE);
        due("live what -1", x.live(0, -1, -1, -1), NONE);
        due("live day", x.live(0, -1, -1, 0), BAD);
        due("live e", x.live(0, -1, 1, 0), NONE);
        due("live person", x.live(4, 0, -1, 5), NONE);
        due("age", x.live(0, 1099, -1, 4), 0);
        due("age 1", x.live(0, 1100, -1, 4), 1);
        due("unborn age", x.live(0, 999, -1, 4), NONE);
        due("weddings", x.live(0, 1100, -1, 3), 0);
        x.member(0, 0, 1, 2000);
        x.gone(0, false, 2100);
        x.member(1, 0, 1, 2200);
        x.gone(1, false, 2300);
        x.gone(0, true, 2400);
        due("his seat", x.live(0, 2400, -1, 1), 0);
        x.strike(1);
        x.strike(4);
        x.gone(0, false, 2500);
        x.gone(0, true, 2600);
        due("back at last", x.as(0, 2600, -1), 1);
        due("by 2 gone", x.as(0, 2600, 2), 6);
    }
}
