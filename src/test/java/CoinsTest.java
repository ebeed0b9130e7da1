/** Promises 23 to 32: dues, taxes, arrears, vacant seats, rents, sums, the chest and loans. */
public final class CoinsTest {
    private static final int NONE = WidowsFund.NONE, BAD = WidowsFund.BAD, FULL = WidowsFund.FULL;
    private static final long NO = WidowsFund.NO;

    public static void main(String[] args) {
        refusals();
        dues();
        taxes();
        arrears();
        arrearsAtMost();
        vacantSeats();
        rents();
        begunRents();
        rentsOfOddBooks();
        sums();
        begin();
        loans();
        chest();
        Check.end("CoinsTest");
    }

    private static void due(String call, long got, long want) {
        Check.due(call, got, want);
    }

    /** Two men 0 and 1, two women 2 and 3, three seats. */
    private static WidowsFund four() {
        WidowsFund x = new WidowsFund();
        x.seat(3);
        x.person(0, 1000, -1, -1);
        x.person(0, 1100, -1, -1);
        x.person(1, 1200, -1, -1);
        x.person(1, 1300, -1, -1);
        return x;
    }

    private static void refusals() {
        WidowsFund x = four();
        due("owe of a woman", x.owe(2, 5, -1, 0), NO);
        due("owe of none", x.owe(4, 5, -1, 0), NO);
        due("owe of -1", x.owe(-1, 5, -1, 0), NO);
        due("owe year 100", x.owe(0, 100, -1, 0), NO);
        due("owe year -1", x.owe(0, -1, -1, 0), NO);
        due("owe e", x.owe(0, 5, 1, 0), NO);
        due("owe what 4", x.owe(0, 5, -1, 4), NO);
        due("owe what -1", x.owe(0, 5, -1, -1), NO);
        due("vacant year", x.vacant(100, -1), NO);
        due("vacant e", x.vacant(5, -2), NO);
        due("rent of a man", x.rent(0, 5, -1), NO);
        due("rent of none", x.rent(4, 5, -1), NO);
        due("rent year", x.rent(2, -1, -1), NO);
        due("rent e", x.rent(2, 1, 1), NO);
        due("rent", x.rent(2, 99, 0), 0);
        due("widow of a man", x.widow(0, 5, -1), NO);
        due("widow day", x.widow(2, 10000, -1), NO);
        due("widow e", x.widow(2, 5, 1), NO);
        due("widow", x.widow(2, 9999, -1), 0);
        due("sum of none", x.sum(4, 5, -1), NO);
        due("sum of -1", x.sum(-1, 5, -1), NO);
        due("sum year", x.sum(0, 100, -1), NO);
        due("sum e", x.sum(0, 5, 1), NO);
        due("sum", x.sum(0, 5, -1), 0);
        due("chest year", x.chest(100, -1), NO);
        due("chest year -1", x.chest(-1, -1), NO);
        due("chest e", x.chest(1, 1), NO);
    }

    private static void dues() {
        WidowsFund x = four();
        Check.act(x, "due=10*rate+years;vacant=1", 0);
        x.member(0, 0, 2, 3000);
        x.member(1, 1, 1, 3001);
        due("on the first day of the year", x.owe(0, 30, -1, 0), 20);
        due("a day late", x.owe(1, 30, -1, 0), 0);
        due("the year behind", x.owe(1, 31, -1, 0), 10);
        due("two years later", x.owe(0, 32, -1, 0), 22);
        x.rate(0, 0, 3250);
        due("the rate of the first day", x.owe(0, 32, -1, 0), 22);
        due("the rate later", x.owe(0, 33, -1, 0), 3);
        due("the rate by 2", x.owe(0, 33, 2, 0), 23);
        x.gone(0, false, 3400);
        due("gone", x.owe(0, 34, -1, 0), 0);
        x.death(1, 3500);
        due("dead", x.owe(1, 35, -1, 0), 0);
        due("alive", x.owe(1, 34, -1, 0), 13);
        due("no payments", x.owe(1, 34, -1, 3), 0);
    }

    private static void taxes() {
        WidowsFund x = four();
        Check.act(x, "tax=100*wives+rate", 0);
        x.member(0, 0, 1, 3000);
        x.wed(0, 2, 3000);
        due("not for the first", x.owe(0, 30, -1, 1), 0);
        x.death(2, 3010);
        x.wed(0, 3, 3010);
        due("for the second", x.owe(0, 30, -1, 1), 201);
        x.person(1, 1200, -1, -1);
        x.death(3, 3099);
        x.wed(0, 4, 3099);
        due("for the third, too", x.owe(0, 30, -1, 1), 502);
        due("not in another year", x.owe(0, 31, -1, 1), 0);
        due("known by 4", x.owe(0, 30, 4, 1), 201);
        WidowsFund y = four();
        Check.act(y, "tax=5", 0);
        y.wed(0, 2, 2000);
        y.death(2, 2500);
        y.wed(0, 3, 2999);
        y.member(0, 0, 0, 3000);
        due("no member then", y.owe(0, 29, -1, 1), 0);
        WidowsFund z = four();
        Check.act(z, "tax=5", 0);
        z.member(0, 0, 0, 2000);
        z.wed(0, 2, 3000);
        z.wed(0, 3, 2500);
        due("the first by days is none", z.owe(0, 25, -1, 1), 0);
        due("the later one is taxed", z.owe(0, 30, -1, 1), 5);
        due("the later one by 2", z.owe(0, 30, 2, 1), 0);
        z.gone(0, false, 2999);
        due("gone then", z.owe(0, 30, -1, 1), 0);
        WidowsFund w = four();
        Check.act(w, "tax=5", 0);
        w.member(0, 0, 0, 2000);
        w.wed(0, 2, 3000);
        w.death(2, 3000);
        w.wed(0, 3, 3000);
        due("two on one day", w.owe(0, 30, -1, 1), 5);
    }

    private static void arrears() {
        WidowsFund x = four();
        Check.act(x, "due=100;fine=15", 0);
        x.member(0, 0, 0, 3000);
        due("ahead", x.owe(0, 29, -1, 2), 0);
        due("first year", x.owe(0, 30, -1, 2), 115);
        due("second year", x.owe(0, 31, -1, 2), 247);
        x.pay(0, 65, 3199);
        due("paid", x.owe(0, 31, -1, 2), 172);
        due("paid is known", x.owe(0, 31, -1, 3), 65);
        due("by 1", x.owe(0, 31, 1, 2), 247);
        x.pay(0, 400, 3200);
        due("too much", x.owe(0, 32, -1, 2), -128);
        due("and less so", x.owe(0, 33, -1, 2), -28);
        due("until it is short", x.owe(0, 34, -1, 2), 82);
        x.death(0, 3500);
        due("grow when he is dead", x.owe(0, 35, -1, 2), 94);
        Check.act(x, "fine=0", 3599);
        due("by the rule of the last day", x.owe(0, 35, -1, 2), 82);
        WidowsFund z = four();
        Check.act(z, "due=3;tax=40", 0);
        z.member(0, 0, 0, 3001);
        z.wed(0, 2, 3001);
        z.death(2, 3002);
        z.wed(0, 3, 3002);
        due("tax is owed", z.owe(0, 30, -1, 2), 40);
        due("and dues", z.owe(0, 32, -1, 2), 46);
        WidowsFund y = four();
        Check.act(y, "due=3;fine=99", 0);
        y.member(0, 0, 0, 9900);
        due("cut", y.owe(0, 99, -1, 2), 5);
        y.pay(0, 3, 9950);
        due("all paid", y.owe(0, 99, -1, 2), 0);
    }

    private static void arrearsAtMost() {
        WidowsFund x = four();
        Check.act(x, "due=9999;fine=9999", 0);
        x.member(0, 0, 0, 1000);
        due("first", x.owe(0, 10, -1, 2), 9999L + 9999L * 9999 / 100);
        due("at most", x.owe(0, 20, -1, 2), 1000000000000L);
        due("at most, last", x.owe(0, 99, -1, 2), 1000000000000L);
    }

    private static void vacantSeats() {
        WidowsFund x = four();
        Check.act(x, "vacant=year+rate+old", 100);
        due("ahead of the act", x.vacant(0, -1), 0);
        due("all", x.vacant(20, -1), 60);
        x.member(0, 1, 3, 2000);
        due("one is taken", x.vacant(20, -1), 40);
        x.member(1, 0, 3, 2001);
        due("on the first day", x.vacant(20, -1), 40);
        due("two are taken", x.vacant(21, -1), 21);
        x.gone(0, false, 2200);
        due("gone", x.vacant(22, -1), 44);
        x.death(1, 2300);
        due("dead", x.vacant(23, -1), 69);
        due("by 1", x.vacant(23, 1), 46);
        due("no seats", new WidowsFund().vacant(23, -1), 0);
    }

    private static void rents() {
        WidowsFund x = four();
        Check.act(x, "rent=100+rate*20+old", 0);
        Check.act(x, "rent=1", 4026);
        x.member(0, 0, 2, 3000);
        x.wed(0, 2, 3000);
        x.death(0, 4025);
        due("ahead", x.widow(2, 4024, -1), 0);
        due("from his death on", x.widow(2, 4025, -1), 170);
        due("by the acts of the day ahead", x.widow(2, 9999, -1), 170);
        due("75 days", x.rent(2, 40, -1), 127);
        due("a year", x.rent(2, 41, -1), 170);
        due("a year ahead", x.rent(2, 39, -1), 0);
        due("another woman", x.rent(3, 41, -1), 0);
        x.death(2, 4250);
        due("half a year", x.rent(2, 42, -1), 85);
        due("dead", x.rent(2, 43, -1), 0);
        due("by 3", x.rent(2, 43, 3), 170);
        x.strike(3);
        x.wed(1, 2, 4220);
        due("wed again", x.rent(2, 42, -1), 34);
        due("known by 5", x.rent(2, 42, 5), 170);
        Check.act(x, "rent=7", 4024);
        due("an act on the day ahead", x.widow(2, 4025, -1), 7);
        x.out(2, 0, 4025);
        due("struck out on his death", x.widow(2, 4025, -1), 7);
        x.out(2, 0, 4024);
        due("struck out on the day ahead", x.widow(2, 4025, -1), 170);
    }

    private static void begunRents() {
        WidowsFund x = four();
        x.member(0, 0, 2, 3000);
        x.wed(0, 2, 3000);
        Check.act(x, "rent=100+year;rent=50 if rate=0", 2000);
        x.death(0, 4000);
        due("year of the day ahead", x.widow(2, 5000, -1), 139);
        Check.act(x, "begun;due=5", 4500);
        Check.act(x, "rent=200+year", 4400);
        due("ahead of it", x.widow(2, 4499, -1), 139);
        due("by the acts of its day, with the old year", x.widow(2, 4500, -1), 239);
        due("both in one year", x.rent(2, 45, -1), 239);
        Check.act(x, "rent=300+year", 4600);
        due("not by a later one that is not for begun rents", x.widow(2, 4700, -1), 239);
        Check.act(x, "begun;rent=old", 4650);
        due("until then", x.widow(2, 4649, -1), 239);
        due("by the latest", x.widow(2, 4650, -1), 29);
        due("half and half", x.rent(2, 46, -1), 134);
        x.out(4, 0, 4651);
        due("not yet struck out on its day", x.widow(2, 4700, -1), 29);
        x.out(4, 0, 4650);
        due("struck out on its day", x.widow(2, 4700, -1), 339);
        WidowsFund y = four();
        y.member(0, 0, 2, 3000);
        y.wed(0, 2, 3000);
        y.death(0, 4000);
        Check.act(y, "begun;rent=10", 3999);
        due("no later one", y.widow(2, 4000, -1), 10);
        Check.act(y, "begun;rent=20", 4000);
        due("one from his death on", y.widow(2, 4000, -1), 20);
    }

    private static void rentsOfOddBooks() {
        WidowsFund x = four();
        Check.act(x, "rent=100;keeps=rate", 0);
        x.member(0, 0, 1, 3000);
        x.wed(0, 2, 3500);
        x.death(0, 3400);
        due("wed behind his death, as told later", x.as(2, 3499, -1), 0);
        due("a widow from then on", x.as(2, 3500, -1), 4);
        due("her rent", x.rent(2, 35, -1), 100);
        WidowsFund y = four();
        Check.act(y, "rent=100;keeps=rate;sum=90", 0);
        y.person(0, 3000, 0, -1);
        y.member(0, 0, 1, 3000);
        y.wed(0, 2, 3000);
        y.gone(0, false, 3100);
        y.death(0, 3200);
        due("gone that keeps", y.rent(2, 32, -1), 100);
        due("no sum beside a widow", y.sum(4, 32, -1), 0);
        y.strike(0);
        due("gone without joined: no rate", y.rent(2, 32, -1), 0);
        due("no sum either", y.sum(4, 32, -1), 0);
    }

    private static void sums() {
        WidowsFund x = new WidowsFund();
        x.seat(2);
        x.person(0, 1000, -1, -1);
        x.person(1, 1000, -1, -1);
        x.person(0, 2200, 0, 1);
        x.person(1, 2300, 0, 1);
        x.person(0, 2301, 0, 1);
        x.person(0, 4100, 0, 1);
        x.person(1, 3900, 0, -1);
        x.person(1, 3900, -1, 1);
        Check.act(x, "sum=200+rate", 3000);
        x.member(0, 0, 2, 3000);
        x.wed(0, 1, 2000);
        x.death(0, 4100);
        due("a widow is left", x.sum(4, 41, -1), 0);
        due("chest with her", x.chest(41, -1), 0);
        x.death(1, 4100);
        due("below 18", x.sum(4, 41, -1), 68);
        due("18 is not below", x.sum(3, 41, -1), 0);
        due("elder", x.sum(2, 41, -1), 0);
        due("born on the day", x.sum(5, 41, -1), 67);
        due("a third one", x.sum(6, 41, -1), 67);
        due("not his", x.sum(7, 41, -1), 0);
        due("another year", x.sum(4, 40, -1), 0);
        due("chest", x.chest(41, -1), -202);
        due("chest ahead", x.chest(40, -1), 0);
        x.death(5, 4100);
        due("two", x.sum(4, 41, -1), 101);
        due("the first ones one more", x.sum(6, 41, -1), 101);
        Check.act(x, "age=2", 4100);
        due("by the age of the day of death", x.sum(4, 41, -1), 0);
        due("none below 2", x.sum(6, 41, -1), 0);
        due("to nobody", x.chest(41, -1), 0);
        Check.act(x, "sum=11;age=10", 4099);
        due("sum of the day ahead", x.sum(6, 41, -1), 0);
        Check.act(x, "age=10;sum=99", 4100);
        due("sum of the day ahead now", x.sum(6, 41, -1), 11);
        due("chest then", x.chest(99, -1), -11);
        due("chest known by 3", x.chest(99, 3), 0);
    }

    private static void begin() {
        WidowsFund x = new WidowsFund();
        due("begin -1", x.begin(-1), BAD);
        due("begin 100000", x.begin(100000), BAD);
        due("begin 99999", x.begin(99999), 0);
        due("chest", x.chest(0, -1), 99999);
        due("begin 5", x.begin(5), 99999);
        due("chest 99", x.chest(99, 0), 5);
        due("begin 0", x.begin(0), 5);
    }

    private static void loans() {
        WidowsFund x = new WidowsFund();
        due("coins 0", x.loan(0, 5, 5, 5), BAD);
        due("coins 10000", x.loan(10000, 5, 5, 5), BAD);
        due("year 100", x.loan(5, 100, 5, 5), BAD);
        due("year -1", x.loan(5, -1, 5, 5), BAD);
        due("n 0", x.loan(5, 5, 0, 5), BAD);
        due("n 31", x.loan(5, 5, 31, 5), BAD);
        due("hundredths 21", x.loan(5, 5, 5, 21), BAD);
        due("hundredths -1", x.loan(5, 5, 5, -1), BAD);
        due("due of none", x.due(0, 5), NO);
        due("bad of none", x.bad(0, 5), NONE);
        due("loan", x.loan(119, 10, 3, 10), 0);
        long[] comes = {0, -119, 11, 11, 130, 0};
        for (int i = 0; i < 6; i++) due("due in " + (9 + i), x.due(0, 9 + i), comes[i]);
        due("due year", x.due(0, 100), NO);
        due("due year -1", x.due(0, -1), NO);
        due("due loan", x.due(1, 5), NO);
        due("due loan -1", x.due(-1, 5), NO);
        due("chest", x.chest(12, -1), -97);
        due("chest behind", x.chest(13, -1), 33);
        due("bad loan", x.bad(1, -1), NONE);
        due("bad year", x.bad(0, 100), BAD);
        due("bad", x.bad(0, 13), 1);
        due("nothing back", x.due(0, 13), 0);
        due("but ahead", x.due(0, 12), 11);
        due("bad later", x.bad(0, 14), 0);
        due("the least counts", x.due(0, 13), 0);
        due("bad earlier", x.bad(0, 11), 0);
        due("nothing", x.due(0, 11), 0);
        due("bad as it is given", x.bad(0, 10), 0);
        due("it is given", x.due(0, 10), -119);
        due("chest of it", x.chest(99, -1), -119);
        for (int i = 1; i < 12; i++) due("loan " + i, x.loan(9999, 99, 30, 20), i);
        due("full", x.loan(1, 1, 1, 1), FULL);
        due("full, bad", x.loan(1, 1, 1, 21), BAD);
        due("count(4)", x.count(4), 12);
        due("chest of all", x.chest(99, -1), -119 - 11 * 9999);
        WidowsFund y = new WidowsFund();
        due("for one year", y.loan(100, 0, 1, 20), 0);
        due("all at once", y.due(0, 1), 120);
        due("bad on 99", y.bad(0, 99), 1);
        due("bad on 99 again", y.bad(0, 99), 0);
    }

    private static void chest() {
        WidowsFund x = four();
        x.begin(1000);
        Check.act(x, "due=10;vacant=3;rent=40;sum=7;tax=2;fine=100", 3000);
        x.person(0, 3900, 0, -1);
        x.person(0, 3950, 1, -1);
        x.member(0, 0, 0, 3000);
        x.member(1, 1, 0, 3100);
        x.wed(0, 2, 3000);
        x.pay(0, 25, 3050);
        x.pay(1, 35, 3100);
        due("first", x.chest(30, -1), 1000 + 25 + 6);
        due("second", x.chest(31, -1), 1031 + 35 + 3);
        x.death(0, 4000);
        x.death(1, 4000);
        due("39", x.chest(39, -1), 1069 + 8 * 3);
        due("40", x.chest(40, -1), 1093 + 9 - 40 - 7);
        due("41", x.chest(41, -1), 1055 + 9 - 40);
        due("41 by 5", x.chest(41, 5), 1069 + 10 * 3);
        x.loan(100, 41, 2, 5);
        due("41 with a loan", x.chest(41, -1), 1024 - 100);
        due("43 with a loan", x.chest(43, -1), 1024 - 62 + 10);
    }
}
