/** Objects that tests begin with, and a picture of all that can be asked of one. An object is used for 512 calls at most. */
final class Funds {
    private Funds() {
    }

    /** Two men 0 and 1, born in 1000 and 1100, two women 2 and 3, born in 1200 and 1300, three seats. */
    static WidowsFund four() {
        WidowsFund x = new WidowsFund();
        x.seat(3);
        x.person(0, 1000, -1, -1);
        x.person(0, 1100, -1, -1);
        x.person(1, 1200, -1, -1);
        x.person(1, 1300, -1, -1);
        return x;
    }

    /** Man 0 on seat 0 from 3000 on (entry 0), wed to 2 (entry 1), by some acts of day 0. */
    static WidowsFund couple(String acts) {
        WidowsFund x = four();
        if (!acts.isEmpty()) Check.act(x, acts, 0);
        x.member(0, 0, 1, 3000);
        x.wed(0, 2, 3000);
        return x;
    }

    /** Of everything some, in 55 calls: ten persons, 14 entries, two acts, loans, rows and steps, and an act on the tape. */
    static WidowsFund some() {
        WidowsFund x = new WidowsFund();
        x.seat(4);
        x.person(0, 1000, -1, -1);
        x.person(1, 1050, -1, -1);
        x.person(1, 1200, -1, -1);
        x.person(0, 1100, -1, -1);
        x.person(1, 1150, -1, -1);
        x.person(0, 900, -1, -1);
        x.person(1, 950, -1, -1);
        x.person(1, 3300, 0, 1);
        x.person(0, 3200, 5, 6);
        x.person(0, 1300, -1, -1);
        x.member(0, 0, 2, 3000);
        x.wed(0, 1, 3000);
        x.death(1, 3500);
        x.wed(0, 2, 3600);
        x.member(3, 1, 1, 3100);
        x.wed(3, 4, 3100);
        x.gone(3, false, 3700);
        x.member(5, 2, 3, 2950);
        x.wed(5, 6, 2960);
        x.death(5, 3800);
        x.pay(0, 30, 3050);
        x.rate(0, 1, 3400);
        x.pay(0, 7, 3450);
        x.strike(12);
        Check.act(x, "due=10*rate+5;rent=60+rate;sum=90;tax=12;vacant=3;fine=10;keeps=1", 2000);
        Check.act(x, "begun;rent=70;late=20;age=16", 3900);
        x.out(0, 2, 9000);
        x.begin(800);
        x.loan(500, 31, 4, 5);
        x.loan(300, 33, 3, 10);
        x.bad(1, 35);
        x.table(40, 77);
        x.interest(6);
        x.row();
        x.row();
        x.rows(0, 0, 45);
        x.step(0, 120);
        x.step(1, 50);
        x.told(0, 0, 11);
        x.told(-1, 0, 13);
        Check.feed(x, "vacant=8");
        return x;
    }

    /** Of everything as much as there can be, in 294 calls: 24 persons, 200 entries, 8 acts, 12 loans, 4 rows, 4 steps, 200 bytes. */
    static WidowsFund full() {
        WidowsFund x = new WidowsFund();
        x.seat(10);
        for (int p = 0; p < 24; p++) x.person(p % 2, 1000 + p, -1, -1);
        x.member(0, 0, 1, 2000);
        x.wed(0, 1, 2000);
        x.member(2, 1, 2, 2100);
        x.gone(2, false, 2200);
        x.death(5, 3000);
        x.strike(4);
        for (int i = 6; i < 200; i++) x.pay(0, i, 2000 + i);
        for (int act = 0; act < 8; act++) Check.act(x, "due=" + act, 100 * act);
        for (int i = 0; i < 12; i++) x.loan(100 + i, 30 + i, 5, 4);
        for (int row = 0; row < 4; row++) x.row();
        for (int i = 0; i < 8; i++) x.rows(3, i, 40);
        for (int i = 0; i < 4; i++) x.step(0, 100 + i);
        for (int i = 0; i < 25; i++) x.feed(0x3131313131313131L, 8);
        return x;
    }

    private static final class Answers {
        private final long[] all = new long[512];
        private int many;

        void add(long answer) {
            all[many++] = answer;
        }
    }

    /** All that some() shows, in 309 calls; the last ones of these change it. */
    static long[] pictureOfSome(WidowsFund x) {
        Answers a = new Answers();
        for (int what = 0; what < 9; what++) a.add(x.count(what));
        for (int p = 0; p < 11; p++) for (int what = 0; what < 4; what++) a.add(x.birth(p, what));
        for (int entry = 0; entry < 15; entry++) for (int what = 0; what < 5; what++) a.add(x.known(entry, what));
        int[] days = {3050, 3650, 3999};
        for (int p = 0; p < 10; p++) {
            for (int day : days) a.add(x.as(p, day, -1));
            a.add(x.live(p, 3650, -1, 5));
        }
        for (int act = 0; act < 3; act++) for (int what = 0; what < 10; what++) a.add(x.force(act, what < 3 ? what : 7 + what));
        for (int subject = 0; subject < 9; subject++) a.add(x.why(subject, 0, 9999, -1));
        for (int man = 0; man < 10; man++) a.add(x.owe(man, 37, -1, 2));
        for (int year = 30; year < 40; year++) a.add(x.due(0, year) * 10000 + x.due(1, year));
        a.add(x.chest(35, -1));
        a.add(x.chest(99, -1));
        a.add(x.chest(40, 9));
        a.add(x.value(40, -1));
        a.add(x.expect(30));
        for (int row = -1; row < 3; row++) a.add(x.shortBy(row, 40, 20));
        a.add(x.plan(40, 20, 0));
        a.add(x.plan(40, 20, 1));
        a.add(x.tried(0, 50));
        for (int p = 0; p < 11; p++) for (int what = 0; what < 3; what++) a.add(x.told(p, what, 0));
        a.add(x.told(-1, 0, 0));
        a.add(x.begin(0));
        a.add(x.interest(0));
        a.add(x.seat(1));
        for (int row = 0; row < 3; row++) a.add(x.rows(row, 9, 99));
        a.add(x.row());
        a.add(x.step(0, 100));
        a.add(x.loan(1, 1, 1, 1));
        a.add(x.bad(0, 99));
        a.add(x.bad(1, 99));
        for (int clause = 0; clause < 8; clause++) a.add(x.out(0, clause, 9999));
        for (int clause = 0; clause < 4; clause++) a.add(x.out(1, clause, 9999));
        a.add(x.person(0, 0, -1, -1));
        a.add(x.pay(0, 1, 9999));
        a.add(x.feed(0, 1));
        return java.util.Arrays.copyOf(a.all, a.many);
    }

    /** What full() shows, in 127 calls; the last ones of these change it. */
    static long[] pictureOfFull(WidowsFund x) {
        Answers a = new Answers();
        for (int what = 0; what < 9; what++) a.add(x.count(what));
        for (int p = 0; p < 25; p++) a.add(x.birth(p, 1));
        int[] entries = {0, 1, 2, 3, 4, 5, 6, 198, 199, 200};
        for (int entry : entries) for (int what = 0; what < 4; what++) a.add(x.known(entry, what));
        for (int p = 0; p < 10; p++) a.add(x.as(p, 3000, -1));
        for (int act = 0; act < 9; act++) a.add(x.force(act, 0));
        for (int loan = 0; loan < 13; loan++) a.add(x.due(loan, 45));
        a.add(x.chest(25, -1));
        a.add(x.chest(99, -1));
        a.add(x.chest(99, 199));
        a.add(x.owe(0, 30, -1, 2));
        a.add(x.rule(0, 0, 9999, -1));
        a.add(x.value(40, -1));
        for (int row = -1; row < 5; row++) a.add(x.shortBy(row, 30, 20));
        a.add(x.plan(30, 20, 0));
        a.add(x.plan(30, 20, 1));
        for (int row = 0; row < 5; row++) a.add(x.rows(row, 0, 99));
        a.add(x.tried(0, 50));
        a.add(x.count(7));
        return java.util.Arrays.copyOf(a.all, a.many);
    }
}
