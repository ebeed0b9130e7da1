import java.util.Random;

/** Runs of calls from a fixed seed, mostly sensible and some wrong, on the class and on PlainModel: both answer alike. */
public final class ModelTest {
    /** The document promises nothing behind the 512th call; a round takes 50 at most. */
    private static final int LAST_CALL = 512, ROUND = 50;

    private final Random random;
    private final WidowsFund x = new WidowsFund();
    private final PlainModel m = new PlainModel();
    private final int run;
    private int calls;

    private ModelTest(int run) {
        this.run = run;
        random = new Random(7919L * run + 13);
    }

    public static void main(String[] args) {
        int runs = args.length > 1 ? Integer.parseInt(args[1]) : 300;
        for (int run = 0; run < runs; run++) new ModelTest(run).play();
        faults(runs * 10);
        Check.end("ModelTest");
    }

    private static void faults(int many) {
        ModelTest maker = new ModelTest(1000003);
        for (int i = 0; i < many; i++) {
            String text = maker.spoilt(maker.actText());
            WidowsFund y = new WidowsFund();
            Check.feed(y, text);
            int fault = PlainModel.faultOf(text);
            Check.due("fault of " + text, y.text(5), fault < 0 ? 0 : -10 - fault);
        }
    }

    private void play() {
        both("seat", x.seat(3), m.seat(3));
        int[] births = {500, 800, 1000, 1200, 1500, 1800, 2200};
        for (int i = 0; i < 6; i++) person(i % 2, births[random.nextInt(births.length)] + i);
        if (run % 3 > 0) startRich();
        while (calls <= LAST_CALL - ROUND) {
            int ahead = calls;
            if (random.nextInt(100) < 60) tell();
            else ask();
            if (calls == ahead) calls++;
            if (calls > ahead + ROUND) Check.due("calls of a round", calls - ahead, ROUND);
        }
    }

    /** Rules for all subjects, three couples with children, and some deaths, so that coins flow from the start. */
    private void startRich() {
        String[] laws = {"due=5+rate*7;rent=90+rate*20+years;sum=101+old;tax=30+wives;vacant=7;fine=10;keeps=rate",
            "due=20-years if rate>0;rent=2*old;sum=77;tax=year;fine=3;keeps=1;age=12",
            "rent=50 if wives<2;rent=33;due=40;vacant=2;sum=10+rate;late=24;tax=8*rate"};
        feed(laws[random.nextInt(3)]);
        int from = 2500 + random.nextInt(600);
        both("rich act", x.text(from), m.text(from));
        for (int man = 0; man < 6; man += 2) {
            int day = 3000 + random.nextInt(300);
            both("rich member", x.member(man, man / 2, random(4), day), m.member(man, man / 2, drawn, day));
            both("rich wed", x.wed(man, man + 1, day - 20), m.wed(man, man + 1, day - 20));
            for (int child = 0; child < 2; child++) {
                int birth = 2600 + random.nextInt(1200);
                both("rich child", x.person(child, birth, man, man + 1), m.person(child, birth, man, man + 1));
            }
            int end = 3500 + random.nextInt(700);
            int who = random.nextInt(3) == 0 ? man : man + 1;
            if (random.nextInt(3) > 0) both("rich death", x.death(who, end), m.death(who, end));
            if (random.nextInt(3) > 0) both("rich second", x.death(man, end + 50), m.death(man, end + 50));
        }
    }

    private int drawn;

    private int random(int n) {
        drawn = random.nextInt(n);
        return drawn;
    }

    private void both(String call, long got, long want) {
        calls++;
        Check.due("run " + run + " " + call, got, want);
    }

    // ---- what is drawn

    private int upTo(int n) {
        return random.nextInt(n + 1);
    }

    private int odd(int usual) {
        int[] wrong = {-1, -2, 10000, 100, 24, 200, Integer.MIN_VALUE, Integer.MAX_VALUE, 0, 1};
        return random.nextInt(60) == 0 ? wrong[random.nextInt(wrong.length)] : usual;
    }

    private int who() {
        return odd(random.nextInt(Math.max(1, m.count(0))));
    }

    private int ofSex(int sex) {
        int p = who();
        for (int i = 0; i < 6 && m.birth(p, 0) != sex; i++) p = who();
        return p;
    }

    /** Days crowd around the years 30 to 45, so that lives meet, and around what was told, where things change. */
    private int day() {
        int kind = random.nextInt(20);
        if (kind < 9) return odd(3000 + random.nextInt(1500));
        if (kind < 12) return odd(100 * (30 + random.nextInt(15)) + (random.nextBoolean() ? 0 : 99));
        if (kind < 16) return near(m.known(random.nextInt(Math.max(1, m.count(1))), 3));
        if (kind < 18) return near(m.birth(random.nextInt(Math.max(1, m.count(0))), 1) + 100 * random.nextInt(45));
        if (kind < 19) return near(m.force(random.nextInt(8), 0));
        return odd(random.nextInt(10000));
    }

    private int near(int day) {
        return odd(Math.max(0, Math.min(9999, day + random.nextInt(3) - 1)));
    }

    private int year() {
        return odd(random.nextInt(10) < 8 ? 28 + random.nextInt(20) : random.nextInt(100));
    }

    private int e() {
        return odd(random.nextInt(3) > 0 ? -1 : random.nextInt(m.count(1) + 2));
    }

    private int subject() {
        return odd(random.nextInt(9));
    }

    private String one(int depth) {
        String[] names = {"rate", "years", "old", "wives", "year"};
        int kind = random.nextInt(10);
        if (kind < 4) return "" + (random.nextInt(6) == 0 ? random.nextInt(10000) : random.nextInt(60));
        if (kind < 8 || depth == 0) return names[random.nextInt(5)];
        return "(" + sumText(depth - 1) + ")";
    }

    private String sumText(int depth) {
        StringBuilder text = new StringBuilder(one(depth));
        while (random.nextInt(3) == 0) text.append("+-*".charAt(random.nextInt(3))).append(one(depth));
        return text.toString();
    }

    private String actText() {
        String[] subjects = {"due", "rent", "sum", "tax", "vacant", "fine", "keeps", "age", "late"};
        StringBuilder text = new StringBuilder(random.nextInt(4) == 0 ? "begun;" : "");
        int clauses = 1 + random.nextInt(5);
        for (int i = 0; i < clauses; i++) {
            if (i > 0) text.append(';');
            text.append(subjects[random.nextInt(9)]).append('=').append(sumText(2));
            if (random.nextInt(3) > 0) continue;
            text.append(" if ");
            do {
                text.append(sumText(1)).append("<=>".charAt(random.nextInt(3))).append(sumText(1));
                if (random.nextInt(3) > 0) break;
                text.append(" and ");
            } while (true);
        }
        return text.length() > 190 ? "due=5" : text.toString();
    }

    private String spoilt(String text) {
        StringBuilder it = new StringBuilder(text);
        int at = random.nextInt(it.length());
        String signs = "()=<>+-*; 0123456789abdefgiklnorstuvwxy";
        switch (random.nextInt(5)) {
            case 0: it.deleteCharAt(at); break;
            case 1: it.insert(at, signs.charAt(random.nextInt(signs.length()))); break;
            case 2: it.setCharAt(at, signs.charAt(random.nextInt(signs.length()))); break;
            case 3: it.setLength(at); break;
            default: it.insert(at, text.charAt(random.nextInt(text.length()))); break;
        }
        return it.toString();
    }

    private void feed(String text) {
        for (int i = 0; i < text.length(); i += 8) {
            int n = Math.min(8, text.length() - i);
            long w = random.nextLong();
            for (int k = 0; k < n; k++) w = w << 8 | text.charAt(i + k);
            both("feed", x.feed(w, n), m.feed(w, n));
        }
    }

    private void person(int sex, int birth) {
        int father = random.nextInt(2) == 0 ? -1 : ofSex(0);
        int mother = random.nextInt(2) == 0 ? -1 : ofSex(1);
        both("person", x.person(sex, birth, father, mother), m.person(sex, birth, father, mother));
    }

    // ---- what is called

    private void tell() {
        int a = ofSex(0);
        int day = day();
        int pick = random.nextInt(100);
        if (pick < 12) {
            person(odd(random.nextInt(2)), odd(random.nextInt(3) == 0 ? random.nextInt(2500) : 2500 + random.nextInt(1800)));
        } else if (pick < 26) {
            int b = random.nextInt(20) == 0 ? who() : ofSex(1);
            both("wed(" + a + ", " + b + ", " + day + ")", x.wed(a, b, day), m.wed(a, b, day));
        } else if (pick < 36) {
            int p = who();
            both("death(" + p + ", " + day + ")", x.death(p, day), m.death(p, day));
        } else if (pick < 50) {
            int seat = odd(random.nextInt(3));
            int rate = odd(random.nextInt(4));
            both("member", x.member(a, seat, rate, day), m.member(a, seat, rate, day));
        } else if (pick < 56) {
            int rate = odd(random.nextInt(4));
            both("rate", x.rate(a, rate, day), m.rate(a, rate, day));
        } else if (pick < 64) {
            boolean back = random.nextBoolean();
            both("gone", x.gone(a, back, day), m.gone(a, back, day));
        } else if (pick < 70) {
            int coins = odd(1 + random.nextInt(300));
            both("pay", x.pay(a, coins, day), m.pay(a, coins, day));
        } else if (pick < 76) {
            int entry = odd(random.nextInt(Math.max(1, m.count(1))));
            both("strike(" + entry + ")", x.strike(entry), m.strike(entry));
        } else if (pick < 84) {
            if (m.count(7) == 0) feed(random.nextInt(8) == 0 ? spoilt(actText()) : actText());
            if (random.nextInt(4) > 0) both("text", x.text(day), m.text(day));
        } else {
            tellMore(random.nextInt(10), day);
        }
    }

    private void tellMore(int pick, int day) {
        int year = year();
        if (pick == 0) {
            int act = odd(random.nextInt(8));
            int clause = odd(random.nextInt(4));
            if (random.nextInt(3) == 0) both("out", x.out(act, clause, day), m.out(act, clause, day));
        } else if (pick == 1) {
            int coins = odd(random.nextInt(3000));
            both("begin", x.begin(coins), m.begin(coins));
        } else if (pick == 2) {
            int coins = odd(random.nextInt(900));
            int n = odd(1 + random.nextInt(10));
            int hundredths = odd(random.nextInt(21));
            both("loan", x.loan(coins, year, n, hundredths), m.loan(coins, year, n, hundredths));
        } else if (pick == 3) {
            int loan = odd(random.nextInt(6));
            both("bad", x.bad(loan, year), m.bad(loan, year));
        } else if (pick == 4) {
            int age = odd(random.nextInt(100));
            int n = odd(random.nextInt(random.nextBoolean() ? 60 : 1001));
            both("table", x.table(age, n), m.table(age, n));
        } else if (pick == 5) {
            int n = odd(random.nextInt(21));
            both("interest", x.interest(n), m.interest(n));
        } else if (pick == 6) {
            if (random.nextInt(3) == 0) both("row", x.row(), m.row());
        } else if (pick == 7) {
            int row = odd(random.nextInt(3));
            int p = who();
            both("rows", x.rows(row, p, year), m.rows(row, p, year));
        } else if (pick == 8) {
            int[] subjects = {0, 1, 3};
            int subject = odd(subjects[random.nextInt(3)]);
            int hundredths = odd(random.nextInt(301));
            if (random.nextInt(3) == 0) both("step", x.step(subject, hundredths), m.step(subject, hundredths));
        } else {
            int many = odd(random.nextInt(11));
            both("seat", x.seat(many), m.seat(many));
        }
    }

    private void ask() {
        int p = who();
        int man = random.nextInt(8) == 0 ? -1 : ofSex(0);
        int day = day();
        int year = year();
        int e = e();
        String by = "(" + p + " " + man + ", day " + day + ", year " + year + ", e " + e + ")";
        int what = odd(random.nextInt(6));
        switch (random.nextInt(28)) {
            case 0: both("birth", x.birth(p, what), m.birth(p, what)); break;
            case 1: both("known", x.known(year, what), m.known(year, what)); break;
            case 2: case 3: both("as" + by, x.as(p, day, e), m.as(p, day, e)); break;
            case 4: both("live" + by, x.live(p, day, e, what), m.live(p, day, e, what)); break;
            case 5:
                for (int k = -1; k <= 7; k++) both("part " + k + by, x.part(p, k, day, e), m.part(p, k, day, e));
                break;
            case 6: both("force", x.force(what, 10 + e), m.force(what, 10 + e)); break;
            case 7: case 8: askRules(man, day, e, by); break;
            case 9: case 10:
                for (int q = 0; q < m.count(0); q++) {
                    both("owe " + what + " of " + q + by, x.owe(q, year, e, what), m.owe(q, year, e, what));
                }
                break;
            case 11: both("vacant" + by, x.vacant(year, e), m.vacant(year, e)); break;
            case 12: case 13:
                for (int w = 0; w < m.count(0); w++) both("rent of " + w + by, x.rent(w, year, e), m.rent(w, year, e));
                break;
            case 14:
                for (int w = 0; w < m.count(0); w++) both("widow " + w + by, x.widow(w, day, e), m.widow(w, day, e));
                break;
            case 15:
                for (int c = 0; c < m.count(0); c++) both("sum of " + c + by, x.sum(c, year, e), m.sum(c, year, e));
                break;
            case 16: both("chest" + by, x.chest(year, e), m.chest(year, e)); break;
            case 17: both("due", x.due(what, year), m.due(what, year)); break;
            case 18: both("own" + by, x.own(year, day, e, what), m.own(year, day, e, what)); break;
            case 19: both("alive", x.alive(year, what * 7), m.alive(year, what * 7)); break;
            case 20: both("expect", x.expect(year), m.expect(year)); break;
            case 21: both("worth", x.worth(day, year), m.worth(day, year)); break;
            case 22: both("value" + by, x.value(year, e), m.value(year, e)); break;
            case 23:
                for (int row = -1; row <= m.count(5); row++) {
                    both("shortBy " + row + by, x.shortBy(row, year, p + 1), m.shortBy(row, year, p + 1));
                }
                break;
            case 24: both("plan" + by, x.plan(year, p + 1, what % 2), m.plan(year, p + 1, what % 2)); break;
            case 25:
                if (m.count(7) == 0) feed(actText());
                both("tried" + by, x.tried(day, year), m.tried(day, year));
                break;
            case 26: askToldYear(p, what, year, e); break;
            default: both("count", x.count(what), m.count(what)); break;
        }
    }

    private void askRules(int man, int day, int e, String by) {
        int subject = subject();
        both("rule " + subject + by, x.rule(subject, man, day, e), m.rule(subject, man, day, e, 0));
        both("why " + subject + by, x.why(subject, man, day, e), m.rule(subject, man, day, e, 1));
        both("quarrel " + subject + by, x.quarrel(subject, man, day, e), m.rule(subject, man, day, e, 2));
    }

    private void askToldYear(int p, int what, int year, int e) {
        long coins = odd(random.nextInt(200));
        both("told", x.told(p, what % 3, coins), m.told(p, what % 3, coins));
        both("told chest", x.told(-1, what, coins), m.told(-1, what, coins));
        both("check", x.check(year, e), m.check(year, e));
        both("judge", x.judge(year, e), m.judge(year, e));
        both("check again", x.check(year, e), m.check(year, e));
    }
}
