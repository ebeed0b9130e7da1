/** Terms 6 and 7, promises 40 to 49: each sentence on an edge has a test of its own, which bears its words. */
public final class TrialEdgesTest {
    private static final int NONE = WidowsFund.NONE, BAD = WidowsFund.BAD, FULL = WidowsFund.FULL;
    private static final long NO = WidowsFund.NO;

    public static void main(String[] args) {
        rowsFrom0To3();
        deathsOfARow();
        belowZero();
        yearsOfTheTrial();
        chestBehindYAsItIs();
        deathOnDay50();
        deathOfWhoLivesThen();
        deathsOneBehindTheOther();
        deathsOfYearsUpToY();
        duesAndTaxAsTheyCome();
        emptySeatsOfTheDead();
        stepsFrom0To3();
        stepTimesHundredthsCut();
        stepFromTheYearBehindOn();
        stepOfItsSubjectAlone();
        planByWhichNoRowIsShort();
        planOfWhoPaysLeast();
        planAsOnTheLastDay();
        planOfTheFewestSteps();
        planOfTheLeastSet();
        planOfOneSubjectOne();
        planWithoutMembers();
        triedFromADayOn();
        triedGoesAheadOfLikeDays();
        triedAndAllIsAsBefore();
        triedThatIsNoAct();
        toldAndWhatWasTold();
        checkedInOrder();
        checkedByYearAndE();
        judgedNumbersThatChanged();
        judgedOfAll();
        judgedBeyondWhatCanBeTold();
        countsOfAll();
        Check.end("TrialEdgesTest");
    }

    private static void due(String call, long got, long want) {
        Check.due(call, got, want);
    }

    /** A member 0 (of 1000, rate 1) on the one seat from 3000 on, his wife 1 (of 1000), his child 2 (of 3900), a man 3. */
    private static WidowsFund family(String acts) {
        WidowsFund x = new WidowsFund();
        x.seat(1);
        x.person(0, 1000, -1, -1);
        x.person(1, 1000, -1, -1);
        x.person(0, 3900, 0, 1);
        x.person(0, 1000, -1, -1);
        x.member(0, 0, 1, 3000);
        x.wed(0, 1, 3000);
        if (!acts.isEmpty()) Check.act(x, acts, 0);
        return x;
    }

    // ---- ROWS

    /** "ROWS are numbered from 0 on, 4 at most". */
    private static void rowsFrom0To3() {
        WidowsFund x = family("");
        due("none yet", x.rows(0, 0, 5), NONE);
        for (int row = 0; row < 4; row++) {
            due("row", x.row(), row);
            due("the next is not there", x.rows(row + 1, 0, 5), NONE);
            due("nor short", x.shortBy(row + 1, 5, 5), NONE);
            due("this one is", x.shortBy(row, 5, 5), -5);
        }
        due("a fifth", x.row(), FULL);
        due("four", x.count(5), 4);
        due("no row 4", x.rows(4, 0, 5), NONE);
        due("row 3", x.rows(3, 0, 5), 1);
    }

    /** "DEATHS, 8 at most each: a PERSON, a YEAR": how many. */
    private static void deathsOfARow() {
        WidowsFund x = family("rent=100");
        x.row();
        x.row();
        for (int i = 1; i <= 7; i++) due("death " + i, x.rows(0, 3, 99), i);
        due("year 100", x.rows(0, 0, 100), BAD);
        due("year -1", x.rows(0, 0, -1), BAD);
        due("person 4", x.rows(0, 4, 5), NONE);
        due("the eighth", x.rows(0, 0, 50), 8);
        due("a ninth", x.rows(0, 0, 40), FULL);
        due("the eighth holds, the ninth not", x.shortBy(0, 39, 20), 50);
        due("the other row has room", x.rows(1, 0, 0), 1);
        due("and its own deaths", x.shortBy(1, 39, 20), -5);
    }

    // ---- SHORT

    /** "The first YEAR behind which the CHEST is below 0"; "-5: never". */
    private static void belowZero() {
        WidowsFund x = new WidowsFund();
        x.begin(50);
        x.loan(50, 40, 1, 0);
        due("0 is not below 0", x.shortBy(-1, 39, 5), -5);
        x.loan(1, 40, 30, 0);
        due("-1 is", x.shortBy(-1, 39, 5), 40);
        due("behind 40 it is so still", x.chest(40, -1), -1);
        due("below 0 as it begins, above behind the first year", x.shortBy(-1, 40, 5), -5);
        x.loan(9, 40, 30, 0);
        due("above 0 again in 41", x.shortBy(-1, 40, 5), -5);
        due("the first year of several", x.shortBy(-1, 30, 20), 40);
        x.loan(41, 40, 30, 0);
        due("below 0 as it begins, and still", x.shortBy(-1, 40, 5), 41);
        WidowsFund y = new WidowsFund();
        y.loan(10, 40, 1, 0);
        y.loan(20, 43, 1, 0);
        due("short for a year", y.shortBy(-1, 39, 5), 40);
        due("short later", y.shortBy(-1, 40, 5), 43);
        due("short no more", y.shortBy(-1, 43, 5), -5);
    }

    /** "The first YEAR of y + 1 .. y + n (99 at most)", n 1 .. 20. */
    private static void yearsOfTheTrial() {
        WidowsFund x = new WidowsFund();
        x.loan(5, 60, 30, 0);
        due("not y itself, by what is in it", x.shortBy(-1, 60, 1), 61);
        due("y + 1", x.shortBy(-1, 59, 1), 60);
        due("behind y + 1", x.shortBy(-1, 58, 1), -5);
        due("y + 2", x.shortBy(-1, 58, 2), 60);
        due("y + 20", x.shortBy(-1, 40, 20), 60);
        due("behind y + 19", x.shortBy(-1, 40, 19), -5);
        due("behind y + 20", x.shortBy(-1, 39, 20), -5);
        WidowsFund z = new WidowsFund();
        z.loan(5, 99, 1, 0);
        due("99", z.shortBy(-1, 98, 1), 99);
        due("99 at most", z.shortBy(-1, 98, 20), 99);
        due("none behind 99", z.shortBy(-1, 99, 20), -5);
        WidowsFund w = new WidowsFund();
        w.loan(5, 0, 30, 0);
        due("from 0 on", w.shortBy(-1, 0, 1), 1);
        due("n 0", w.shortBy(-1, 0, 0), BAD);
        due("n 21", w.shortBy(-1, 0, 21), BAD);
    }

    /** "The CHEST behind y is as it is by all ENTRIES": what was PAID up to y counts, DUES up to y do not; the ROW is none of it. */
    private static void chestBehindYAsItIs() {
        WidowsFund x = family("due=10;rent=40;sum=40");
        x.row();
        x.rows(0, 0, 45);
        x.pay(0, 33, 5099);
        x.pay(0, 500, 5100);
        x.strike(3);
        due("chest", x.chest(50, -1), 33);
        x.loan(43, 51, 30, 0);
        due("paid up to y, and dues behind", x.shortBy(-1, 50, 1), -5);
        x.loan(1, 51, 30, 0);
        due("one more", x.shortBy(-1, 50, 1), 51);
        WidowsFund y = family("due=10;rent=40;sum=40");
        y.row();
        y.rows(0, 0, 45);
        y.begin(40);
        due("five years of rent up to y are no coins of the row", y.shortBy(0, 50, 1), -5);
        due("one from then on", y.shortBy(0, 50, 2), 52);
        WidowsFund z = family("due=10");
        z.pay(0, 77, 5150);
        z.loan(10, 51, 30, 0);
        due("what is paid behind y does not count, dues do", z.shortBy(-1, 50, 1), -5);
        z.loan(1, 51, 30, 0);
        due("though it would do", z.shortBy(-1, 50, 1), 51);
        due("in the chest it does", z.chest(51, -1), 77 - 11);
    }

    /** "Each on DAY 50 of its YEAR": RENTS for 50 DAYS, the MEMBER of DAY 0 pays. */
    private static void deathOnDay50() {
        WidowsFund x = family("rent=100;due=10");
        x.row();
        x.rows(0, 0, 51);
        x.begin(39);
        due("50 of rent, less 10 of dues, is more", x.shortBy(0, 50, 1), 51);
        x.begin(40);
        due("and is just there", x.shortBy(0, 50, 1), -5);
        due("a whole rent, no dues", x.shortBy(0, 50, 2), 52);
        x.begin(139);
        due("one less", x.shortBy(0, 50, 2), 52);
        x.begin(140);
        due("just there", x.shortBy(0, 50, 2), -5);
        WidowsFund y = family("sum=30;age=10");
        y.row();
        y.rows(0, 1, 49);
        y.rows(0, 0, 49);
        due("the child is 9 on 4899, 10 on 4950", y.shortBy(0, 40, 20), -5);
        y.row();
        y.rows(1, 1, 48);
        y.rows(1, 0, 48);
        due("9 on 4850", y.shortBy(1, 40, 20), 48);
    }

    /** "Of those who LIVE then". */
    private static void deathOfWhoLivesThen() {
        WidowsFund x = family("rent=100");
        x.row();
        x.rows(0, 0, 51);
        x.begin(49);
        x.death(0, 5160);
        due("told ten days later: the row's day", x.shortBy(0, 50, 1), 51);
        due("without the row", x.shortBy(-1, 50, 1), -5);
        x.strike(2);
        x.death(0, 5150);
        x.begin(49);
        due("told on that day", x.shortBy(-1, 50, 1), 51);
        due("the same", x.shortBy(0, 50, 1), 51);
        x.strike(4);
        x.death(0, 5140);
        x.begin(59);
        due("told ahead: the book's day", x.shortBy(0, 50, 1), 51);
        x.begin(60);
        due("60 days", x.shortBy(0, 50, 1), -5);
        WidowsFund y = family("");
        Check.act(y, "sum=30", 0);
        y.person(0, 4551, 0, -1);
        y.death(2, 4400);
        y.row();
        y.rows(0, 4, 45);
        y.rows(0, 1, 46);
        y.rows(0, 0, 46);
        due("not born on that day: it lives on", y.shortBy(0, 44, 5), 46);
        y.person(0, 4550, 0, -1);
        y.row();
        y.rows(1, 4, 46);
        y.rows(1, 5, 45);
        y.rows(1, 1, 46);
        y.rows(1, 0, 46);
        due("born on that day: it dies", y.shortBy(1, 44, 5), -5);
    }

    /** "One behind the other as told": a person that is dead by then dies no more; earlier it may. */
    private static void deathsOneBehindTheOther() {
        WidowsFund x = family("rent=100");
        x.row();
        x.rows(0, 0, 52);
        x.rows(0, 0, 54);
        due("a later one is none", x.shortBy(0, 50, 20), 52);
        x.row();
        x.rows(1, 0, 54);
        x.rows(1, 0, 52);
        due("an earlier one is one", x.shortBy(1, 50, 20), 52);
        x.row();
        x.rows(2, 1, 51);
        x.rows(2, 0, 52);
        due("the wife ahead of him", x.shortBy(2, 50, 20), -5);
        x.row();
        x.rows(3, 0, 52);
        x.rows(3, 1, 52);
        due("both on one day", x.shortBy(3, 50, 20), -5);
        due("it is not so in the book", x.live(0, 0, -1, 5), 10000);
    }

    /** "Of YEARS up to y, too". */
    private static void deathsOfYearsUpToY() {
        WidowsFund x = family("rent=100;due=10");
        x.row();
        x.rows(0, 0, 50);
        due("of y", x.shortBy(0, 50, 5), 51);
        due("of a year far ahead", x.shortBy(0, 90, 5), 91);
        due("without the row", x.shortBy(-1, 50, 5), -5);
        x.row();
        x.rows(1, 1, 50);
        x.rows(1, 0, 50);
        due("no wife, no dues, no sum of years ahead", x.shortBy(1, 50, 20), -5);
        x.loan(1, 51, 30, 0);
        due("no dues of one dead", x.shortBy(1, 50, 20), 51);
    }

    /** "Every man PAYS his DUES and TAX just as they come": no fine, no ARREARS. */
    private static void duesAndTaxAsTheyCome() {
        WidowsFund x = family("due=10;tax=25;fine=100");
        x.person(1, 1000, -1, -1);
        x.death(1, 5260);
        x.wed(0, 4, 5299);
        x.loan(20 + 25, 52, 30, 0);
        due("dues of two years and a tax", x.shortBy(-1, 50, 2), -5);
        x.loan(1, 52, 30, 0);
        due("no more than that", x.shortBy(-1, 50, 2), 52);
        due("the next year's dues", x.shortBy(-1, 50, 1), -5);
        x.row();
        x.rows(0, 0, 52);
        due("dead on 5250: no tax", x.shortBy(0, 50, 2), 52);
        x.begin(24);
        due("by all of the tax", x.shortBy(0, 50, 2), 52);
        x.begin(26);
        due("and one coin", x.shortBy(0, 50, 2), -5);
        WidowsFund y = family("due=1");
        y.member(3, 0, 0, 2000);
        y.gone(3, false, 5300);
        y.loan(2 + 2 + 1, 53, 30, 0);
        due("every man", y.shortBy(-1, 50, 3), -5);
        y.loan(1, 53, 30, 0);
        due("but one gone", y.shortBy(-1, 50, 3), 53);
    }

    /** "From YEAR y + 1 on all goes by all ENTRIES and DEATHS of the ROW": VACANT, too. */
    private static void emptySeatsOfTheDead() {
        WidowsFund x = family("");
        Check.act(x, "vacant=10", 5000);
        x.row();
        x.rows(0, 0, 51);
        x.loan(10, 52, 30, 0);
        due("his seat is empty from 52 on", x.shortBy(0, 50, 5), -5);
        due("and not without the row", x.shortBy(-1, 50, 5), 52);
        x.loan(1, 52, 30, 0);
        due("but not from 51 on", x.shortBy(0, 50, 5), 52);
    }

    // ---- STEPS and THE PLAN

    /** "A STEP (4 at most): a SUBJECT (due, rent, tax) by hundredths (0 .. 300)". */
    private static void stepsFrom0To3() {
        WidowsFund x = new WidowsFund();
        due("sum", x.step(2, 100), NONE);
        for (int s = 4; s < 9; s++) due("subject " + s, x.step(s, 100), NONE);
        due("-1", x.step(-1, 100), NONE);
        due("by -1", x.step(0, -1), BAD);
        due("by 301", x.step(0, 301), BAD);
        due("due by 0", x.step(0, 0), 0);
        due("rent by 300", x.step(1, 300), 1);
        due("tax", x.step(3, 1), 2);
        due("tax again", x.step(3, 2), 3);
        due("a fifth", x.step(0, 100), FULL);
        due("four", x.count(6), 4);
    }

    /** "What THE RULE comes to times that by 100, cut". */
    private static void stepTimesHundredthsCut() {
        int[][] cases = {{15, 50, 7}, {1, 99, 0}, {1, 199, 1}, {99, 1, 0}, {100, 1, 1}, {7, 0, 0}, {0, 300, 0}, {9999, 99, 9899},
            {9999, 1, 99}};
        for (int[] c : cases) {
            WidowsFund x = family("due=" + c[0]);
            x.step(0, c[1]);
            due(c[0] + " by " + c[1], x.plan(50, 1, 1), Math.min(c[0], c[2]));
        }
        WidowsFund y = family("due=9999");
        y.step(0, 300);
        y.row();
        y.loan(9999, 51, 30, 0);
        y.loan(9999, 51, 30, 0);
        y.loan(9999, 51, 30, 0);
        due("three times 9999, above what a clause comes to", y.plan(50, 1, 1), 29997);
        y.loan(1, 51, 30, 0);
        due("no more than that", y.plan(50, 1, 0), -5);
    }

    /** "In YEARS from y + 1 on, and of who pays least": what was and is behind y is as it was. */
    private static void stepFromTheYearBehindOn() {
        WidowsFund x = family("rent=100");
        x.death(0, 4950);
        x.begin(200);
        x.row();
        x.step(1, 0);
        due("chest behind 50", x.chest(50, -1), 200 - 50 - 100);
        due("rents of 49 and 50 were paid, that of 51 is not", x.plan(50, 1, 0), 1);
        x.begin(149);
        due("one coin short as it begins", x.plan(50, 1, 0), -5);
        x.begin(150);
        due("just enough", x.plan(50, 20, 0), 1);
        x.begin(250);
        due("enough for 51", x.plan(50, 1, 0), 0);
        due("not for 52", x.plan(50, 2, 0), 1);
        WidowsFund y = family("rent=15");
        y.row();
        y.rows(0, 0, 51);
        y.step(1, 50);
        y.begin(3);
        due("half a year of 7 is 3", y.plan(50, 1, 0), 1);
        y.begin(2);
        due("2 is too little", y.plan(50, 1, 0), -5);
        y.begin(7);
        due("half a year of 15 is 7", y.plan(50, 1, 0), 0);
    }

    /** Dues of 10, a tax of 20 in 51, a step, an empty row, and a loan in 51. */
    private static WidowsFund stepped(int subject, int hundredths, int loan) {
        WidowsFund x = family("due=10;tax=20;rent=30;sum=40");
        x.person(1, 1000, -1, -1);
        x.death(1, 5150);
        x.wed(0, 4, 5150);
        x.row();
        x.step(subject, hundredths);
        x.loan(loan, 51, 30, 0);
        return x;
    }

    /** A step moves what its own SUBJECT comes to, no other. */
    private static void stepOfItsSubjectAlone() {
        due("due thrice and tax", stepped(0, 300, 50).plan(50, 1, 0), 1);
        due("no more", stepped(0, 300, 51).plan(50, 1, 0), -5);
        due("dues thrice", stepped(0, 300, 50).plan(50, 1, 1), 30);
        due("no dues, but tax", stepped(0, 0, 20).plan(50, 1, 0), 1);
        due("tax is not enough", stepped(0, 0, 21).plan(50, 1, 0), 0);
        due("due and tax thrice", stepped(3, 300, 70).plan(50, 1, 0), 1);
        due("no more than these", stepped(3, 300, 71).plan(50, 1, 0), -5);
        due("dues stay", stepped(3, 300, 70).plan(50, 1, 1), 10);
        due("no need of tax", stepped(3, 300, 30).plan(50, 1, 0), 0);
        due("rents are no dues", stepped(1, 300, 30).plan(50, 1, 0), 0);
        due("nor tax", stepped(1, 300, 31).plan(50, 1, 0), -5);
        WidowsFund x = family("rent=100");
        x.row();
        x.rows(0, 0, 51);
        x.begin(49);
        x.step(0, 0);
        x.step(3, 0);
        due("neither dues nor tax are rents", x.plan(50, 1, 0), -5);
        x.step(1, 98);
        due("rent is", x.plan(50, 1, 0), 4);
        WidowsFund y = family("sum=30");
        y.row();
        y.rows(0, 1, 51);
        y.rows(0, 0, 51);
        for (int subject : new int[] {0, 1, 3}) y.step(subject, 0);
        due("none of them is a sum", y.plan(50, 1, 0), -5);
    }

    /** "Of all sets of STEPS by which no ROW is SHORT"; "-5: there is none". */
    private static void planByWhichNoRowIsShort() {
        WidowsFund x = family("due=10;rent=100");
        x.step(1, 0);
        due("without rows none is short", x.plan(50, 5, 0), 0);
        x.row();
        due("an empty row is not short", x.plan(50, 5, 0), 0);
        x.row();
        x.rows(1, 0, 52);
        due("one row is short", x.plan(50, 5, 0), 1);
        due("not for one year", x.plan(50, 1, 0), 0);
        due("for two it has 20 of 50", x.plan(50, 2, 0), 1);
        x.row();
        x.rows(2, 1, 50);
        due("the worst row decides", x.plan(50, 5, 0), 1);
        x.loan(21, 52, 30, 0);
        due("no step is enough", x.plan(50, 5, 0), -5);
        due("no dues then", x.plan(50, 5, 1), -5);
        due("for one year it is", x.plan(50, 1, 0), 0);
        due("its dues", x.plan(50, 1, 1), 10);
        WidowsFund y = family("due=10");
        y.row();
        y.loan(10, 51, 30, 0);
        due("no steps, not short", y.plan(50, 5, 0), 0);
        y.loan(1, 51, 30, 0);
        due("no steps, short", y.plan(50, 5, 0), -5);
        WidowsFund z = new WidowsFund();
        z.row();
        z.loan(1, 51, 30, 0);
        due("y + 20", z.plan(31, 20, 0), -5);
        due("y + 19", z.plan(31, 19, 0), 0);
        due("y itself", z.plan(50, 1, 0), -5);
        z.begin(1);
        due("behind 99", z.plan(99, 20, 0), 0);
        WidowsFund w = family("rent=100");
        w.death(0, 5000);
        w.begin(100);
        w.step(1, 0);
        due("short by none", w.shortBy(-1, 50, 5), 51);
        due("by none is no row", w.plan(50, 5, 0), 0);
        w.row();
        w.rows(0, 1, 50);
        due("nor is it beside a row that is not short", w.plan(50, 5, 0), 0);
        w.row();
        due("an empty row is as by none", w.plan(50, 5, 0), 1);
    }

    /** "The DUES of the MEMBER who pays least then are least". */
    private static void planOfWhoPaysLeast() {
        WidowsFund x = new WidowsFund();
        x.seat(4);
        for (int p = 0; p < 4; p++) x.person(0, 1000, -1, -1);
        Check.act(x, "due=40-10*rate", 0);
        x.member(0, 0, 1, 3000);
        x.member(1, 1, 3, 3000);
        x.member(2, 2, 2, 3000);
        due("least of three", x.plan(50, 1, 1), 10);
        x.step(0, 95);
        due("nine and a half are nine", x.plan(50, 1, 1), 9);
        due("by the step", x.plan(50, 1, 0), 1);
        x.step(0, 91);
        due("nine, too: the least set", x.plan(50, 1, 0), 1);
        x.step(0, 89);
        due("eight", x.plan(50, 1, 0), 4);
        x.step(0, 300);
        due("eight still", x.plan(50, 1, 1), 8);
        Check.act(x, "due=0 if rate=2", 5099);
        due("one pays nothing", x.plan(50, 1, 1), 0);
        due("no step then", x.plan(50, 1, 0), 0);
        x.member(3, 3, 0, 3000);
        due("one pays more", x.plan(50, 1, 1), 0);
        x.gone(2, false, 5099);
        due("gone", x.plan(50, 1, 1), 8);
    }

    /** "The MEMBER (as on DAY 100 y and 99)". */
    private static void planAsOnTheLastDay() {
        WidowsFund x = family("due=10+rate");
        due("the year ahead of all", x.plan(29, 1, 1), -5);
        due("his first year", x.plan(30, 1, 1), 11);
        x.rate(0, 3, 5099);
        due("a rate of the last day", x.plan(50, 1, 1), 13);
        due("the year ahead", x.plan(49, 1, 1), 11);
        x.rate(0, 2, 5200);
        due("a rate of the day behind", x.plan(51, 1, 1), 13);
        due("the year behind", x.plan(52, 1, 1), 12);
        Check.act(x, "due=7", 5400);
        due("an act of the day behind", x.plan(53, 1, 1), 12);
        Check.act(x, "due=8", 5399);
        due("an act of the last day", x.plan(53, 1, 1), 8);
        x.gone(0, false, 5600);
        due("gone the day behind", x.plan(55, 1, 1), 7);
        due("gone", x.plan(56, 1, 1), -5);
        x.gone(0, true, 5799);
        due("back on the last day", x.plan(57, 1, 1), 7);
        x.death(0, 5900);
        due("dead the day behind", x.plan(58, 1, 1), 7);
        due("dead", x.plan(59, 1, 1), -5);
        x.death(0, 5899);
        due("dead on the last day", x.plan(58, 1, 1), -5);
        x.member(3, 0, 0, 6100);
        due("joined the day behind", x.plan(60, 1, 1), -5);
        due("joined", x.plan(61, 1, 1), 7);
    }

    /** "Of like ones of the fewest STEPS". */
    private static void planOfTheFewestSteps() {
        WidowsFund x = family("due=0;rent=100;tax=10");
        x.row();
        x.rows(0, 0, 51);
        x.step(1, 80);
        x.step(3, 300);
        x.step(1, 40);
        x.person(1, 1000, -1, -1);
        x.death(1, 5101);
        x.wed(0, 4, 5102);
        x.begin(15);
        due("two steps that do, and one that does", x.plan(50, 1, 0), 4);
        x.begin(10);
        due("both just do", x.plan(50, 1, 0), 4);
        x.begin(9);
        due("two others that do", x.plan(50, 1, 0), 6);
        x.begin(29);
        due("the second single one", x.plan(50, 1, 0), 2);
        x.begin(40);
        due("none is needed", x.plan(50, 1, 0), 0);
        x.begin(39);
        due("of two single ones the least set", x.plan(50, 1, 0), 1);
        WidowsFund y = family("due=10;rent=100");
        y.row();
        y.rows(0, 0, 51);
        y.step(0, 50);
        y.step(1, 0);
        y.begin(40);
        due("less dues are more than fewer steps", y.plan(50, 1, 0), 3);
        due("its dues", y.plan(50, 1, 1), 5);
        WidowsFund z = family("due=10");
        z.step(1, 0);
        z.step(3, 0);
        z.step(0, 100);
        due("like dues by a step: none", z.plan(50, 1, 0), 0);
        z.step(0, 109);
        due("and by 10.9, cut", z.plan(50, 1, 0), 0);
    }

    /** "Then the least set as bits." */
    private static void planOfTheLeastSet() {
        WidowsFund x = family("due=10");
        x.step(0, 59);
        x.step(0, 50);
        x.step(0, 51);
        x.step(0, 49);
        due("49", x.plan(50, 1, 0), 8);
        due("four", x.plan(50, 1, 1), 4);
        WidowsFund y = family("due=10");
        y.step(0, 99);
        y.step(0, 59);
        y.step(0, 50);
        y.step(0, 51);
        due("of 5 thrice the least set", y.plan(50, 1, 0), 2);
        due("five", y.plan(50, 1, 1), 5);
        WidowsFund z = family("rent=100");
        z.row();
        z.rows(0, 0, 51);
        z.step(3, 100);
        z.step(1, 1);
        z.step(1, 0);
        due("of like single ones the least set", z.plan(50, 1, 0), 2);
        z.begin(0);
        due("for two years", z.plan(50, 2, 0), 4);
    }

    /** "(Of one SUBJECT one at most)". */
    private static void planOfOneSubjectOne() {
        WidowsFund x = family("due=10");
        x.row();
        x.loan(20, 51, 30, 0);
        x.step(0, 150);
        x.step(0, 150);
        due("not both", x.plan(50, 1, 0), -5);
        x.step(0, 200);
        due("this alone", x.plan(50, 1, 0), 4);
        due("its dues", x.plan(50, 1, 1), 20);
        WidowsFund y = family("due=10;rent=100");
        y.row();
        y.rows(0, 0, 51);
        y.step(0, 200);
        y.step(1, 40);
        due("of two subjects both", y.plan(50, 1, 0), 3);
        due("dues of both", y.plan(50, 1, 1), 20);
    }

    /** "-5 likewise, or without MEMBERS": the set is told all the same. */
    private static void planWithoutMembers() {
        WidowsFund x = family("due=10;rent=100");
        x.step(0, 50);
        x.step(1, 0);
        due("the set", x.plan(20, 1, 0), 0);
        due("the dues", x.plan(20, 1, 1), -5);
        x.death(0, 4000);
        x.row();
        due("a step that is needed", x.plan(50, 1, 0), -5);
        x.begin(5000);
        due("rents until 50", x.chest(50, -1), 5000 - 1100);
        due("no step is needed", x.plan(50, 20, 0), 0);
        x.begin(1100);
        due("a step on rents", x.plan(50, 20, 0), 2);
        due("no dues for it", x.plan(50, 20, 1), -5);
    }

    // ---- TRIED

    /** "CHEST behind a YEAR if one more ACT (THE TAPE's) were in force from a DAY on". */
    private static void triedFromADayOn() {
        int[][] cases = {{0, 0, 7}, {1, 0, 0}, {0, 99, 700}, {100, 1, 7}, {101, 1, 0}, {9900, 99, 7}, {9901, 99, 0}, {9999, 99, 0}};
        for (int[] c : cases) {
            WidowsFund x = new WidowsFund();
            x.seat(1);
            Check.feed(x, "vacant=7");
            due("from " + c[0] + " behind " + c[1], x.tried(c[0], c[1]), c[2]);
        }
        WidowsFund y = family("rent=100");
        y.death(0, 4000);
        Check.feed(y, "begun;rent=40");
        due("rents that began", y.tried(4050, 40), -70);
        Check.feed(y, "rent=40");
        due("without begun; they stay", y.tried(4050, 40), -100);
        Check.feed(y, "rent=40");
        due("but from the day ahead of his death", y.tried(3999, 40), -40);
        Check.feed(y, "rent=40");
        due("not from his death on", y.tried(4000, 40), -100);
        y.gone(0, false, 3999);
        due("gone, nothing is kept", y.chest(40, -1), 0);
        Check.feed(y, "keeps=1");
        due("what would be kept", y.tried(3999, 40), -100);
        Check.feed(y, "keeps=1");
        due("but from his death on", y.tried(4000, 40), 0);
        due("nothing is kept still", y.chest(40, -1), 0);
    }

    /** "One more ACT": of like DAYS its number is the greatest; by all ENTRIES. */
    private static void triedGoesAheadOfLikeDays() {
        WidowsFund x = new WidowsFund();
        x.seat(1);
        Check.act(x, "vacant=1", 500);
        Check.act(x, "vacant=2", 700);
        Check.feed(x, "vacant=7");
        due("of the day of 0", x.tried(500, 7), 7 + 7 + 2);
        Check.feed(x, "vacant=7");
        due("of the day of 1", x.tried(700, 7), 1 + 1 + 7);
        Check.feed(x, "vacant=7");
        due("of a day in between", x.tried(600, 7), 1 + 7 + 2);
        Check.feed(x, "vacant=7 if year=6");
        due("that holds for a year", x.tried(500, 7), 1 + 7 + 2);
        WidowsFund y = family("vacant=1");
        Check.feed(y, "vacant=3");
        due("by all entries", y.tried(0, 30), 90);
        y.strike(0);
        Check.feed(y, "vacant=3");
        due("by all entries then", y.tried(0, 30), 93);
    }

    /** "All is as before then"; "THE TAPE, which is empty then". */
    private static void triedAndAllIsAsBefore() {
        WidowsFund x = family("vacant=1;age=20");
        for (int i = 1; i < 8; i++) Check.act(x, "due=" + i, 100 * i);
        Check.feed(x, "begun;vacant=3;age=0;keeps=1;rent=9");
        due("a ninth is tried", x.tried(0, 20), 63);
        due("the tape is empty", x.count(7), 0);
        due("eight acts", x.count(2), 8);
        due("the chest", x.chest(20, -1), 21);
        due("no clause of it", x.why(6, -1, 9999, -1), -5);
        due("an old one", x.why(7, -1, 9999, -1), 1);
        due("the greatest day", x.why(0, -1, 9999, -1), 700);
        due("no act 8", x.force(8, 0), NONE);
        due("the tape is free", Check.act(x, "due=1", 0), FULL);
        due("and stays then", x.count(7), 5);
        due("for a trial", x.tried(0, 20), 21);
        WidowsFund z = family("rent=100");
        for (int i = 1; i < 8; i++) Check.act(z, "begun;rent=" + (100 - 10 * i), 3100 * i % 9999);
        z.death(0, 4000);
        long without = z.chest(99, -1);
        Check.feed(z, "begun;rent=1");
        due("a ninth for rents that began", z.tried(4000, 41), -2);
        Check.feed(z, "begun;rent=1");
        due("on the last day", z.tried(9999, 98), z.chest(98, -1));
        due("the eight are as before", z.chest(99, -1), without);
        WidowsFund y = family("vacant=1");
        Check.feed(y, "vacant=3");
        y.tried(50, 20);
        due("its number is free", Check.act(y, "vacant=5", 60), 1);
        due("the one told is in force", y.rule(4, -1, 60, -1), 5);
        due("the one tried is not", y.rule(4, -1, 59, -1), 1);
        due("what is known of it", y.force(1, 0), 60);
    }

    /** "NO: year, day (THE TAPE stays); NO plus 1: THE TAPE is no ACT." */
    private static void triedThatIsNoAct() {
        WidowsFund x = new WidowsFund();
        due("an empty tape", x.tried(0, 0), NO + 1);
        Check.feed(x, "vacant=7;");
        due("day 10000", x.tried(10000, 0), NO);
        due("day -1", x.tried(-1, 0), NO);
        due("year 100", x.tried(0, 100), NO);
        due("year -1", x.tried(0, -1), NO);
        due("the tape stays", x.count(7), 9);
        due("it ends too early", x.tried(0, 0), NO + 1);
        due("empty behind a fault", x.count(7), 0);
        due("nothing is left to tell", x.text(0), -10);
        Check.feed(x, "vacant=7");
        due("no year, though it is an act", x.tried(0, 100), NO);
        due("it stays an act", x.text(5), 0);
    }

    // ---- A TOLD YEAR

    /** "What was told (0 at first)"; "coins not -999999 .. 999999". */
    private static void toldAndWhatWasTold() {
        WidowsFund x = family("");
        for (int p = 0; p < 4; p++) for (int what = 0; what < 3; what++) due("0 at first", x.told(p, what, 100 * p + what + 1), 0);
        due("the chest, 0 at first", x.told(-1, 0, 999), 0);
        for (int p = 0; p < 4; p++) for (int what = 0; what < 3; what++) due("told", x.told(p, what, 0), 100 * p + what + 1);
        due("the chest told", x.told(-1, 0, 0), 999);
        due("the most", x.told(0, 0, 999999), 0);
        due("more", x.told(0, 0, 1000000), NO + 1);
        due("the least", x.told(0, 0, -999999), 999999);
        due("less", x.told(0, 0, -1000000), NO + 1);
        due("it stays", x.told(0, 0, 5), -999999);
        due("the chest's most", x.told(-1, 0, 999999), 0);
        due("the chest's more", x.told(-1, 0, 1000000), NO + 1);
        due("the chest's least", x.told(-1, 0, -999999), 999999);
        due("the chest's less", x.told(-1, 0, -1000000), NO + 1);
        due("the chest stays", x.told(-1, 0, 5), -999999);
        due("person 4", x.told(4, 0, 5), NO);
        due("person -2", x.told(-2, 0, 5), NO);
        due("what 3", x.told(0, 3, 5), NO);
        due("the chest's what 1", x.told(-1, 1, 5), NO);
        due("the chest's what 2", x.told(-1, 2, 5), NO);
        due("the chest's what -1", x.told(-1, -1, 5), NO);
    }

    /** "The first PERSON that is not (its DUES ahead of its RENT ahead of its SUM)", the CHEST last: 100. */
    private static void checkedInOrder() {
        WidowsFund x = new WidowsFund();
        for (int p = 0; p < 24; p++) x.person(p % 2, 100 + p, -1, -1);
        due("right", x.check(40, -1), -5);
        x.told(-1, 0, -1);
        due("the chest", x.check(40, -1), 100);
        for (int p = 23; p >= 0; p--) {
            for (int what = 2; what >= 0; what--) {
                x.told(p, what, what == 1 ? -1 : 1);
                due("the first one", x.check(40, -1), 3 * p + what);
            }
        }
        x.told(0, 0, 0);
        due("rent behind dues", x.check(40, -1), 1);
        x.told(0, 1, 0);
        due("sum behind rent", x.check(40, -1), 2);
        x.told(0, 2, 0);
        due("the next person's dues", x.check(40, -1), 3);
    }

    /** "COINS told for PERSONS (RENTS, DUES, SUMS got) and the CHEST are RIGHT, if all are what they come to by e". */
    private static void checkedByYearAndE() {
        WidowsFund x = family("due=5;rent=60;sum=30;vacant=1");
        x.person(1, 1000, -1, -1);
        x.death(0, 4050);
        x.told(0, 0, 5);
        x.told(1, 1, 30);
        x.told(-1, 0, 30 - 30);
        due("right", x.check(40, -1), -5);
        due("by 3", x.check(40, 3), -5);
        due("by 2 no rent", x.check(40, 2), 4);
        due("by 0 no dues", x.check(40, 0), 0);
        due("another year", x.check(41, -1), 0);
        due("year 0", x.check(0, -1), 0);
        x.told(1, 1, 31);
        due("one more", x.check(40, -1), 4);
        x.told(1, 1, 29);
        due("one less", x.check(40, -1), 4);
        x.told(1, 1, 30);
        x.told(-1, 0, 1);
        due("the chest by one", x.check(40, -1), 100);
        x.told(-1, 0, -1);
        due("the chest by one less", x.check(40, -1), 100);
        x.death(1, 4050);
        x.told(1, 1, 0);
        due("a sum", x.check(40, -1), 8);
        x.told(2, 2, 30);
        x.told(-1, 0, 0);
        due("right again", x.check(40, -1), -5);
        x.person(0, 4050, 0, -1);
        due("one born on that day gets half", x.check(40, -1), 8);
    }

    /** "THE TOLD YEAR becomes that YEAR as it is by e: how many numbers of it changed." */
    private static void judgedNumbersThatChanged() {
        WidowsFund x = family("due=5;rent=60;sum=30;vacant=1");
        due("dues and the chest", x.judge(40, -1), 2);
        due("nothing", x.judge(40, -1), 0);
        due("right", x.check(40, -1), -5);
        due("what was told of dues", x.told(0, 0, 6), 5);
        due("dues alone", x.judge(40, -1), 1);
        x.death(0, 4050);
        due("rent and chest", x.judge(40, -1), 2);
        due("dues of 41, rent and chest", x.judge(41, -1), 3);
        due("right in 41", x.check(41, -1), -5);
        due("not in 40", x.check(40, -1), 0);
        due("by 2", x.judge(41, 2), 3);
        due("by 2 it is right", x.check(41, 2), -5);
        x.death(1, 4050);
        due("sum of 40 and the chest", x.judge(40, -1), 2);
        due("the sum", x.told(2, 2, 0), 30);
        due("the chest", x.told(-1, 0, 0), 30 - 30);
        due("the sum again", x.judge(40, -1), 1);
        x.told(3, 1, 7);
        x.told(3, 2, 7);
        due("what was told wrong of another", x.judge(40, -1), 2);
        due("is 0 then", x.told(3, 1, 0) + x.told(3, 2, 0), 0);
    }

    /** Each of 24 persons has three numbers, and the chest one: 73 at most. */
    private static void judgedOfAll() {
        WidowsFund x = new WidowsFund();
        for (int p = 0; p < 24; p++) x.person(p % 2, 100 + p, -1, -1);
        for (int p = 0; p < 24; p++) for (int what = 0; what < 3; what++) x.told(p, what, 1 + p);
        x.told(-1, 0, 77);
        due("all of them", x.judge(40, -1), 73);
        due("right", x.check(40, -1), -5);
        due("none", x.judge(41, -1), 0);
        x.told(23, 2, 5);
        due("the last sum", x.judge(40, -1), 1);
        x.told(0, 0, 5);
        x.told(-1, 0, 5);
        due("the first dues and the chest", x.judge(40, -1), 2);
        for (int p = 0; p < 24; p++) for (int what = 0; what < 3; what++) due("told", x.told(p, what, 9), 0);
        due("the chest", x.told(-1, 0, 9), 0);
        WidowsFund y = new WidowsFund();
        y.person(0, 100, -1, -1);
        y.told(0, 2, 5);
        due("of one person", y.judge(40, -1), 1);
        y.person(0, 100, -1, -1);
        due("of one that came later", y.judge(40, -1), 0);
    }

    /** What the year comes to may be more than can be told. */
    private static void judgedBeyondWhatCanBeTold() {
        WidowsFund x = family("");
        x.begin(99999);
        for (int i = 0; i < 101; i++) x.pay(0, 9999, 3000);
        long chest = 99999 + 101 * 9999L;
        due("above what can be told", x.chest(30, -1), chest);
        due("the chest", x.judge(30, -1), 1);
        due("right", x.check(30, -1), -5);
        due("no such can be told", x.told(-1, 0, chest), NO + 1);
        due("it is what was told", x.told(-1, 0, 999999), chest);
        due("wrong then", x.check(30, -1), 100);
    }

    /** Promise 49, behind each call that adds one; refused ones add none. */
    private static void countsOfAll() {
        WidowsFund x = Funds.four();
        int[] counts = {4, 0, 0, 3, 0, 0, 0, 0, 4};
        due("fed", x.feed(0x6475653d35L, 5), 5);
        counts[7] = 5;
        same(x, counts);
        x.text(0);
        counts[7] = 0;
        counts[2] = 1;
        same(x, counts);
        x.member(0, 0, 0, 3000);
        x.strike(0);
        x.pay(0, 1, 3000);
        counts[1] = 2;
        same(x, counts);
        x.loan(1, 1, 1, 1);
        x.row();
        x.step(0, 1);
        x.interest(20);
        for (int what = 4; what < 7; what++) counts[what] = 1;
        counts[8] = 20;
        same(x, counts);
        x.loan(0, 1, 1, 1);
        x.step(2, 1);
        x.interest(21);
        x.person(2, 0, -1, -1);
        x.seat(2);
        same(x, counts);
        due("what 9", x.count(9), NONE);
        due("what -1", x.count(-1), NONE);
    }

    private static void same(WidowsFund x, int[] counts) {
        for (int what = 0; what < 9; what++) due("count(" + what + ")", x.count(what), counts[what]);
    }
}
