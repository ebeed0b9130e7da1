import java.util.Arrays;

/** A widows' fund as ../shared/DOC.md tells it: its lives, its rules, its coins, its trials. */
public final class WidowsFund {
    public static final int NONE = -1, BAD = -2, STATE = -3, FULL = -4;
    public static final long NO = Long.MIN_VALUE;

    private static final int NOT_THERE = -5, OTHER_KIND = -6, NO_ACT = -10;
    private static final int CHEST_IS_WRONG = 100;

    private static final int DAYS = 10000, YEARS = 100, YEAR_DAYS = 100, AGES = 100;
    private static final int NEVER = 10000;

    private static final int MAX_SEATS = 10, MAX_PERSONS = 24, MAX_ENTRIES = 200, MAX_RATE = 3, MAX_COINS = 9999;
    private static final int MAX_TAPE = 200, MAX_ACTS = 8, MAX_CLAUSES = 8;
    private static final int MAX_LOANS = 12, MAX_LOAN_YEARS = 30, MAX_HUNDREDTHS = 20, MAX_BEGIN = 99999;
    private static final int MAX_ROWS = 4, MAX_ROW_DEATHS = 8, MAX_STEPS = 4, MAX_STEP = 300, MAX_TRIAL_YEARS = 20;
    private static final int MAX_TOLD = 999999;
    private static final long MAX_ARREARS = 1000000000000L;

    private static final int DEATH = 0, WEDDING = 1, JOINED = 2, RATE = 3, GONE = 4, BACK = 5, PAID = 6, STRUCK = 7;
    /** Sets of entries' kinds, as bits. */
    private static final int WEDDINGS = 1 << WEDDING, JOININGS = 1 << JOINED, RATINGS = 1 << JOINED | 1 << RATE,
            STANDINGS = 1 << JOINED | 1 << GONE | 1 << BACK;

    private static final int OUTSIDE = 0, INSIDE = 1, AWAY = 2;

    private static final int KIND_LIFE = 0, KIND_MEMBER = 1, KIND_LATE = 2, KIND_AGAIN = 3, KIND_WIDOW = 4,
            KIND_ORPHAN = 5, KIND_GONE = 6;
    /** Under which kind each kind stands. */
    private static final int[] KIND_ABOVE = {NONE, KIND_LIFE, KIND_MEMBER, KIND_LATE, KIND_LIFE, KIND_LIFE, KIND_MEMBER};

    private static final int DUE = 0, RENT = 1, SUM = 2, TAX = 3, VACANT = 4, FINE = 5, KEEPS = 6, AGE = 7, LATE = 8;
    private static final int SUBJECTS = 9, DEFAULT_AGE = 18, DEFAULT_LATE = 40;
    /** Each word has a blank behind it; a word's number is its place. */
    private static final String SUBJECT_WORDS = "due rent sum tax vacant fine keeps age late ";
    private static final String NAME_WORDS = "rate years old wives year ";

    private static final int NAME_RATE = 0, NAME_YEARS = 1, NAME_OLD = 2, NAME_WIVES = 3, NAME_YEAR = 4, NAMES = 5;
    /** The codes of an act's reckoning: numbers are themselves, a name is CODE_NAME less its place. */
    private static final int CODE_NAME = -1, CODE_PLUS = -11, CODE_MINUS = -12, CODE_TIMES = -13, CODE_LESS = -14,
            CODE_LIKE = -15, CODE_MORE = -16;

    private final Book book;
    private final Lives lives;
    private final Tape tape;
    private final Laws laws;
    private final Loans loans;
    private final Tables tables;
    private final Trials trials;
    private final Coins coins;
    private final ToldYear toldYear;

    public WidowsFund() {
        book = new Book();
        lives = new Lives(book);
        tape = new Tape();
        laws = new Laws(book);
        loans = new Loans();
        tables = new Tables();
        trials = new Trials(book);
        coins = new Coins(book, lives, laws, loans, trials);
        toldYear = new ToldYear();
    }

    // ---- persons, the book

    public int seat(int many) {
        if (many < 0 || many > MAX_SEATS) return BAD;
        if (book.anyJoined) return STATE;
        int was = book.seats;
        book.seats = many;
        return was;
    }

    public int person(int sex, int birth, int father, int mother) {
        if (father != NONE && !book.isMan(father)) return NONE;
        if (mother != NONE && !book.isWoman(mother)) return NONE;
        if (sex < 0 || sex > 1 || !isDay(birth)) return BAD;
        if (father != NONE && birth <= book.birth[father]) return BAD;
        if (mother != NONE && birth <= book.birth[mother]) return BAD;
        if (book.persons >= MAX_PERSONS) return FULL;
        return book.addPerson(sex, birth, father, mother);
    }

    public int birth(int person, int what) {
        if (!book.isPerson(person)) return NONE;
        switch (what) {
            case 0: return book.sex[person];
            case 1: return book.birth[person];
            case 2: return book.father[person];
            case 3: return book.mother[person];
            default: return NONE;
        }
    }

    public int wed(int man, int woman, int day) {
        if (!book.isPerson(man) || !book.isPerson(woman)) return NONE;
        if (!isDay(day) || !book.isMan(man) || !book.isWoman(woman)) return BAD;
        lives.readBook(NONE);
        if (!lives.livesOn(man, day) || !lives.livesOn(woman, day)) return STATE;
        if (lives.wedTo(man, day) != NONE || lives.wedTo(woman, day) != NONE) return STATE;
        return book.addEntry(WEDDING, man, woman, day, NONE);
    }

    public int death(int person, int day) {
        if (!book.isPerson(person)) return NONE;
        if (!isDay(day)) return BAD;
        lives.readBook(NONE);
        if (!lives.livesOn(person, day)) return STATE;
        return book.addEntry(DEATH, person, NONE, day, NONE);
    }

    public int member(int man, int seat, int rate, int day) {
        if (!book.isPerson(man) || seat < 0 || seat >= book.seats) return NONE;
        if (!book.isMan(man) || !isRate(rate) || !isDay(day)) return BAD;
        lives.readBook(NONE);
        if (!lives.livesOn(man, day) || lives.standing(man, day) != OUTSIDE || lives.isTaken(seat, day)) return STATE;
        return book.addEntry(JOINED, man, seat, day, rate);
    }

    public int rate(int man, int rate, int day) {
        if (!book.isPerson(man)) return NONE;
        if (!book.isMan(man) || !isRate(rate) || !isDay(day)) return BAD;
        return tellOfMember(RATE, man, rate, day);
    }

    public int gone(int man, boolean back, int day) {
        if (!book.isPerson(man)) return NONE;
        if (!book.isMan(man) || !isDay(day)) return BAD;
        if (!back) return tellOfMember(GONE, man, NONE, day);
        lives.readBook(NONE);
        if (lives.standing(man, day) != AWAY || lives.isTaken(lives.seatOf(man, day), day)) return STATE;
        return book.addEntry(BACK, man, NONE, day, NONE);
    }

    public int pay(int man, int coins, int day) {
        if (!book.isPerson(man)) return NONE;
        if (!book.isMan(man) || coins < 1 || coins > MAX_COINS || !isDay(day)) return BAD;
        return tellOfMember(PAID, man, coins, day);
    }

    private int tellOfMember(int which, int man, int other, int day) {
        lives.readBook(NONE);
        if (lives.standing(man, day) != INSIDE) return STATE;
        return book.addEntry(which, man, other, day, NONE);
    }

    public int strike(int entry) {
        if (!book.isEntry(entry)) return NONE;
        if (book.which[entry] == STRUCK || book.struckBy[entry] < MAX_ENTRIES) return STATE;
        return book.addEntry(STRUCK, entry, NONE, NONE, NONE);
    }

    public int known(int entry, int what) {
        if (!book.isEntry(entry)) return NONE;
        switch (what) {
            case 0: return book.which[entry];
            case 1: return book.who[entry];
            case 2: return book.other[entry];
            case 3: return book.day[entry];
            case 4: return book.joinRate[entry];
            default: return NONE;
        }
    }

    public int as(int person, int day, int e) {
        if (!book.isPerson(person) || !book.isReach(e)) return NONE;
        if (!isDay(day)) return BAD;
        coins.look(e);
        return coins.kindOf(person, day);
    }

    public int live(int person, int day, int e, int what) {
        if (!book.isPerson(person) || !book.isReach(e) || what < 0 || what > 5) return NONE;
        if (!isDay(day)) return BAD;
        lives.readBook(e);
        switch (what) {
            case 0: return lives.wedTo(person, day);
            case 1: return lives.seatOf(person, day);
            case 2: return lives.firstOf(person, day, JOININGS) < 0 ? NONE : lives.rateOf(person, day);
            case 3: return lives.howMany(person, day, WEDDINGS);
            case 4: return lives.livesOn(person, day) ? book.ageOn(person, day) : NONE;
            default: return lives.dies[person];
        }
    }

    public int part(int person, int k, int day, int e) {
        if (!book.isPerson(person) || k < 0 || k >= KIND_ABOVE.length || !book.isReach(e)) return NONE;
        if (!isDay(day)) return BAD;
        coins.look(e);
        int kind = coins.kindOf(person, day);
        if (kind < 0) return NOT_THERE;
        for (int up = 0; up < KIND_ABOVE.length && kind >= 0 && kind != k; up++) kind = KIND_ABOVE[kind];
        return kind == k ? book.ageOn(person, day) : OTHER_KIND;
    }

    // ---- acts

    public int feed(long w, int n) {
        if (n < 1 || n > 8) return BAD;
        if (tape.size + n > MAX_TAPE) return FULL;
        for (int i = n - 1; i >= 0; i--) tape.addByte((int) (w >>> (8 * i)) & 255);
        return tape.size;
    }

    public int text(int day) {
        if (!isDay(day)) return BAD;
        if (laws.count >= MAX_ACTS) return FULL;
        Act act = laws.spareAct();
        int fault = tape.readAct(act);
        tape.size = 0;
        if (fault >= 0) return NO_ACT - fault;
        laws.addAct(act, day);
        laws.spare = null;
        return laws.count - 1;
    }

    public int force(int act, int what) {
        Act known = laws.actAt(act);
        if (known == null) return NONE;
        if (what == 0) return known.day;
        if (what == 1) return known.clauses;
        if (what == 2) return known.begun ? 1 : 0;
        return what >= 10 && known.hasClause(what - 10) ? known.subject[what - 10] : NONE;
    }

    public int out(int act, int clause, int day) {
        Act known = laws.actAt(act);
        if (known == null || !known.hasClause(clause)) return NONE;
        if (!isDay(day)) return BAD;
        boolean first = known.outFrom[clause] == NEVER;
        known.outFrom[clause] = Math.min(known.outFrom[clause], day);
        return first ? 1 : 0;
    }

    public int rule(int subject, int man, int day, int e) {
        int refusal = refuseRule(subject, man, day, e);
        return refusal < 0 ? refusal : laws.ruling(subject, day);
    }

    public int why(int subject, int man, int day, int e) {
        int refusal = refuseRule(subject, man, day, e);
        if (refusal < 0) return refusal;
        laws.ruling(subject, day);
        return laws.foundClause;
    }

    public int quarrel(int subject, int man, int day, int e) {
        int refusal = refuseRule(subject, man, day, e);
        if (refusal < 0) return refusal;
        laws.ruling(subject, day);
        return laws.otherClause(subject, day);
    }

    /** What rule, why and quarrel refuse; 0 if nothing: then the man's names are told to the laws. */
    private int refuseRule(int subject, int man, int day, int e) {
        if (!isSubject(subject) || man != NONE && !book.isMan(man) || !book.isReach(e)) return NONE;
        if (!isDay(day)) return BAD;
        lives.readBook(e);
        laws.nameFor(lives, man, day);
        return 0;
    }

    // ---- coins

    public long owe(int man, int year, int e, int what) {
        if (!book.isMan(man) || !isYear(year) || !book.isReach(e)) return NO;
        lives.readBook(e);
        switch (what) {
            case 0: return coins.duesOf(man, year);
            case 1: return coins.taxOf(man, year);
            case 2: return coins.arrearsOf(man, year);
            case 3: return lives.paidIn(man, year);
            default: return NO;
        }
    }

    public long vacant(int year, int e) {
        if (!isYear(year) || !book.isReach(e)) return NO;
        lives.readBook(e);
        return coins.vacantIn(year);
    }

    public long rent(int woman, int year, int e) {
        if (!book.isWoman(woman) || !isYear(year) || !book.isReach(e)) return NO;
        coins.look(e);
        return coins.rentOf(woman, year);
    }

    public long widow(int woman, int day, int e) {
        if (!book.isWoman(woman) || !isDay(day) || !book.isReach(e)) return NO;
        coins.look(e);
        return coins.yearlyRent(woman, day);
    }

    public long sum(int person, int year, int e) {
        if (!book.isPerson(person) || !isYear(year) || !book.isReach(e)) return NO;
        coins.look(e);
        return coins.sumOf(person, year);
    }

    public int begin(int coins) {
        if (coins < 0 || coins > MAX_BEGIN) return BAD;
        int was = this.coins.began;
        this.coins.began = coins;
        return was;
    }

    public long chest(int year, int e) {
        if (!isYear(year) || !book.isReach(e)) return NO;
        coins.look(e);
        return coins.chestBehind(year);
    }

    public int loan(int coins, int year, int n, int hundredths) {
        if (coins < 1 || coins > MAX_COINS || !isYear(year)) return BAD;
        if (n < 1 || n > MAX_LOAN_YEARS || hundredths < 0 || hundredths > MAX_HUNDREDTHS) return BAD;
        if (loans.count >= MAX_LOANS) return FULL;
        return loans.give(coins, year, n, hundredths);
    }

    public int bad(int loan, int year) {
        if (loan < 0 || loan >= loans.count) return NONE;
        if (!isYear(year)) return BAD;
        boolean first = loans.badFrom[loan] == YEARS;
        loans.badFrom[loan] = Math.min(loans.badFrom[loan], year);
        return first ? 1 : 0;
    }

    public long due(int loan, int year) {
        if (loan < 0 || loan >= loans.count || !isYear(year)) return NO;
        return loans.comesOf(loan, year);
    }

    // ---- tables

    public int table(int age, int n) {
        if (age < 0 || age >= AGES - 1) return NONE;
        if (n < 0 || n > 1000) return BAD;
        int was = tables.deaths[age];
        tables.deaths[age] = n;
        return was;
    }

    public int own(int age, int day, int e, int what) {
        if (!isAge(age) || !book.isReach(e) || what < 0 || what > 1) return NONE;
        if (!isDay(day)) return BAD;
        lives.readBook(e);
        int many = lives.diedAtAge(age, day);
        return what == 0 ? many : many + lives.livedThrough(age, day);
    }

    public int alive(int age, int n) {
        if (!isAge(age)) return NONE;
        if (n < 0 || n > 100) return BAD;
        return tables.aliveAfter(age, n);
    }

    public int expect(int age) {
        return isAge(age) ? tables.yearsAhead(age) : NONE;
    }

    public int interest(int n) {
        if (n < 0 || n > MAX_HUNDREDTHS) return BAD;
        int was = tables.interest;
        tables.interest = n;
        return was;
    }

    public long worth(int coins, int age) {
        if (!isAge(age) || coins < 0 || coins > MAX_COINS) return NO;
        return tables.worthOf(coins, age);
    }

    public long value(int year, int e) {
        if (!isYear(year) || !book.isReach(e)) return NO;
        coins.look(e);
        return coins.chestBehind(year) + coins.promises(tables, year * YEAR_DAYS + YEAR_DAYS - 1);
    }

    // ---- rows, steps

    public int row() {
        if (trials.rows >= MAX_ROWS) return FULL;
        trials.rows++;
        return trials.rows - 1;
    }

    public int rows(int row, int person, int year) {
        if (row < 0 || row >= trials.rows || !book.isPerson(person)) return NONE;
        if (!isYear(year)) return BAD;
        if (trials.deaths[row] >= MAX_ROW_DEATHS) return FULL;
        return trials.addDeath(row, person, year);
    }

    public int shortBy(int row, int year, int n) {
        if (row < NONE || row >= trials.rows) return NONE;
        if (!isYear(year) || n < 1 || n > MAX_TRIAL_YEARS) return BAD;
        coins.look(NONE);
        long chest = coins.chestBehind(year);
        coins.lookByRow(row);
        return coins.shortYear(chest, year, n);
    }

    public int step(int subject, int hundredths) {
        if (subject != DUE && subject != RENT && subject != TAX) return NONE;
        if (hundredths < 0 || hundredths > MAX_STEP) return BAD;
        if (trials.steps >= MAX_STEPS) return FULL;
        return trials.addStep(subject, hundredths);
    }

    public int plan(int year, int n, int what) {
        if (what < 0 || what > 1) return NONE;
        if (!isYear(year) || n < 1 || n > MAX_TRIAL_YEARS) return BAD;
        coins.look(NONE);
        long chest = coins.chestBehind(year);
        int least = coins.leastDue(year * YEAR_DAYS + YEAR_DAYS - 1);
        int best = NOT_THERE;
        for (int set = 0; set < 1 << trials.steps; set++) {
            if (!trials.hasOneEach(set) || best >= 0 && !trials.isBetter(set, best, least)) continue;
            coins.set = set;
            boolean kept = true;
            for (int row = 0; kept && row < trials.rows; row++) {
                coins.lookByRow(row);
                kept = coins.shortYear(chest, year, n) < 0;
            }
            if (kept) best = set;
        }
        coins.set = 0;
        if (best < 0 || what == 0) return best;
        return least < 0 ? NOT_THERE : trials.stepped(best, DUE, least);
    }

    public long tried(int day, int year) {
        if (!isYear(year) || !isDay(day)) return NO;
        Act act = laws.spareAct();
        int fault = tape.readAct(act);
        tape.size = 0;
        if (fault >= 0) return NO + 1;
        laws.addAct(act, day);
        coins.look(NONE);
        long chest = coins.chestBehind(year);
        laws.dropLastAct();
        return chest;
    }

    // ---- a told year

    public long told(int person, int what, long coins) {
        boolean ofChest = person == NONE && what == 0;
        if (!ofChest && (!book.isPerson(person) || what < 0 || what > 2)) return NO;
        if (coins < -MAX_TOLD || coins > MAX_TOLD) return NO + 1;
        return toldYear.exchange(ofChest ? ToldYear.CHEST : 3 * person + what, coins);
    }

    public int check(int year, int e) {
        if (!book.isReach(e)) return NONE;
        if (!isYear(year)) return BAD;
        coins.look(e);
        for (int place = 0; place < 3 * book.persons; place++) {
            if (toldYear.numbers[place] != coins.numberOf(place / 3, place % 3, year)) return place;
        }
        return toldYear.numbers[ToldYear.CHEST] == coins.chestBehind(year) ? NOT_THERE : CHEST_IS_WRONG;
    }

    public int judge(int year, int e) {
        if (!book.isReach(e)) return NONE;
        if (!isYear(year)) return BAD;
        coins.look(e);
        int changed = 0;
        for (int place = 0; place < 3 * book.persons; place++) {
            long number = coins.numberOf(place / 3, place % 3, year);
            if (toldYear.exchange(place, number) != number) changed++;
        }
        long chest = coins.chestBehind(year);
        return toldYear.exchange(ToldYear.CHEST, chest) != chest ? changed + 1 : changed;
    }

    public int count(int what) {
        switch (what) {
            case 0: return book.persons;
            case 1: return book.entries;
            case 2: return laws.count;
            case 3: return book.seats;
            case 4: return loans.count;
            case 5: return trials.rows;
            case 6: return trials.steps;
            case 7: return tape.size;
            case 8: return tables.interest;
            default: return NONE;
        }
    }

    private static boolean isDay(int day) {
        return day >= 0 && day < DAYS;
    }

    private static boolean isYear(int year) {
        return year >= 0 && year < YEARS;
    }

    private static boolean isAge(int age) {
        return age >= 0 && age < AGES;
    }

    private static boolean isRate(int rate) {
        return rate >= 0 && rate <= MAX_RATE;
    }

    private static boolean isSubject(int subject) {
        return subject >= 0 && subject < SUBJECTS;
    }

    /** The persons, and the entries as they were told. */
    private static final class Book {
        final int[] sex = new int[MAX_PERSONS];
        final int[] birth = new int[MAX_PERSONS];
        final int[] father = new int[MAX_PERSONS];
        final int[] mother = new int[MAX_PERSONS];
        int persons;
        int seats;
        boolean anyJoined;

        final int[] which = new int[MAX_ENTRIES];
        final int[] who = new int[MAX_ENTRIES];
        final int[] other = new int[MAX_ENTRIES];
        final int[] day = new int[MAX_ENTRIES];
        final int[] joinRate = new int[MAX_ENTRIES];
        /** The entry that struck this one; MAX_ENTRIES: none did. */
        final int[] struckBy = new int[MAX_ENTRIES];
        int entries;
        /** The entries that have a day, by days, like days as told. */
        final int[] byDay = new int[MAX_ENTRIES];
        int dated;

        boolean isPerson(int person) {
            return person >= 0 && person < persons;
        }

        boolean isMan(int person) {
            return isPerson(person) && sex[person] == 0;
        }

        boolean isWoman(int person) {
            return isPerson(person) && sex[person] == 1;
        }

        boolean isEntry(int entry) {
            return entry >= 0 && entry < entries;
        }

        boolean isReach(int e) {
            return e >= NONE && e <= entries;
        }

        int ageOn(int person, int onDay) {
            return isPerson(person) ? Math.max(0, onDay - birth[person]) / YEAR_DAYS : 0;
        }

        int addPerson(int itsSex, int itsBirth, int itsFather, int itsMother) {
            if (persons >= MAX_PERSONS) return FULL;
            sex[persons] = itsSex;
            birth[persons] = itsBirth;
            father[persons] = itsFather;
            mother[persons] = itsMother;
            return persons++;
        }

        int addEntry(int itsWhich, int itsWho, int itsOther, int itsDay, int itsRate) {
            if (entries >= MAX_ENTRIES) return FULL;
            which[entries] = itsWhich;
            who[entries] = itsWho;
            other[entries] = itsOther;
            day[entries] = itsDay;
            joinRate[entries] = itsRate;
            struckBy[entries] = MAX_ENTRIES;
            if (itsWhich == JOINED) anyJoined = true;
            if (itsWhich == STRUCK) {
                if (isEntry(itsWho)) struckBy[itsWho] = entries;
            } else {
                putByDay(entries);
            }
            return entries++;
        }

        private void putByDay(int entry) {
            if (dated >= MAX_ENTRIES) return;
            int place = dated;
            for (; place > 0 && day[byDay[place - 1]] > day[entry]; place--) byDay[place] = byDay[place - 1];
            byDay[place] = entry;
            dated++;
        }

        /** Whether an entry is so by the first ones. */
        boolean isSo(int entry, int first) {
            return entry < first && which[entry] != STRUCK && struckBy[entry] >= first;
        }
    }

    /** The lives as they are by some first entries of the book. */
    private static final class Lives {
        final Book book;
        final int[] dies = new int[MAX_PERSONS];
        /** A person's entries but deaths, by days: list from..till. */
        final int[] from = new int[MAX_PERSONS];
        final int[] till = new int[MAX_PERSONS];
        final int[] list = new int[2 * MAX_ENTRIES];

        Lives(Book itsBook) {
            book = itsBook;
        }

        void readBook(int e) {
            int first = e < 0 || e > book.entries ? book.entries : e;
            Arrays.fill(dies, NEVER);
            Arrays.fill(till, 0);
            for (int i = 0; i < first; i++) {
                if (!book.isSo(i, first)) continue;
                if (book.which[i] == DEATH) {
                    dies[book.who[i]] = book.day[i];
                } else {
                    till[book.who[i]]++;
                    if (book.which[i] == WEDDING) till[book.other[i]]++;
                }
            }
            int place = 0;
            for (int p = 0; p < MAX_PERSONS; p++) {
                from[p] = place;
                place += till[p];
                till[p] = from[p];
            }
            for (int k = 0; k < book.dated; k++) {
                int entry = book.byDay[k];
                if (!book.isSo(entry, first) || book.which[entry] == DEATH) continue;
                listFor(book.who[entry], entry);
                if (book.which[entry] == WEDDING) listFor(book.other[entry], entry);
            }
        }

        private void listFor(int person, int entry) {
            if (till[person] < list.length) list[till[person]++] = entry;
        }

        boolean livesOn(int person, int day) {
            return book.birth[person] <= day && day < dies[person];
        }

        /** The last entry of a person, of some kinds, on or ahead of a day. */
        int lastOf(int person, int day, int kinds) {
            int last = NONE;
            for (int k = from[person]; k < till[person]; k++) {
                int entry = list[k];
                if (book.day[entry] > day) break;
                if ((kinds >> book.which[entry] & 1) != 0) last = entry;
            }
            return last;
        }

        int firstOf(int person, int day, int kinds) {
            for (int k = from[person]; k < till[person]; k++) {
                int entry = list[k];
                if (book.day[entry] > day) break;
                if ((kinds >> book.which[entry] & 1) != 0) return entry;
            }
            return NONE;
        }

        int howMany(int person, int day, int kinds) {
            int many = 0;
            for (int k = from[person]; k < till[person]; k++) {
                int entry = list[k];
                if (book.day[entry] > day) break;
                if ((kinds >> book.which[entry] & 1) != 0) many++;
            }
            return many;
        }

        int wedTo(int person, int day) {
            int wedding = lastOf(person, day, WEDDINGS);
            if (wedding < 0) return NONE;
            int mate = book.who[wedding] == person ? book.other[wedding] : book.who[wedding];
            return livesOn(person, day) && livesOn(mate, day) ? mate : NONE;
        }

        int standing(int person, int day) {
            if (!livesOn(person, day)) return OUTSIDE;
            int last = lastOf(person, day, STANDINGS);
            if (last < 0) return OUTSIDE;
            if (book.which[last] == GONE) return AWAY;
            return firstOf(person, day, JOININGS) < 0 ? OUTSIDE : INSIDE;
        }

        int seatOf(int person, int day) {
            int joined = lastOf(person, day, JOININGS);
            return joined < 0 ? NONE : book.other[joined];
        }

        int rateOf(int person, int day) {
            int last = lastOf(person, day, RATINGS);
            if (last < 0) return NONE;
            return book.which[last] == JOINED ? book.joinRate[last] : book.other[last];
        }

        boolean isTaken(int seat, int day) {
            for (int p = 0; p < book.persons; p++) {
                if (from[p] < till[p] && seatOf(p, day) == seat && standing(p, day) == INSIDE) return true;
            }
            return false;
        }

        long paidIn(int man, int year) {
            long paid = 0;
            for (int k = from[man]; k < till[man]; k++) {
                int entry = list[k];
                if (book.which[entry] == PAID && book.day[entry] / YEAR_DAYS == year) paid += book.other[entry];
            }
            return paid;
        }

        int diedAtAge(int age, int day) {
            int many = 0;
            for (int p = 0; p < book.persons; p++) {
                if (dies[p] <= day && book.ageOn(p, dies[p]) == age) many++;
            }
            return many;
        }

        int livedThrough(int age, int day) {
            int many = 0;
            for (int p = 0; p < book.persons; p++) {
                int lastDay = book.birth[p] + YEAR_DAYS * age + YEAR_DAYS - 1;
                if (lastDay <= day && livesOn(p, lastDay)) many++;
            }
            return many;
        }
    }

    /** One act: its clauses' sums and conditions as codes, operands ahead of their signs. */
    private static final class Act {
        int day;
        boolean begun;
        int clauses;
        final int[] subject = new int[MAX_CLAUSES];
        final int[] sumFrom = new int[MAX_CLAUSES];
        final int[] conditionsFrom = new int[MAX_CLAUSES];
        final int[] conditionsTill = new int[MAX_CLAUSES];
        final int[] outFrom = new int[MAX_CLAUSES];
        final int[] code = new int[MAX_TAPE];
        int size;

        void clear() {
            begun = false;
            clauses = 0;
            size = 0;
            Arrays.fill(outFrom, NEVER);
        }

        boolean hasClause(int place) {
            return place >= 0 && place < clauses;
        }

        void emit(int sign) {
            if (size < MAX_TAPE) code[size++] = sign;
        }
    }

    /** The tape, and how it is read as an act. */
    private static final class Tape {
        final int[] bytes = new int[MAX_TAPE];
        int size;
        /** The byte that is read next; where reading stops short, it is the fault. */
        private int at;
        /** Signs that wait for what stands behind them; parentheses are no calls here, as they may nest deep. */
        private final int[] signs = new int[MAX_TAPE];
        private int waiting;

        void addByte(int b) {
            if (size < MAX_TAPE) bytes[size++] = b;
        }

        /** Reads an act: NONE, or the place of the fault. */
        int readAct(Act act) {
            act.clear();
            at = 0;
            if (next() == 'b') {
                if (!readAll("begun;")) return at;
                act.begun = true;
            }
            for (int clause = 0; clause < MAX_CLAUSES; clause++) {
                if (!readClause(act)) return at;
                if (at >= size) return NONE;
                if (next() != ';' || clause == MAX_CLAUSES - 1) return at;
                at++;
            }
            return at;
        }

        private int next() {
            return at < size && at < MAX_TAPE ? bytes[at] : NONE;
        }

        private boolean readAll(String word) {
            for (int i = 0; i < word.length(); i++) {
                if (next() != word.charAt(i)) return false;
                at++;
            }
            return true;
        }

        private boolean readClause(Act act) {
            int place = act.clauses;
            if (place >= MAX_CLAUSES) return false;
            int subject = readWord(SUBJECT_WORDS);
            if (subject < 0 || !readAll("=")) return false;
            act.subject[place] = subject;
            act.sumFrom[place] = act.size;
            if (!readSum(act)) return false;
            act.conditionsFrom[place] = act.size;
            for (int turn = 0; turn < MAX_TAPE && next() == ' '; turn++) {
                if (!readAll(turn == 0 ? " if " : " and ") || !readSum(act)) return false;
                int code = compareCode(next());
                if (code == NONE) return false;
                at++;
                if (!readSum(act)) return false;
                act.emit(code);
            }
            act.conditionsTill[place] = act.size;
            act.clauses++;
            return true;
        }

        private static int compareCode(int b) {
            if (b == '<') return CODE_LESS;
            if (b == '=') return CODE_LIKE;
            return b == '>' ? CODE_MORE : NONE;
        }

        /** Reads as far as a sum goes; false: there it can't go on. */
        private boolean readSum(Act act) {
            waiting = 0;
            int open = 0;
            boolean wantsOne = true;
            for (int turn = 0; turn <= MAX_TAPE; turn++) {
                int b = next();
                if (wantsOne && b == '(') {
                    hold(b);
                    open++;
                } else if (wantsOne) {
                    if (!readOne(act)) return false;
                    wantsOne = false;
                } else if (b == ')' && open > 0) {
                    release(act, 1);
                    if (waiting > 0) waiting--;
                    open--;
                    at++;
                } else if (b == '+' || b == '-' || b == '*') {
                    release(act, strength(b));
                    hold(b);
                    wantsOne = true;
                } else {
                    release(act, 1);
                    return open == 0;
                }
            }
            return false;
        }

        private void hold(int sign) {
            if (waiting < MAX_TAPE) signs[waiting++] = sign;
            at++;
        }

        private void release(Act act, int strength) {
            for (; waiting > 0 && strength(signs[waiting - 1]) >= strength; waiting--) {
                int sign = signs[waiting - 1];
                act.emit(sign == '+' ? CODE_PLUS : sign == '-' ? CODE_MINUS : CODE_TIMES);
            }
        }

        private static int strength(int sign) {
            if (sign == '(') return 0;
            return sign == '*' ? 2 : 1;
        }

        private boolean readOne(Act act) {
            if (isDigit(next())) {
                act.emit(readNumber());
                return true;
            }
            int name = readWord(NAME_WORDS);
            if (name < 0) return false;
            act.emit(CODE_NAME - name);
            return true;
        }

        private int readNumber() {
            int number = next() - '0';
            at++;
            if (number == 0) return 0;
            for (int digits = 1; digits < 4 && isDigit(next()); digits++) {
                number = 10 * number + next() - '0';
                at++;
            }
            return number;
        }

        private static boolean isDigit(int b) {
            return b >= '0' && b <= '9';
        }

        /** The number of the word that stands next, or NONE behind the letters that some word begins with. */
        private int readWord(String words) {
            int longest = 0;
            int found = NONE;
            int number = 0;
            int start = 0;
            for (int i = 0; i < words.length(); i++) {
                if (words.charAt(i) != ' ') continue;
                int like = likeLetters(words, start, i);
                if (like > longest) {
                    longest = like;
                    found = NONE;
                }
                if (like == longest && like == i - start) found = number;
                number++;
                start = i + 1;
            }
            at += longest;
            return found;
        }

        private int likeLetters(String words, int start, int end) {
            int like = 0;
            for (int i = start; i < end && at + like < size && bytes[at + like] == words.charAt(i); i++) like++;
            return like;
        }
    }

    /** The acts, and what their clauses come to. */
    private static final class Laws {
        private final Book book;
        final Act[] acts = new Act[MAX_ACTS + 1];
        int count;
        /** The acts' numbers by days, then numbers. */
        private final int[] order = new int[MAX_ACTS + 1];
        /** What the tape is read into; text takes it away, so that faults and trials make no more of them. */
        Act spare;
        private final int[] names = new int[NAMES];
        private final int[] stack = new int[MAX_TAPE];
        /** The clause of the last ruling, NOT_THERE if there was none, and what it came to. */
        int foundClause;
        private int foundValue;
        private int foundDay;

        Laws(Book itsBook) {
            book = itsBook;
        }

        Act spareAct() {
            if (spare == null) spare = new Act();
            return spare;
        }

        Act actAt(int number) {
            return number >= 0 && number < count ? acts[number] : null;
        }

        private int dayOf(int number) {
            Act act = actAt(number);
            return act == null ? NEVER : act.day;
        }

        void addAct(Act act, int day) {
            if (act == null || count > MAX_ACTS) return;
            act.day = day;
            int place = count;
            for (; place > 0 && dayOf(order[place - 1]) > day; place--) order[place] = order[place - 1];
            order[place] = count;
            acts[count] = act;
            count++;
        }

        void dropLastAct() {
            if (count < 1) return;
            int kept = 0;
            for (int k = 0; k < count; k++) {
                if (order[k] != count - 1) order[kept++] = order[k];
            }
            count--;
            acts[count] = null;
        }

        /** Tells what the names mean in the rulings that follow. */
        void nameFor(Lives lives, int man, int day) {
            Arrays.fill(names, 0);
            names[NAME_YEAR] = day / YEAR_DAYS;
            if (!book.isPerson(man)) return;
            int joined = lives.firstOf(man, day, JOININGS);
            names[NAME_RATE] = Math.max(0, lives.rateOf(man, day));
            names[NAME_YEARS] = joined < 0 ? 0 : (day - book.day[joined]) / YEAR_DAYS;
            names[NAME_OLD] = book.ageOn(man, day);
            names[NAME_WIVES] = lives.howMany(man, day, WEDDINGS);
        }

        /** What the rule for a subject comes to by the acts of a day. */
        int ruling(int subject, int day) {
            for (int k = count - 1; k >= 0; k--) {
                Act act = acts[order[k]];
                if (act == null || act.day > day) continue;
                for (int place = act.clauses - 1; place >= 0; place--) {
                    if (act.subject[place] != subject || act.outFrom[place] <= day) continue;
                    if (reckon(act.code, act.conditionsFrom[place], act.conditionsTill[place]) == 0) continue;
                    foundClause = 100 * order[k] + place;
                    foundDay = act.day;
                    foundValue = bounded(reckon(act.code, act.sumFrom[place], act.conditionsFrom[place]));
                    return foundValue;
                }
            }
            foundClause = NOT_THERE;
            return subject == AGE ? DEFAULT_AGE : subject == LATE ? DEFAULT_LATE : 0;
        }

        /** The clause that quarrels with that of the last ruling. */
        int otherClause(int subject, int day) {
            if (foundClause < 0) return NOT_THERE;
            for (int k = count - 1; k >= 0; k--) {
                Act act = acts[order[k]];
                if (act == null || act.day != foundDay) continue;
                for (int place = act.clauses - 1; place >= 0; place--) {
                    if (act.subject[place] != subject || act.outFrom[place] <= day) continue;
                    if (reckon(act.code, act.conditionsFrom[place], act.conditionsTill[place]) == 0) continue;
                    int value = bounded(reckon(act.code, act.sumFrom[place], act.conditionsFrom[place]));
                    if (value != foundValue) return 100 * order[k] + place;
                }
            }
            return NOT_THERE;
        }

        private static int bounded(int value) {
            return value < 0 ? 0 : value > MAX_COINS ? MAX_COINS : value;
        }

        /** A sum's number; of conditions 0 if one does not hold, else 1. */
        private int reckon(int[] code, int start, int end) {
            int high = 0;
            for (int i = start; i < end; i++) {
                int sign = code[i];
                if (sign > CODE_PLUS) {
                    if (high >= MAX_TAPE) return 0;
                    stack[high++] = sign >= 0 ? sign : names[CODE_NAME - sign];
                    continue;
                }
                if (high < 2) return 0;
                int left = stack[high - 2];
                int right = stack[high - 1];
                high -= 2;
                switch (sign) {
                    case CODE_PLUS: stack[high++] = left + right; break;
                    case CODE_MINUS: stack[high++] = left - right; break;
                    case CODE_TIMES: stack[high++] = left * right; break;
                    case CODE_LESS: if (left >= right) return 0; break;
                    case CODE_LIKE: if (left != right) return 0; break;
                    default: if (left <= right) return 0; break;
                }
            }
            return high > 0 ? stack[high - 1] : 1;
        }

        /** The day of the latest act for begun rents behind one day, up to another; that one day if there is none. */
        int latestBegun(int behind, int upTo) {
            int latest = behind;
            for (int k = 0; k < count; k++) {
                Act act = acts[k];
                if (act != null && act.begun && act.day > latest && act.day <= upTo) latest = act.day;
            }
            return latest;
        }

        /** The day of the first act for begun rents behind a day, or the end. */
        int nextBegun(int behind, int end) {
            int next = end;
            for (int k = 0; k < count; k++) {
                Act act = acts[k];
                if (act != null && act.begun && act.day > behind && act.day < next) next = act.day;
            }
            return next;
        }
    }

    /** The loans on land. */
    private static final class Loans {
        int count;
        private final int[] coins = new int[MAX_LOANS];
        private final int[] given = new int[MAX_LOANS];
        private final int[] years = new int[MAX_LOANS];
        private final int[] hundredths = new int[MAX_LOANS];
        final int[] badFrom = new int[MAX_LOANS];

        int give(int itsCoins, int year, int n, int itsHundredths) {
            if (count >= MAX_LOANS) return FULL;
            coins[count] = itsCoins;
            given[count] = year;
            years[count] = n;
            hundredths[count] = itsHundredths;
            badFrom[count] = YEARS;
            return count++;
        }

        long comesOf(int loan, int year) {
            int age = year - given[loan];
            if (age == 0) return -coins[loan];
            if (age < 0 || age > years[loan] || year >= badFrom[loan]) return 0;
            long paid = coins[loan] * hundredths[loan] / 100;
            return age == years[loan] ? paid + coins[loan] : paid;
        }

        long allComes(int year) {
            long all = 0;
            for (int loan = 0; loan < count; loan++) all += comesOf(loan, year);
            return all;
        }
    }

    /** The told table of deaths and the interest, and what yearly coins are worth by them. */
    private static final class Tables {
        final int[] deaths = new int[AGES];
        int interest = 4;

        Tables() {
            for (int age = 0; age < AGES - 1; age++) deaths[age] = 10 + age;
            deaths[AGES - 1] = 1000;
        }

        private int afterYear(int alive, int age) {
            return age < AGES ? alive - (int) ((long) alive * deaths[age] / 1000) : 0;
        }

        int aliveAfter(int age, int n) {
            int alive = 1000000;
            for (int year = 0; year < n; year++) alive = afterYear(alive, age + year);
            return alive;
        }

        int yearsAhead(int age) {
            int alive = 1000000;
            int all = 0;
            for (int a = age; a < AGES; a++) {
                alive = afterYear(alive, a);
                all += alive;
            }
            return all;
        }

        long worthOf(int coins, int age) {
            int alive = 1000000;
            long v = 1000000;
            long all = 0;
            for (int a = age; a < AGES; a++) {
                alive = afterYear(alive, a);
                v = v * 100 / (100 + interest);
                all += coins * (alive * v);
            }
            return all / 1000000000000L;
        }
    }

    /** The rows of deaths, and the steps. */
    private static final class Trials {
        private final Book book;
        int rows;
        final int[] deaths = new int[MAX_ROWS];
        private final int[] who = new int[MAX_ROWS * MAX_ROW_DEATHS];
        private final int[] year = new int[MAX_ROWS * MAX_ROW_DEATHS];
        int steps;
        private final int[] subject = new int[MAX_STEPS];
        private final int[] hundredths = new int[MAX_STEPS];

        Trials(Book itsBook) {
            book = itsBook;
        }

        int addDeath(int row, int person, int itsYear) {
            int place = row * MAX_ROW_DEATHS + deaths[row];
            who[place] = person;
            year[place] = itsYear;
            deaths[row]++;
            return deaths[row];
        }

        int addStep(int itsSubject, int itsHundredths) {
            subject[steps] = itsSubject;
            hundredths[steps] = itsHundredths;
            return steps++;
        }

        void dieByRow(Lives lives, int row) {
            for (int i = 0; i < deaths[row]; i++) {
                int place = row * MAX_ROW_DEATHS + i;
                int day = year[place] * YEAR_DAYS + YEAR_DAYS / 2;
                if (lives.livesOn(who[place], day)) lives.dies[who[place]] = day;
            }
        }

        boolean hasOneEach(int set) {
            int seen = 0;
            for (int i = 0; i < steps; i++) {
                if ((set >> i & 1) == 0) continue;
                int bit = 1 << subject[i];
                if ((seen & bit) != 0) return false;
                seen |= bit;
            }
            return true;
        }

        /** Whether by a set, the least due being so much, less is paid, or the same with fewer steps, than by the best. */
        boolean isBetter(int some, int best, int least) {
            int dues = stepped(some, DUE, Math.max(0, least));
            int bestDues = stepped(best, DUE, Math.max(0, least));
            if (dues != bestDues) return dues < bestDues;
            return Integer.bitCount(some) < Integer.bitCount(best);
        }

        /** What the rule for a subject comes to by a set of steps. */
        int stepped(int set, int itsSubject, int coins) {
            if (set == 0) return coins;
            for (int i = 0; i < steps; i++) {
                if ((set >> i & 1) != 0 && subject[i] == itsSubject) return coins * hundredths[i] / 100;
            }
            return coins;
        }
    }

    /** The coins of the years, by the lives and the laws. */
    private static final class Coins {
        private final Book book;
        private final Lives lives;
        private final Laws laws;
        private final Loans loans;
        private final Trials trials;
        int began;
        /** Whether a dead man was a member, or gone and kept, on the day ahead of his death. */
        private final boolean[] kept = new boolean[MAX_PERSONS];
        /** The set of steps that is tried; 0 but in trials. */
        int set;

        Coins(Book itsBook, Lives itsLives, Laws itsLaws, Loans itsLoans, Trials itsTrials) {
            book = itsBook;
            lives = itsLives;
            laws = itsLaws;
            loans = itsLoans;
            trials = itsTrials;
        }

        /** All that follows goes by the first e entries. */
        void look(int e) {
            lives.readBook(e);
            markKept();
        }

        /** All that follows goes by all entries and the deaths of a row. */
        void lookByRow(int row) {
            lives.readBook(NONE);
            if (row >= 0 && row < trials.rows) trials.dieByRow(lives, row);
            markKept();
        }

        private void markKept() {
            for (int p = 0; p < book.persons; p++) {
                int ahead = lives.dies[p] - 1;
                int standing = lives.dies[p] == NEVER ? OUTSIDE : lives.standing(p, ahead);
                kept[p] = standing == INSIDE || standing == AWAY && comesTo(KEEPS, p, ahead) > 0;
            }
        }

        private int comesTo(int subject, int man, int day) {
            laws.nameFor(lives, man, day);
            return trials.stepped(set, subject, laws.ruling(subject, day));
        }

        int kindOf(int person, int day) {
            if (!lives.livesOn(person, day)) return NOT_THERE;
            int standing = lives.standing(person, day);
            if (standing == AWAY) return KIND_GONE;
            if (standing == INSIDE) {
                if (lives.howMany(person, day, WEDDINGS) > 1) return KIND_AGAIN;
                return isLate(person, day) ? KIND_LATE : KIND_MEMBER;
            }
            if (deadHusband(person, day) != NONE) return KIND_WIDOW;
            int father = book.father[person];
            boolean orphaned = father >= 0 && lives.dies[father] <= day && kept[father];
            return orphaned && book.ageOn(person, day) < comesTo(AGE, NONE, day) ? KIND_ORPHAN : KIND_LIFE;
        }

        private boolean isLate(int man, int day) {
            int joined = lives.firstOf(man, day, JOININGS);
            if (joined < 0) return false;
            int that = book.day[joined];
            return book.ageOn(man, that) > comesTo(LATE, man, that);
        }

        /** The man whose widow a person is on a day. */
        private int deadHusband(int woman, int day) {
            if (!book.isWoman(woman) || !lives.livesOn(woman, day)) return NONE;
            int wedding = lives.lastOf(woman, day, WEDDINGS);
            if (wedding < 0) return NONE;
            int man = book.who[wedding];
            return lives.dies[man] <= day && kept[man] ? man : NONE;
        }

        long duesOf(int man, int year) {
            int day = year * YEAR_DAYS;
            return lives.standing(man, day) == INSIDE ? comesTo(DUE, man, day) : 0;
        }

        long taxOf(int man, int year) {
            long tax = 0;
            boolean first = true;
            for (int k = lives.from[man]; k < lives.till[man]; k++) {
                int entry = lives.list[k];
                if (book.which[entry] != WEDDING) continue;
                int day = book.day[entry];
                if (!first && day / YEAR_DAYS == year && lives.standing(man, day) == INSIDE) tax += comesTo(TAX, man, day);
                first = false;
            }
            return tax;
        }

        long arrearsOf(int man, int year) {
            long arrears = 0;
            for (int y = 0; y <= year; y++) {
                arrears += duesOf(man, y) + taxOf(man, y) - lives.paidIn(man, y);
                if (arrears > 0) {
                    arrears += arrears * comesTo(FINE, man, y * YEAR_DAYS + YEAR_DAYS - 1) / 100;
                    arrears = Math.min(arrears, MAX_ARREARS);
                }
            }
            return arrears;
        }

        long vacantIn(int year) {
            int day = year * YEAR_DAYS;
            int taken = 0;
            for (int p = 0; p < book.persons; p++) {
                if (lives.from[p] < lives.till[p] && lives.standing(p, day) == INSIDE) taken |= 1 << lives.seatOf(p, day);
            }
            return (long) (book.seats - Integer.bitCount(taken)) * comesTo(VACANT, NONE, day);
        }

        long yearlyRent(int woman, int day) {
            int man = deadHusband(woman, day);
            if (man < 0) return 0;
            int ahead = lives.dies[man] - 1;
            laws.nameFor(lives, man, ahead);
            return trials.stepped(set, RENT, laws.ruling(RENT, laws.latestBegun(ahead, day)));
        }

        long rentOf(int woman, int year) {
            int end = year * YEAR_DAYS + YEAR_DAYS;
            int day = year * YEAR_DAYS;
            long all = 0;
            for (int turn = 0; turn < YEAR_DAYS && day < end; turn++) {
                int next = nextChange(woman, day, end);
                all += yearlyRent(woman, day) * (next - day);
                day = next;
            }
            return all / YEAR_DAYS;
        }

        /** The first day behind a day from which a woman's rent may be another one, or the end. */
        private int nextChange(int woman, int day, int end) {
            int next = sooner(laws.nextBegun(day, end), lives.dies[woman], day);
            for (int k = lives.from[woman]; k < lives.till[woman]; k++) {
                int wedding = lives.list[k];
                next = sooner(next, book.day[wedding], day);
                next = sooner(next, lives.dies[book.who[wedding]], day);
            }
            return next;
        }

        private static int sooner(int next, int change, int day) {
            return change > day && change < next ? change : next;
        }

        /** The sum that a man leaves to his children, whether there are any or not. */
        private long sumLeft(int man) {
            if (!kept[man]) return 0;
            int day = lives.dies[man];
            for (int p = 0; p < book.persons; p++) {
                if (deadHusband(p, day) == man) return 0;
            }
            return comesTo(SUM, man, day - 1);
        }

        /** How many children get of a dead man's sum, of those with numbers below one. */
        private int heirsBelow(int man, int below) {
            int day = lives.dies[man];
            int limit = comesTo(AGE, NONE, day);
            int many = 0;
            for (int p = 0; p < below && p < book.persons; p++) {
                if (book.father[p] == man && lives.livesOn(p, day) && book.ageOn(p, day) < limit) many++;
            }
            return many;
        }

        long sumOf(int person, int year) {
            int man = book.father[person];
            if (man < 0 || lives.dies[man] / YEAR_DAYS != year) return 0;
            int place = heirsBelow(man, person);
            if (heirsBelow(man, person + 1) == place) return 0;
            int heirs = heirsBelow(man, book.persons);
            if (heirs < 1) return 0;
            long sum = sumLeft(man);
            return sum / heirs + (place < sum % heirs ? 1 : 0);
        }

        /** What comes in and goes out in a year, but for what members pay. */
        private long apartFromMembers(int year) {
            long coins = vacantIn(year) + loans.allComes(year);
            for (int p = 0; p < book.persons; p++) {
                if (book.sex[p] == 1) {
                    if (lives.from[p] < lives.till[p]) coins -= rentOf(p, year);
                } else if (lives.dies[p] / YEAR_DAYS == year && heirsBelow(p, book.persons) > 0) {
                    coins -= sumLeft(p);
                }
            }
            return coins;
        }

        long chestBehind(int year) {
            long chest = began;
            for (int y = 0; y <= year; y++) {
                chest += apartFromMembers(y);
                for (int p = 0; p < book.persons; p++) chest += lives.paidIn(p, y);
            }
            return chest;
        }

        /** What the promises of a day add to the chest's value. */
        long promises(Tables tables, int day) {
            long all = 0;
            for (int p = 0; p < book.persons; p++) {
                if (!lives.livesOn(p, day)) continue;
                int age = book.ageOn(p, day);
                if (lives.standing(p, day) == INSIDE) {
                    all += tables.worthOf(comesTo(DUE, p, day), age);
                    int wife = lives.wedTo(p, day);
                    if (wife < 0) continue;
                    int rent = comesTo(RENT, p, day);
                    all -= Math.max(0, tables.worthOf(rent, book.ageOn(wife, day)) - tables.worthOf(rent, age));
                } else if (deadHusband(p, day) != NONE) {
                    all -= tables.worthOf((int) yearlyRent(p, day), age);
                }
            }
            return all;
        }

        /** The first year behind a year by which its chest, every man paying as it comes, is below 0. */
        int shortYear(long chest, int year, int n) {
            long left = chest;
            for (int y = year + 1; y <= year + n && y < YEARS; y++) {
                left += apartFromMembers(y);
                for (int p = 0; p < book.persons; p++) {
                    if (lives.from[p] < lives.till[p] && book.sex[p] == 0) left += duesOf(p, y) + taxOf(p, y);
                }
                if (left < 0) return y;
            }
            return NOT_THERE;
        }

        /** The dues of the member who pays least on a day; NOT_THERE without members. */
        int leastDue(int day) {
            int least = NOT_THERE;
            for (int p = 0; p < book.persons; p++) {
                if (lives.standing(p, day) != INSIDE) continue;
                int due = comesTo(DUE, p, day);
                if (least < 0 || due < least) least = due;
            }
            return least;
        }

        /** Of a person in a year: 0 dues, 1 rent, 2 sum. */
        long numberOf(int person, int what, int year) {
            if (what == 0) return duesOf(person, year);
            return what == 1 ? rentOf(person, year) : sumOf(person, year);
        }
    }

    /** The numbers of the told year: three for each person, and the chest. */
    private static final class ToldYear {
        static final int CHEST = 3 * MAX_PERSONS;
        final long[] numbers = new long[CHEST + 1];

        long exchange(int place, long coins) {
            if (place < 0 || place > CHEST) return NO;
            long was = numbers[place];
            numbers[place] = coins;
            return was;
        }
    }
}
