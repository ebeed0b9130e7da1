import java.util.ArrayList;
import java.util.List;
import java.util.regex.Matcher;
import java.util.regex.Pattern;

/**
 * The document once more, in its plainest form: every answer is found anew from all that was told, day by day. It is
 * slow, and knows parentheses five deep at most; ModelTest asks it and the class the same.
 */
final class PlainModel {
    static final int NONE = -1, BAD = -2, STATE = -3, FULL = -4;
    static final long NO = Long.MIN_VALUE;
    private static final String[] SUBJECTS = {"due", "rent", "sum", "tax", "vacant", "fine", "keeps", "age", "late"};
    private static final Pattern ACT = actPattern();

    private record Person(int sex, int birth, int father, int mother) {
    }

    private record Entry(int which, int who, int other, int day, int rate) {
    }

    private static final class Clause {
        int subject;
        String sum;
        List<String> conditions = new ArrayList<>();
        int out = 10000;
    }

    private static final class Act {
        int day;
        boolean begun;
        List<Clause> clauses = new ArrayList<>();
    }

    private record Loan(int coins, int year, int n, int hundredths) {
    }

    private final List<Person> persons = new ArrayList<>();
    private final List<Entry> entries = new ArrayList<>();
    private final List<Act> acts = new ArrayList<>();
    private final List<Loan> loans = new ArrayList<>();
    private final List<Integer> badFrom = new ArrayList<>();
    private final List<List<int[]>> rows = new ArrayList<>();
    private final List<int[]> steps = new ArrayList<>();
    private final StringBuilder tape = new StringBuilder();
    private final int[] table = new int[100];
    private final long[][] told = new long[24][3];
    private long toldChest;
    private int seats;
    private int began;
    private int interest = 4;
    /** Deaths that a row adds, and the steps in force; none but in trials. */
    private List<int[]> rowDeaths = List.of();
    private int stepSet;

    PlainModel() {
        for (int age = 0; age < 99; age++) table[age] = 10 + age;
        table[99] = 1000;
    }

    // ---- the grammar

    private static Pattern actPattern() {
        String one = "(?:0|[1-9][0-9]{0,3}|rate|years|old|wives|year)";
        String sum = one + "(?:[-+*]" + one + ")*";
        for (int depth = 0; depth < 5; depth++) {
            String deeper = "(?:0|[1-9][0-9]{0,3}|rate|years|old|wives|year|\\(" + sum + "\\))";
            sum = deeper + "(?:[-+*]" + deeper + ")*";
        }
        String condition = sum + "[<=>]" + sum;
        String clause = "(?:due|rent|sum|tax|vacant|fine|keeps|age|late)=" + sum + "(?: if " + condition + "(?: and "
                + condition + ")*)?";
        return Pattern.compile("(?:begun;)?" + clause + "(?:;" + clause + "){0,7}", Pattern.DOTALL);
    }

    /** The place of the first byte with which no act goes on, -1: it is an act. */
    static int faultOf(String text) {
        for (int end = 0; end <= text.length(); end++) {
            Matcher matcher = ACT.matcher(text.substring(0, end));
            boolean whole = matcher.matches();
            if (!whole && !matcher.hitEnd()) return end - 1;
            if (end == text.length()) return whole ? -1 : end;
        }
        return -1;
    }

    private static Act actOf(String text, int day) {
        Act act = new Act();
        act.day = day;
        act.begun = text.startsWith("begun;");
        for (String part : (act.begun ? text.substring(6) : text).split(";")) {
            Clause clause = new Clause();
            int equals = part.indexOf('=');
            for (int s = 0; s < 9; s++) if (SUBJECTS[s].equals(part.substring(0, equals))) clause.subject = s;
            String[] halves = part.substring(equals + 1).split(" if ");
            clause.sum = halves[0];
            if (halves.length > 1) for (String c : halves[1].split(" and ")) clause.conditions.add(c);
            act.clauses.add(clause);
        }
        return act;
    }

    private static int reckon(String sum, int[] names) {
        int depth = 0;
        int cut = -1;
        boolean plus = false;
        for (int i = 0; i < sum.length(); i++) {
            char c = sum.charAt(i);
            if (c == '(') depth++;
            if (c == ')') depth--;
            if (depth != 0) continue;
            if (c == '+' || c == '-') {
                cut = i;
                plus = true;
            }
            if (c == '*' && !plus) cut = i;
        }
        if (cut >= 0) {
            int left = reckon(sum.substring(0, cut), names);
            int right = reckon(sum.substring(cut + 1), names);
            return sum.charAt(cut) == '+' ? left + right : sum.charAt(cut) == '-' ? left - right : left * right;
        }
        switch (sum) {
            case "rate": return names[0];
            case "years": return names[1];
            case "old": return names[2];
            case "wives": return names[3];
            case "year": return names[4];
            default: return sum.charAt(0) == '(' ? reckon(sum.substring(1, sum.length() - 1), names) : Integer.parseInt(sum);
        }
    }

    private static boolean holds(Clause clause, int[] names) {
        for (String condition : clause.conditions) {
            String[] sides = condition.split("[<=>]");
            int left = reckon(sides[0], names);
            int right = reckon(sides[1], names);
            char sign = condition.charAt(sides[0].length());
            if (!(sign == '<' ? left < right : sign == '=' ? left == right : left > right)) return false;
        }
        return true;
    }

    private static int comes(Clause clause, int[] names) {
        return Math.max(0, Math.min(9999, reckon(clause.sum, names)));
    }

    // ---- lives by e

    private List<Integer> by(int e) {
        int first = e == -1 ? entries.size() : e;
        List<Integer> so = new ArrayList<>();
        for (int i = 0; i < first; i++) {
            boolean struck = entries.get(i).which == 7;
            for (int k = 0; k < first; k++) if (entries.get(k).which == 7 && entries.get(k).who == i) struck = true;
            if (!struck) so.add(i);
        }
        return so;
    }

    /** What is so, as a list that is made once for a call. */
    private List<Integer> so = List.of();
    private final int[] deathDays = new int[24];

    private void look(int e) {
        so = by(e);
        for (int p = 0; p < persons.size(); p++) {
            deathDays[p] = 10000;
            for (int i : so) if (entries.get(i).which == 0 && entries.get(i).who == p) deathDays[p] = entries.get(i).day;
        }
        for (int[] death : rowDeaths) if (lives(death[0], 100 * death[1] + 50)) deathDays[death[0]] = 100 * death[1] + 50;
    }

    private boolean lives(int p, int day) {
        return persons.get(p).birth <= day && day < deathDays[p];
    }

    private boolean isOf(Entry entry, int p) {
        return entry.who == p || entry.which == 1 && entry.other == p;
    }

    private Entry last(int p, int day, int... kinds) {
        Entry found = null;
        for (int i : so) {
            Entry entry = entries.get(i);
            for (int kind : kinds) {
                if (entry.which == kind && isOf(entry, p) && entry.day <= day && (found == null || entry.day >= found.day)) {
                    found = entry;
                }
            }
        }
        return found;
    }

    private Entry first(int p, int day, int kind) {
        Entry found = null;
        for (int i : so) {
            Entry entry = entries.get(i);
            if (entry.which == kind && isOf(entry, p) && entry.day <= day && (found == null || entry.day < found.day)) found = entry;
        }
        return found;
    }

    private int weddings(int p, int day) {
        int many = 0;
        for (int i : so) if (entries.get(i).which == 1 && isOf(entries.get(i), p) && entries.get(i).day <= day) many++;
        return many;
    }

    private int wedTo(int p, int day) {
        Entry entry = last(p, day, 1);
        if (entry == null) return -1;
        int mate = entry.who == p ? entry.other : entry.who;
        return lives(p, day) && lives(mate, day) ? mate : -1;
    }

    private boolean isMember(int p, int day) {
        Entry entry = last(p, day, 2, 4, 5);
        return lives(p, day) && entry != null && entry.which != 4 && last(p, day, 2) != null;
    }

    private boolean isGone(int p, int day) {
        Entry entry = last(p, day, 2, 4, 5);
        return lives(p, day) && entry != null && entry.which == 4;
    }

    private int seatOf(int p, int day) {
        Entry entry = last(p, day, 2);
        return entry == null ? -1 : entry.other;
    }

    private int rateOf(int p, int day) {
        Entry entry = last(p, day, 2, 3);
        return entry == null ? -1 : entry.which == 2 ? entry.rate : entry.other;
    }

    private boolean hasMember(int seat, int day) {
        for (int p = 0; p < persons.size(); p++) if (isMember(p, day) && seatOf(p, day) == seat) return true;
        return false;
    }

    private int age(int p, int day) {
        return day < persons.get(p).birth ? 0 : (day - persons.get(p).birth) / 100;
    }

    private boolean wasSuch(int man) {
        int day = deathDays[man] - 1;
        return isMember(man, day) || isGone(man, day) && ruleOf(6, man, day) > 0;
    }

    private int widowOf(int p, int day) {
        if (persons.get(p).sex != 1 || !lives(p, day)) return -1;
        Entry entry = last(p, day, 1);
        return entry != null && deathDays[entry.who] <= day && wasSuch(entry.who) ? entry.who : -1;
    }

    private int kind(int p, int day) {
        if (!lives(p, day)) return -5;
        if (isMember(p, day)) {
            if (weddings(p, day) >= 2) return 3;
            int joined = first(p, day, 2).day;
            return age(p, joined) > ruleOf(8, p, joined) ? 2 : 1;
        }
        if (isGone(p, day)) return 6;
        if (widowOf(p, day) >= 0) return 4;
        int father = persons.get(p).father;
        boolean orphan = father >= 0 && age(p, day) < ruleOf(7, -1, day) && deathDays[father] <= day && wasSuch(father);
        return orphan ? 5 : 0;
    }

    // ---- rules

    private int[] names(int man, int day) {
        if (man < 0) return new int[] {0, 0, 0, 0, day / 100};
        Entry joined = first(man, day, 2);
        return new int[] {Math.max(0, rateOf(man, day)), joined == null ? 0 : (day - joined.day) / 100, age(man, day),
            weddings(man, day), day / 100};
    }

    private int clauseOf(int subject, int[] names, int day) {
        int found = -5;
        int foundDay = -1;
        for (int a = 0; a < acts.size(); a++) {
            Act act = acts.get(a);
            if (act.day > day || act.day < foundDay) continue;
            for (int i = 0; i < act.clauses.size(); i++) {
                Clause clause = act.clauses.get(i);
                if (clause.subject == subject && clause.out > day && holds(clause, names)) {
                    found = 100 * a + i;
                    foundDay = act.day;
                }
            }
        }
        return found;
    }

    private int ruleBy(int subject, int[] names, int day) {
        int found = clauseOf(subject, names, day);
        int value = found < 0 ? subject == 7 ? 18 : subject == 8 ? 40 : 0
                : comes(acts.get(found / 100).clauses.get(found % 100), names);
        for (int i = 0; i < steps.size(); i++) {
            if ((stepSet >> i & 1) != 0 && steps.get(i)[0] == subject) value = value * steps.get(i)[1] / 100;
        }
        return value;
    }

    private int ruleOf(int subject, int man, int day) {
        return ruleBy(subject, names(man, day), day);
    }

    // ---- coins

    private long dues(int p, int year) {
        return isMember(p, 100 * year) ? ruleOf(0, p, 100 * year) : 0;
    }

    private long tax(int p, int year) {
        long all = 0;
        Entry first = first(p, 9999, 1);
        for (int i : so) {
            Entry entry = entries.get(i);
            if (entry.which != 1 || entry.who != p || entry == first || entry.day / 100 != year) continue;
            if (isMember(p, entry.day)) all += ruleOf(3, p, entry.day);
        }
        return all;
    }

    private long paid(int p, int year) {
        long all = 0;
        for (int i : so) {
            Entry entry = entries.get(i);
            if (entry.which == 6 && entry.who == p && entry.day / 100 == year) all += entry.other;
        }
        return all;
    }

    private long arrears(int p, int year) {
        if (year < 0) return 0;
        long all = arrears(p, year - 1) + dues(p, year) + tax(p, year) - paid(p, year);
        if (all > 0) all = Math.min(1000000000000L, all + all * ruleOf(5, p, 100 * year + 99) / 100);
        return all;
    }

    private long vacantCoins(int year) {
        long all = 0;
        for (int seat = 0; seat < seats; seat++) if (!hasMember(seat, 100 * year)) all += ruleOf(4, -1, 100 * year);
        return all;
    }

    private long yearly(int p, int day) {
        int man = widowOf(p, day);
        if (man < 0) return 0;
        int ahead = deathDays[man] - 1;
        int by = ahead;
        for (Act act : acts) if (act.begun && act.day > ahead && act.day <= day) by = Math.max(by, act.day);
        return ruleBy(1, names(man, ahead), by);
    }

    private long rents(int p, int year) {
        if (persons.get(p).sex != 1) return 0;
        if (first(p, 9999, 1) == null) return 0;
        long all = 0;
        for (int day = 100 * year; day < 100 * year + 100; day++) all += yearly(p, day);
        return all / 100;
    }

    private long sums(int p, int year) {
        int man = persons.get(p).father;
        if (man < 0 || deathDays[man] / 100 != year || !wasSuch(man)) return 0;
        int day = deathDays[man];
        for (int w = 0; w < persons.size(); w++) if (widowOf(w, day) == man) return 0;
        List<Integer> heirs = new ArrayList<>();
        for (int c = 0; c < persons.size(); c++) {
            if (persons.get(c).father == man && lives(c, day) && age(c, day) < ruleOf(7, -1, day)) heirs.add(c);
        }
        int place = heirs.indexOf(p);
        if (place < 0) return 0;
        int sum = ruleOf(2, man, day - 1);
        return sum / heirs.size() + (place < sum % heirs.size() ? 1 : 0);
    }

    private long comesOfLoan(int i, int year) {
        Loan loan = loans.get(i);
        if (year == loan.year) return -loan.coins;
        if (year < loan.year || year > loan.year + loan.n || badFrom.get(i) <= year) return 0;
        return loan.coins * loan.hundredths / 100 + (year == loan.year + loan.n ? loan.coins : 0);
    }

    private long withoutMembers(int year) {
        long all = vacantCoins(year);
        for (int i = 0; i < loans.size(); i++) all += comesOfLoan(i, year);
        for (int p = 0; p < persons.size(); p++) all -= rents(p, year) + sums(p, year);
        return all;
    }

    private long chestBehind(int year) {
        long all = began;
        for (int y = 0; y <= year; y++) {
            all += withoutMembers(y);
            for (int p = 0; p < persons.size(); p++) all += paid(p, y);
        }
        return all;
    }

    private int aliveAt(int age, int n) {
        long alive = 1000000;
        for (int i = 0; i < n; i++) alive = age + i > 99 ? 0 : alive - alive * table[age + i] / 1000;
        return (int) alive;
    }

    private long worthAt(int coins, int age) {
        long all = 0;
        long v = 1000000;
        for (int n = 1; n <= 100; n++) {
            v = v * 100 / (100 + interest);
            all += (long) coins * aliveAt(age, n) * v;
        }
        return all / 1000000000000L;
    }

    private int shortAt(int row, int year, int n, int set) {
        look(-1);
        long chest = chestBehind(year);
        rowDeaths = row < 0 ? List.of() : rows.get(row);
        stepSet = set;
        look(-1);
        int found = -5;
        for (int y = year + 1; y <= Math.min(99, year + n) && found < 0; y++) {
            chest += withoutMembers(y);
            for (int p = 0; p < persons.size(); p++) chest += dues(p, y) + tax(p, y);
            if (chest < 0) found = y;
        }
        rowDeaths = List.of();
        stepSet = 0;
        return found;
    }

    private long leastBy(int set, int day) {
        long least = -5;
        stepSet = set;
        for (int p = 0; p < persons.size(); p++) {
            if (isMember(p, day) && (least < 0 || ruleOf(0, p, day) < least)) least = ruleOf(0, p, day);
        }
        stepSet = 0;
        return least;
    }

    // ---- the face

    private boolean isPerson(int p) {
        return p >= 0 && p < persons.size();
    }

    private boolean isMan(int p) {
        return isPerson(p) && persons.get(p).sex == 0;
    }

    private boolean isWoman(int p) {
        return isPerson(p) && persons.get(p).sex == 1;
    }

    private boolean isE(int e) {
        return e >= -1 && e <= entries.size();
    }

    private static boolean isDay(int day) {
        return day >= 0 && day <= 9999;
    }

    private static boolean isYear(int year) {
        return year >= 0 && year <= 99;
    }

    private int tell(int which, int who, int other, int day, int rate) {
        if (entries.size() >= 200) return FULL;
        entries.add(new Entry(which, who, other, day, rate));
        return entries.size() - 1;
    }

    int seat(int many) {
        if (many < 0 || many > 10) return BAD;
        for (Entry entry : entries) if (entry.which == 2) return STATE;
        int was = seats;
        seats = many;
        return was;
    }

    int person(int sex, int birth, int father, int mother) {
        if (father != -1 && !isMan(father) || mother != -1 && !isWoman(mother)) return NONE;
        if (sex != 0 && sex != 1 || !isDay(birth)) return BAD;
        if (father != -1 && persons.get(father).birth >= birth || mother != -1 && persons.get(mother).birth >= birth) return BAD;
        if (persons.size() >= 24) return FULL;
        persons.add(new Person(sex, birth, father, mother));
        return persons.size() - 1;
    }

    int birth(int p, int what) {
        if (!isPerson(p) || what < 0 || what > 3) return NONE;
        Person it = persons.get(p);
        return new int[] {it.sex, it.birth, it.father, it.mother}[what];
    }

    int wed(int man, int woman, int day) {
        if (!isPerson(man) || !isPerson(woman)) return NONE;
        if (!isDay(day) || !isMan(man) || !isWoman(woman)) return BAD;
        look(-1);
        if (!lives(man, day) || !lives(woman, day) || wedTo(man, day) >= 0 || wedTo(woman, day) >= 0) return STATE;
        return tell(1, man, woman, day, -1);
    }

    int death(int p, int day) {
        if (!isPerson(p)) return NONE;
        if (!isDay(day)) return BAD;
        look(-1);
        return lives(p, day) ? tell(0, p, -1, day, -1) : STATE;
    }

    int member(int man, int seat, int rate, int day) {
        if (!isPerson(man) || seat < 0 || seat >= seats) return NONE;
        if (!isMan(man) || rate < 0 || rate > 3 || !isDay(day)) return BAD;
        look(-1);
        if (!lives(man, day) || isMember(man, day) || isGone(man, day) || hasMember(seat, day)) return STATE;
        return tell(2, man, seat, day, rate);
    }

    int rate(int man, int rate, int day) {
        if (!isPerson(man)) return NONE;
        if (!isMan(man) || rate < 0 || rate > 3 || !isDay(day)) return BAD;
        look(-1);
        return isMember(man, day) ? tell(3, man, rate, day, -1) : STATE;
    }

    int gone(int man, boolean back, int day) {
        if (!isPerson(man)) return NONE;
        if (!isMan(man) || !isDay(day)) return BAD;
        look(-1);
        if (back) return isGone(man, day) && !hasMember(seatOf(man, day), day) ? tell(5, man, -1, day, -1) : STATE;
        return isMember(man, day) ? tell(4, man, -1, day, -1) : STATE;
    }

    int pay(int man, int coins, int day) {
        if (!isPerson(man)) return NONE;
        if (!isMan(man) || coins < 1 || coins > 9999 || !isDay(day)) return BAD;
        look(-1);
        return isMember(man, day) ? tell(6, man, coins, day, -1) : STATE;
    }

    int strike(int entry) {
        if (entry < 0 || entry >= entries.size()) return NONE;
        return by(-1).contains(entry) ? tell(7, entry, -1, -1, -1) : STATE;
    }

    int known(int entry, int what) {
        if (entry < 0 || entry >= entries.size() || what < 0 || what > 4) return NONE;
        Entry it = entries.get(entry);
        return new int[] {it.which, it.who, it.other, it.day, it.rate}[what];
    }

    int as(int p, int day, int e) {
        if (!isPerson(p) || !isE(e)) return NONE;
        if (!isDay(day)) return BAD;
        look(e);
        return kind(p, day);
    }

    int live(int p, int day, int e, int what) {
        if (!isPerson(p) || !isE(e) || what < 0 || what > 5) return NONE;
        if (!isDay(day)) return BAD;
        look(e);
        if (what == 0) return wedTo(p, day);
        if (what == 1) return seatOf(p, day);
        if (what == 2) return last(p, day, 2) == null ? NONE : rateOf(p, day);
        if (what == 3) return weddings(p, day);
        if (what == 4) return lives(p, day) ? age(p, day) : NONE;
        return deathDays[p];
    }

    int part(int p, int k, int day, int e) {
        if (!isPerson(p) || k < 0 || k > 6 || !isE(e)) return NONE;
        if (!isDay(day)) return BAD;
        look(e);
        int kind = kind(p, day);
        if (kind == -5) return -5;
        String[] under = {"0", "10", "210", "3210", "40", "50", "610"};
        return under[kind].indexOf('0' + k) >= 0 ? age(p, day) : -6;
    }

    int feed(long w, int n) {
        if (n < 1 || n > 8) return BAD;
        if (tape.length() + n > 200) return FULL;
        for (int i = n - 1; i >= 0; i--) tape.append((char) (w >> (8 * i) & 255));
        return tape.length();
    }

    int text(int day) {
        if (!isDay(day)) return BAD;
        if (acts.size() >= 8) return FULL;
        String text = tape.toString();
        tape.setLength(0);
        int fault = faultOf(text);
        if (fault >= 0) return -10 - fault;
        acts.add(actOf(text, day));
        return acts.size() - 1;
    }

    int force(int act, int what) {
        if (act < 0 || act >= acts.size()) return NONE;
        Act it = acts.get(act);
        if (what >= 0 && what <= 2) return what == 0 ? it.day : what == 1 ? it.clauses.size() : it.begun ? 1 : 0;
        return what < 10 || what >= 10 + it.clauses.size() ? NONE : it.clauses.get(what - 10).subject;
    }

    int out(int act, int clause, int day) {
        if (act < 0 || act >= acts.size() || clause < 0 || clause >= acts.get(act).clauses.size()) return NONE;
        if (!isDay(day)) return BAD;
        Clause it = acts.get(act).clauses.get(clause);
        int first = it.out == 10000 ? 1 : 0;
        it.out = Math.min(it.out, day);
        return first;
    }

    int rule(int subject, int man, int day, int e, int which) {
        if (subject < 0 || subject > 8 || man != -1 && !isMan(man) || !isE(e)) return NONE;
        if (!isDay(day)) return BAD;
        look(e);
        int[] names = names(man, day);
        if (which == 0) return ruleBy(subject, names, day);
        int found = clauseOf(subject, names, day);
        if (which == 1 || found < 0) return found;
        int quarrel = -5;
        for (int a = 0; a < acts.size(); a++) {
            if (acts.get(a).day != acts.get(found / 100).day) continue;
            for (int i = 0; i < acts.get(a).clauses.size(); i++) {
                Clause clause = acts.get(a).clauses.get(i);
                if (clause.subject == subject && clause.out > day && holds(clause, names)
                        && comes(clause, names) != ruleBy(subject, names, day)) quarrel = 100 * a + i;
            }
        }
        return quarrel;
    }

    long owe(int man, int year, int e, int what) {
        if (!isMan(man) || !isYear(year) || !isE(e) || what < 0 || what > 3) return NO;
        look(e);
        return what == 0 ? dues(man, year) : what == 1 ? tax(man, year) : what == 2 ? arrears(man, year) : paid(man, year);
    }

    long vacant(int year, int e) {
        if (!isYear(year) || !isE(e)) return NO;
        look(e);
        return vacantCoins(year);
    }

    long rent(int woman, int year, int e) {
        if (!isWoman(woman) || !isYear(year) || !isE(e)) return NO;
        look(e);
        return rents(woman, year);
    }

    long widow(int woman, int day, int e) {
        if (!isWoman(woman) || !isDay(day) || !isE(e)) return NO;
        look(e);
        return yearly(woman, day);
    }

    long sum(int p, int year, int e) {
        if (!isPerson(p) || !isYear(year) || !isE(e)) return NO;
        look(e);
        return sums(p, year);
    }

    int begin(int coins) {
        if (coins < 0 || coins > 99999) return BAD;
        int was = began;
        began = coins;
        return was;
    }

    long chest(int year, int e) {
        if (!isYear(year) || !isE(e)) return NO;
        look(e);
        return chestBehind(year);
    }

    int loan(int coins, int year, int n, int hundredths) {
        if (coins < 1 || coins > 9999 || !isYear(year) || n < 1 || n > 30 || hundredths < 0 || hundredths > 20) return BAD;
        if (loans.size() >= 12) return FULL;
        loans.add(new Loan(coins, year, n, hundredths));
        badFrom.add(100);
        return loans.size() - 1;
    }

    int bad(int loan, int year) {
        if (loan < 0 || loan >= loans.size()) return NONE;
        if (!isYear(year)) return BAD;
        int first = badFrom.get(loan) == 100 ? 1 : 0;
        badFrom.set(loan, Math.min(year, badFrom.get(loan)));
        return first;
    }

    long due(int loan, int year) {
        return loan < 0 || loan >= loans.size() || !isYear(year) ? NO : comesOfLoan(loan, year);
    }

    int table(int age, int n) {
        if (age < 0 || age > 98) return NONE;
        if (n < 0 || n > 1000) return BAD;
        int was = table[age];
        table[age] = n;
        return was;
    }

    int own(int age, int day, int e, int what) {
        if (age < 0 || age > 99 || !isE(e) || what < 0 || what > 1) return NONE;
        if (!isDay(day)) return BAD;
        look(e);
        int many = 0;
        for (int p = 0; p < persons.size(); p++) {
            int start = persons.get(p).birth + 100 * age;
            boolean died = deathDays[p] <= day && deathDays[p] >= start && deathDays[p] < start + 100;
            boolean through = start + 99 <= day && deathDays[p] > start + 99;
            if (died || what == 1 && through) many++;
        }
        return many;
    }

    int alive(int age, int n) {
        if (age < 0 || age > 99) return NONE;
        return n < 0 || n > 100 ? BAD : aliveAt(age, n);
    }

    int expect(int age) {
        if (age < 0 || age > 99) return NONE;
        int all = 0;
        for (int n = 1; n <= 99; n++) all += aliveAt(age, n);
        return all;
    }

    int interest(int n) {
        if (n < 0 || n > 20) return BAD;
        int was = interest;
        interest = n;
        return was;
    }

    long worth(int coins, int age) {
        return age < 0 || age > 99 || coins < 0 || coins > 9999 ? NO : worthAt(coins, age);
    }

    long value(int year, int e) {
        if (!isYear(year) || !isE(e)) return NO;
        look(e);
        long all = chestBehind(year);
        int day = 100 * year + 99;
        for (int p = 0; p < persons.size(); p++) {
            if (isMember(p, day)) {
                all += worthAt(ruleOf(0, p, day), age(p, day));
                int wife = wedTo(p, day);
                if (wife >= 0) {
                    int rent = ruleOf(1, p, day);
                    all -= Math.max(0, worthAt(rent, age(wife, day)) - worthAt(rent, age(p, day)));
                }
            }
            if (widowOf(p, day) >= 0) all -= worthAt((int) yearly(p, day), age(p, day));
        }
        return all;
    }

    int row() {
        if (rows.size() >= 4) return FULL;
        rows.add(new ArrayList<>());
        return rows.size() - 1;
    }

    int rows(int row, int p, int year) {
        if (row < 0 || row >= rows.size() || !isPerson(p)) return NONE;
        if (!isYear(year)) return BAD;
        if (rows.get(row).size() >= 8) return FULL;
        rows.get(row).add(new int[] {p, year});
        return rows.get(row).size();
    }

    int shortBy(int row, int year, int n) {
        if (row < -1 || row >= rows.size()) return NONE;
        if (!isYear(year) || n < 1 || n > 20) return BAD;
        return shortAt(row, year, n, 0);
    }

    int step(int subject, int hundredths) {
        if (subject != 0 && subject != 1 && subject != 3) return NONE;
        if (hundredths < 0 || hundredths > 300) return BAD;
        if (steps.size() >= 4) return FULL;
        steps.add(new int[] {subject, hundredths});
        return steps.size() - 1;
    }

    int plan(int year, int n, int what) {
        if (what != 0 && what != 1) return NONE;
        if (!isYear(year) || n < 1 || n > 20) return BAD;
        int best = -5;
        long bestLeast = -5;
        for (int set = 0; set < 1 << steps.size(); set++) {
            boolean fits = true;
            for (int i = 0; i < steps.size(); i++) {
                for (int k = 0; k < i; k++) {
                    if ((set >> i & set >> k & 1) != 0 && steps.get(i)[0] == steps.get(k)[0]) fits = false;
                }
            }
            for (int row = 0; fits && row < rows.size(); row++) if (shortAt(row, year, n, set) != -5) fits = false;
            if (!fits) continue;
            look(-1);
            long least = leastBy(set, 100 * year + 99);
            if (best < 0 || least < bestLeast || least == bestLeast && Integer.bitCount(set) < Integer.bitCount(best)) {
                best = set;
                bestLeast = least;
            }
        }
        return what == 0 ? best : (int) bestLeast;
    }

    long tried(int day, int year) {
        if (!isYear(year) || !isDay(day)) return NO;
        String text = tape.toString();
        tape.setLength(0);
        if (faultOf(text) >= 0) return NO + 1;
        acts.add(actOf(text, day));
        look(-1);
        long chest = chestBehind(year);
        acts.remove(acts.size() - 1);
        return chest;
    }

    long told(int p, int what, long coins) {
        if (!(p == -1 && what == 0) && (!isPerson(p) || what < 0 || what > 2)) return NO;
        if (coins < -999999 || coins > 999999) return NO + 1;
        long was = p == -1 ? toldChest : told[p][what];
        if (p == -1) toldChest = coins;
        else told[p][what] = coins;
        return was;
    }

    private long number(int p, int what, int year) {
        return what == 0 ? dues(p, year) : what == 1 ? rents(p, year) : sums(p, year);
    }

    int check(int year, int e) {
        if (!isE(e)) return NONE;
        if (!isYear(year)) return BAD;
        look(e);
        for (int p = 0; p < persons.size(); p++) {
            for (int what = 0; what < 3; what++) if (told[p][what] != number(p, what, year)) return 3 * p + what;
        }
        return toldChest == chestBehind(year) ? -5 : 100;
    }

    int judge(int year, int e) {
        if (!isE(e)) return NONE;
        if (!isYear(year)) return BAD;
        look(e);
        int changed = 0;
        for (int p = 0; p < persons.size(); p++) {
            for (int what = 0; what < 3; what++) {
                if (told[p][what] != number(p, what, year)) changed++;
                told[p][what] = number(p, what, year);
            }
        }
        if (toldChest != chestBehind(year)) changed++;
        toldChest = chestBehind(year);
        return changed;
    }

    int count(int what) {
        int[] all = {persons.size(), entries.size(), acts.size(), seats, loans.size(), rows.size(), steps.size(),
            tape.length(), interest};
        return what < 0 || what > 8 ? NONE : all[what];
    }
}
