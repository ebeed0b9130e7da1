import java.lang.management.ManagementFactory;
import java.lang.management.ThreadMXBean;
import java.lang.reflect.Method;
import java.util.ArrayList;
import java.util.List;
import java.util.Random;

/** No call throws, whatever it is given in whatever state, and the same calls always give the same answers. */
public final class WildTest {
    private static final int[] POOL = {Integer.MIN_VALUE, Integer.MIN_VALUE + 1, -10000, -101, -100, -11, -10, -6, -5, -4, -3, -2,
        -1, 0, 1, 2, 3, 4, 5, 6, 7, 8, 9, 10, 11, 12, 20, 21, 23, 24, 25, 30, 31, 49, 50, 98, 99, 100, 101, 199, 200, 201, 300, 301,
        999, 1000, 1001, 2500, 3000, 5000, 9899, 9998, 9999, 10000, 10001, 99999, 100000, 999999, 1000000, Integer.MAX_VALUE - 10,
        Integer.MAX_VALUE - 1, Integer.MAX_VALUE};

    public static void main(String[] args) throws Exception {
        List<Method> face = new ArrayList<>();
        for (Method method : WidowsFund.class.getMethods()) {
            if (method.getDeclaringClass() == WidowsFund.class) face.add(method);
        }
        face.sort((a, b) -> a.toString().compareTo(b.toString()));
        for (int run = 0; run < 400; run++) play(face, new Random(31L * run + 7));
        fullest();
        theLastCall();
        room();
        Check.end("WildTest");
    }

    private static Object draw(Class<?> type, Random random) {
        int drawn = random.nextInt(3) == 0 ? POOL[random.nextInt(POOL.length)] : random.nextInt(4) * 700 + random.nextInt(8);
        if (random.nextInt(3) == 0) drawn = random.nextInt(8);
        if (type == boolean.class) return random.nextBoolean();
        if (type == long.class) return random.nextBoolean() ? random.nextLong() : (long) drawn;
        return drawn;
    }

    private static void play(List<Method> face, Random random) throws Exception {
        WidowsFund x = new WidowsFund();
        WidowsFund twin = new WidowsFund();
        x.seat(4);
        twin.seat(4);
        for (int call = 0; call < 511; call++) {
            Method method = face.get(random.nextInt(face.size()));
            Object[] given = new Object[method.getParameterCount()];
            for (int i = 0; i < given.length; i++) given[i] = draw(method.getParameterTypes()[i], random);
            if (method.getName().equals("person") && random.nextBoolean()) given = new Object[] {call & 1, 10 * call, -1, -1};
            long answer = ((Number) method.invoke(x, given)).longValue();
            Check.due(method.getName(), ((Number) method.invoke(twin, given)).longValue(), answer);
        }
    }

    /** Every list is full, every act is long: the dearest calls still end, and soon. */
    private static void fullest() {
        long all = 0;
        long spent = 0;
        for (int object = 0; object < 6; object++) {
            WidowsFund x = fullFund();
            Check.due("entries", x.count(1), 200);
            Check.due("acts", x.count(2), 8);
            long start = System.nanoTime();
            for (int i = 0; i < 15; i++) {
                int year = 15 * object + i;
                all += x.plan(year, 20, 0) + x.chest(99, -1) + x.value(99, 150) + x.judge(year, -1);
            }
            spent += System.nanoTime() - start;
        }
        long perCall = spent / (6 * 15 * 4 * 1000);
        System.out.println("dearest calls take " + perCall + " microseconds each, answers together " + all);
        Check.due("the dearest calls end soon", perCall < 200000 ? 1 : 0, 1);
    }

    /** "An object is used for at most 512 calls": the 512th answers as the first did, and what was told ahead holds. */
    private static void theLastCall() {
        WidowsFund x = Funds.some();
        long chest = x.chest(99, -1);
        for (int call = 56; call < 510; call++) x.value(call % 100, call % 15);
        x.pay(0, 5, 9999);
        Check.due("the 512th call", x.chest(99, -1), chest + 5);
    }

    /** All calls of a run live in one room: what an object and 512 calls of it make is counted in bytes, where the machine counts. */
    private static void room() {
        ThreadMXBean threads = ManagementFactory.getThreadMXBean();
        if (!(threads instanceof com.sun.management.ThreadMXBean counter)) return;
        long id = Thread.currentThread().getId();
        long start = counter.getThreadAllocatedBytes(id);
        WidowsFund x = fullFund();
        for (int i = 0; i < 16; i++) {
            x.plan(40 + i, 20, 1);
            x.shortBy(i % 5 - 1, 40 + i, 20);
            x.judge(90, -1);
            x.tried(5, 5);
        }
        long made = counter.getThreadAllocatedBytes(id) - start;
        System.out.println("an object and its calls make " + made + " bytes");
        Check.due("an object and its calls make few bytes", made < 400000 ? 1 : 0, 1);
    }

    /** In 440 calls. */
    private static WidowsFund fullFund() {
        WidowsFund x = new WidowsFund();
        x.seat(10);
        for (int p = 0; p < 24; p++) x.person(p & 1, p * 40, p > 8 ? (p & 6) - 2 < 0 ? -1 : (p & 6) - 2 : -1, -1);
        for (int p = 0; p < 20; p += 2) x.member(p, p / 2, p & 3, 2000 + p);
        for (int p = 0; p < 24; p += 2) x.wed(p, p + 1, 2100 + p);
        for (int p = 0; p < 20; p += 2) x.death(p + 1, 3000 + p);
        for (int p = 0; p < 20; p += 2) x.wed(p, (p + 3) % 24, 2900 + p);
        for (int p = 0; p < 24; p += 4) x.death(p, 5000 + 100 * p);
        for (int i = 0; i < 200 && x.pay(2 + i % 4 * 4, 1 + i, 2200 + 10 * i) != WidowsFund.FULL; i++) continue;
        for (int a = 0; a < 8; a++) {
            Check.act(x, "begun;rent=(rate+1)*(old-years)*2-wives;due=year+rate*3 if old>20 and years<30;tax=9;sum=77;vacant=3;fine=4;"
                    + "keeps=1;age=20 if year>10", 1000 * a + 50);
        }
        for (int r = 0; r < 4; r++) {
            x.row();
            for (int d = 0; d < 8; d++) x.rows(r, (3 * d + r) % 24, 50 + d + r);
        }
        for (int s = 0; s < 4; s++) x.step(s == 2 ? 3 : s & 1, 60 + 40 * s);
        for (int i = 0; i < 12; i++) x.loan(100 + i, 20 + 5 * i, 10, 5);
        return x;
    }
}
