import java.lang.management.ManagementFactory;

/** All calls of a run live in one room: an object is small, and no call makes anything. */
public final class RoomRuns {
    private static final int OBJECT_BYTES = 8 * 1024;
    private static final int CALLS_BYTES = 4 * 1024;
    private static int wrong = 0;

    private static long made() {
        return ((com.sun.management.ThreadMXBean) ManagementFactory.getThreadMXBean()).getCurrentThreadAllocatedBytes();
    }

    private static void fill(HallMinutes x) {
        for (int c = 0; c < 3; c++) {
            x.comer(0, 7 * c, 0);
            x.cost(c, 3, 5);
        }
        x.comer(2, 1, 1);
        x.comer(1, 0, 0);
        String rule = "k0&n4|n5&t|m50&k1";
        for (int i = 0; i < rule.length(); i++) {
            x.type(rule.charAt(i));
        }
        x.set(0, 30);
    }

    /** Every call of the face, some twice, 64 in all. */
    private static long askAll(HallMinutes x) {
        long sum = x.comer(0, 61, 0) + x.aim(0, 5) + x.cost(1, 0, 2) + x.set(1, 3) + x.wipe();
        String rule = "k0&n4|n5&t|m50&k1";
        for (int i = 0; i < rule.length(); i++) {
            sum += x.type(rule.charAt(i));
        }
        sum += x.fault() + x.begins() + x.comes(0) + x.pays(0) + x.pays(-1) + x.best(0, true) + x.restless();
        sum += x.climb(false, -1) + x.climb(true, 0) + x.rests(5, -1, -1) + x.rests(5, 1, 2) + x.lost(5, -1) + x.lost(5, 0);
        sum += x.week(60) + x.round(0) + x.round(1) + x.moved(20) + x.least(false) + x.least(true) + x.keys(0) + x.keys(1);
        sum += x.guests() + x.odds(30, 0) + x.mean(0, 1) + x.sure(0);
        for (int s = 0; s < 4; s++) {
            sum += x.sheet(s, 1, 64) + x.put(s, 1, 63, s) + x.get(s, 1, 63) + x.write(s);
        }
        sum += x.copy(0, 0, 1, 0, 64) + x.read(0) + x.lose(0) + x.count(6) + x.digest();
        return sum;
    }

    private static void holds(String what, long bytes, long most) {
        System.out.println(what + ": " + bytes + " bytes");
        if (bytes > most) {
            wrong++;
            System.out.println("that is more than " + most);
        }
    }

    public static void main(String[] args) {
        HallMinutes first = new HallMinutes();
        fill(first);
        long sum = askAll(first);
        made();
        long before = made();
        HallMinutes x = new HallMinutes();
        holds("a new object", made() - before, OBJECT_BYTES);
        fill(x);
        before = made();
        for (int i = 0; i < 8; i++) {
            sum += askAll(x);
        }
        holds("some 500 calls", made() - before, CALLS_BYTES);
        // What calls behind the 512th answer is free; but they come to an end, and throw nothing.
        for (int i = 0; i < 32; i++) {
            sum += askAll(x);
        }
        System.out.println("(the answers together: " + sum + ")");
        if (wrong != 0) {
            System.exit(1);
        }
    }
}
