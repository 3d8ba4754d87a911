// Long runs of calls with ordinary and wild arguments. Each run goes to two presses: one gets every call,
// its twin only those that were not refused. As a refused call changes nothing, both must answer alike.
// Nothing may be thrown, and no press gets more than its 512 calls.
public final class BalePressTwinTest {
    private static final int RUNS = 3000;
    private static final int CALLS = 512;
    private static final long[] WILD_LONGS = {
        Long.MIN_VALUE, -1L, 0L, 1L, 999999L, 1000000L, 1000001L, 100000000L, 100000001L,
        7999999999L, 8000000000L, 8000000001L, Long.MAX_VALUE};
    private static final int[] WILD_INTS = {
        Integer.MIN_VALUE, -1, 0, 1, 2, 3, 4, 6, 7, 8, 11, 12, 100, 101, 1000, 1001, Integer.MAX_VALUE};
    private static final double[] WILD_DOUBLES = {
        Double.NaN, Double.NEGATIVE_INFINITY, Double.POSITIVE_INFINITY, -Double.MAX_VALUE, Double.MAX_VALUE,
        Double.MIN_VALUE, -0.0, 0.0, -50.0, -50.1, 1.0, 10.0, 10.1, 60.0, 60.1, 64.0, 64.1, 200.0, 200.1};

    private static long seed = 1L;
    private static int wrong = 0;
    private static final long[] accepted = new long[20];

    public static void main(String[] args) {
        for (int run = 0; run < RUNS; run++) {
            run(run);
        }
        // A kind of call that is never taken would make the runs say nothing of it.
        for (int call = 0; call < 20; call++) {
            if (accepted[call] == 0) {
                wrong++;
                System.out.println("call " + call + " was never taken");
            }
        }
        System.out.println(wrong == 0 ? "all twins answered alike" : wrong + " faults");
        if (wrong != 0) {
            System.exit(1);
        }
    }

    private static void run(int run) {
        BalePress press = new BalePress();
        BalePress twin = new BalePress();
        boolean wild = run % 3 == 0;
        for (int i = 0; i < CALLS; i++) {
            int call = below(20);
            int[] ints = {anInt(wild), anInt(wild), anInt(wild)};
            long[] longs = {second(wild, i), grams(wild)};
            double[] doubles = {aDouble(wild), aDouble(wild)};
            try {
                double answer = answer(press, call, ints, longs, doubles);
                if (isRefusal(call, answer)) {
                    continue;
                }
                accepted[call]++;
                double twins = answer(twin, call, ints, longs, doubles);
                if (answer != twins) {
                    wrong++;
                    System.out.println("run " + run + ", call " + i + " of kind " + call
                            + ": " + answer + ", its twin " + twins);
                    return;
                }
            } catch (RuntimeException thrown) {
                wrong++;
                System.out.println("run " + run + ", call " + i + " of kind " + call + " threw " + thrown);
                return;
            }
        }
    }

    private static double answer(BalePress press, int call, int[] n, long[] l, double[] d) {
        switch (call) {
            case 0: return press.feed(l[0], n[0], l[1]) ? 1 : 0;
            case 1: return press.bale(l[0]);
            case 2: return press.in(n[0], n[1]);
            case 3: return press.count(n[0]);
            case 4: return press.wires(n[0]);
            case 5: return press.size(n[0], d[0]);
            case 6: return press.row(d[0], d[1]) ? 1 : 0;
            case 7: return press.warm(n[0], n[1], d[0]);
            case 8: return press.hold(n[0]) ? 1 : 0;
            case 9: return press.alarm(n[0]);
            case 10: return press.stack(n[0], n[1]);
            case 11: return press.put(n[0], n[1]);
            case 12: return press.first(n[0]);
            case 13: return press.lorry(l[0], l[1]);
            case 14: return press.load(n[0], n[1]);
            case 15: return press.moment(n[0], n[1]);
            case 16: return press.rebale(n[0], n[1]);
            case 17: return press.brought(n[0], n[1], n[2]);
            case 18: return press.label(n[0], n[1]);
            default: return press.state(n[0]);
        }
    }

    private static boolean isRefusal(int call, double answer) {
        switch (call) {
            case 0: case 6: case 8: return answer == 0;
            case 5: return answer == -1.0;
            case 7: return answer == -1000.0;
            case 11: return answer != 0;
            default: return answer == BalePress.NONE;
        }
    }

    private static int below(int bound) {
        seed = seed * 6364136223846793005L + 1442695040888963407L;
        return (int) ((seed >>> 33) % bound);
    }

    private static int anInt(boolean wild) {
        return wild && below(2) == 0 ? WILD_INTS[below(WILD_INTS.length)] : below(below(2) == 0 ? 4 : 13);
    }

    private static long second(boolean wild, int call) {
        return wild && below(4) == 0 ? WILD_LONGS[below(WILD_LONGS.length)] : 10L * call + below(20);
    }

    private static long grams(boolean wild) {
        if (wild && below(2) == 0) {
            return WILD_LONGS[below(WILD_LONGS.length)];
        }
        return 1L + below(below(2) == 0 ? 1000 : 300000);
    }

    private static double aDouble(boolean wild) {
        return wild && below(2) == 0 ? WILD_DOUBLES[below(WILD_DOUBLES.length)] : below(880) / 8.0 - 50.0;
    }
}
