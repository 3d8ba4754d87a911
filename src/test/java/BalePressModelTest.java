import java.util.ArrayList;
import java.util.List;

// Long runs against a second reading of the document. The model keeps what happened (feeds, the warmth behind
// each hour, who came onto which lorry) and works each answer out from all of it again, in the words of the
// document; every answer of the press must be the same. Each run has habits of its own (how heavy the feeds
// are, how warm it gets, which calls come often), so that the limits are met from both sides.
public final class BalePressModelTest {
    private static final int RUNS = 4000;
    private static final int CALLS = 512;
    private static final int NONE = -1;
    private static final int FREE = 0;
    private static final int STACKED = 1;
    private static final int SOLD = 2;
    private static final int GONE = 3;

    private static final String[] NAMES = {
        "feed", "bale", "in", "count", "wires", "size", "row", "warm", "hold", "alarm",
        "stack", "put", "first", "lorry", "load", "moment", "rebale", "brought", "label", "state"};
    // What the runs must meet at least once; without it they would say nothing of it.
    private static final String[] CASES = {
        "feed 1", "feed 0: not such", "feed 0: earlier", "feed 0: 200",
        "bale made", "bale none: nothing", "bale none: 12",
        "row 1", "row 0: not such", "row 0: not more", "row 0: 6",
        "warm", "warm none: not such", "warm none: gone", "warm none: sold",
        "alarm", "alarm none", "alarm: cold by now", "alarm: by several calls",
        "put 0", "put 1", "put 2", "put 3", "put 4", "put 5", "put 6", "put 6: by another stack",
        "first", "first none",
        "load", "load none: not such", "load none: is on one", "load none: no place",
        "load none: grams", "load none: moment",
        "rebale", "rebale none: not such", "rebale none: 12", "rebale of one made anew",
        "stack none: 4", "lorry none: 3"};

    private static final List<String> met = new ArrayList<>();
    private static long seed = 11L;

    public static void main(String[] args) {
        int wrong = 0;
        for (int run = 0; run < RUNS && wrong < 10; run++) {
            wrong += isRunAlike(run) ? 0 : 1;
        }
        for (String one : CASES) {
            if (!met.contains(one)) {
                wrong++;
                System.out.println("no run met: " + one);
            }
        }
        System.out.println(wrong == 0 ? "all runs answered as the model" : wrong + " faults");
        if (wrong != 0) {
            System.exit(1);
        }
    }

    private static boolean isRunAlike(int run) {
        BalePress press = new BalePress();
        Model model = new Model();
        Habits habits = new Habits();
        for (int call = 0; call < CALLS; call++) {
            int name = habits.next();
            int[] n = {habits.number(name), habits.number(name), habits.small(name)};
            long[] l = {habits.second(call), habits.grams(), habits.limit(), habits.limit()};
            double[] d = {habits.degrees(name), habits.heat()};
            double want = due(model, name, n, l, d);
            double got = answer(press, name, n, l, d);
            if (want != got) {
                System.out.println("run " + run + ", call " + call + ": " + NAMES[name] + " with " + n[0] + ", "
                        + n[1] + ", " + n[2] + "; " + l[0] + ", " + l[1] + ", " + l[2] + ", " + l[3] + "; "
                        + d[0] + ", " + d[1] + " is " + got + ", due is " + want);
                return false;
            }
        }
        return true;
    }

    private static double answer(BalePress press, int name, int[] n, long[] l, double[] d) {
        switch (name) {
            case 0: return press.feed(l[0], n[2], l[1]) ? 1 : 0;
            case 1: return press.bale(l[0]);
            case 2: return press.in(n[0], n[2]);
            case 3: return press.count(n[2]);
            case 4: return press.wires(n[0]);
            case 5: return press.size(n[0], d[0]);
            case 6: return press.row(d[0], d[1]) ? 1 : 0;
            case 7: return press.warm(n[0], n[1], d[0]);
            case 8: return press.hold(n[1]) ? 1 : 0;
            case 9: return press.alarm(n[2]);
            case 10: return press.stack(n[2], n[1]);
            case 11: return press.put(n[0], n[2]);
            case 12: return press.first(n[2]);
            case 13: return press.lorry(l[2], l[3]);
            case 14: return press.load(n[2], n[0]);
            case 15: return press.moment(n[2], n[1]);
            case 16: return press.rebale(n[0], n[1]);
            case 17: return press.brought(n[0], n[2], n[1]);
            case 18: return press.label(n[0], n[1]);
            default: return press.state(n[0]);
        }
    }

    private static double due(Model model, int name, int[] n, long[] l, double[] d) {
        switch (name) {
            case 0: return model.feed(l[0], n[2], l[1]);
            case 1: return model.bale(l[0]);
            case 2: return model.in(n[0], n[2]);
            case 3: return model.count(n[2]);
            case 4: return model.wires(n[0]);
            case 5: return model.size(n[0], d[0]);
            case 6: return model.row(d[0], d[1]);
            case 7: return model.warm(n[0], n[1], d[0]);
            case 8: return model.hold(n[1]);
            case 9: return model.alarm(n[2]);
            case 10: return model.stack(n[2], n[1]);
            case 11: return model.put(n[0], n[2]);
            case 12: return model.first(n[2]);
            case 13: return model.lorry(l[2], l[3]);
            case 14: return model.load(n[2], n[0]);
            case 15: return model.moment(n[2], n[1]);
            case 16: return model.rebale(n[0], n[1]);
            case 17: return model.brought(n[0], n[2], n[1]);
            case 18: return model.label(n[0], n[1]);
            default: return model.state(n[0]);
        }
    }

    private static double meet(String what, double answer) {
        if (!met.contains(what)) {
            met.add(what);
        }
        return answer;
    }

    private static int below(int bound) {
        seed = seed * 6364136223846793005L + 1442695040888963407L;
        return (int) ((seed >>> 33) % bound);
    }

    // ---- what a run does

    private static final class Habits {
        private final int[] weights = new int[NAMES.length];
        private final int heaviest;
        private final int mostHours = new int[] {100, 12, 4, 2}[below(4)];
        private final double coldest = new double[] {-50.0, 0.0, 40.0}[below(3)];
        // Sells light bales of one kind and loads them onto one lorry, which else never has all places taken.
        private final boolean isSeller = below(4) == 0;
        private final int secondsACall = below(3) * below(40);

        Habits() {
            for (int name = 0; name < weights.length; name++) {
                weights[name] = 1 + below(4) * below(6);
            }
            weights[0] += below(3) == 0 ? 120 : 10;
            weights[1] += below(6);
            // Limits of lorries and stacks fall early; few of them, so that they are met with all else.
            weights[10] = 1 + below(3);
            weights[13] = 1 + below(3);
            heaviest = new int[] {1000000, 400000, 100000, 3000, 10}[isSeller ? 3 + below(2) : below(5)];
            if (isSeller) {
                weights[1] += 12;
                weights[11] += 40;
                weights[12] += 40;
                weights[14] += 40;
                weights[16] = 1;
            }
        }

        int next() {
            int sum = 0;
            for (int weight : weights) {
                sum += weight;
            }
            int left = below(sum);
            int name = 0;
            while (left >= weights[name]) {
                left -= weights[name];
                name++;
            }
            return name;
        }

        int number(int name) {
            if (below(40) == 0) {
                return new int[] {-1, 0, 100, 101, 1000, 1001, Integer.MAX_VALUE, Integer.MIN_VALUE}[below(8)];
            }
            switch (name) {
                case 7: return below(3) == 0 ? below(mostHours + 1) : below(13);
                case 8: return 1 + below(below(2) == 0 ? 3 : 40);
                case 10: return below(8);
                case 15: case 17: return below(3);
                case 18: return below(17);
                default: return below(13);
            }
        }

        // A kind, a stack, a lorry or a gap.
        int small(int name) {
            if (isSeller && (name == 0 || name == 12 || name == 14) && below(40) != 0) {
                return 0;
            }
            return below(40) == 0 ? new int[] {-1, 4, Integer.MAX_VALUE, Integer.MIN_VALUE}[below(4)] : below(4);
        }

        long second(int call) {
            if (below(60) == 0) {
                return new long[] {-1L, 0L, 8000000001L, Long.MAX_VALUE, Long.MIN_VALUE}[below(5)];
            }
            if (call > CALLS - 12 && below(4) == 0) {
                return 8000000000L - below(2);
            }
            return (long) call * secondsACall + below(30);
        }

        long grams() {
            if (below(30) == 0) {
                return new long[] {0L, -1L, 1L, 1000000L, 1000001L, Long.MAX_VALUE}[below(6)];
            }
            // Round numbers bring sums that just touch a limit, and kinds of which there is as much.
            return below(2) == 0 ? heaviest / (1 + below(5)) + below(8) / 7 : 1 + below(heaviest);
        }

        long limit() {
            if (below(20) == 0) {
                return new long[] {0L, -1L, 100000000L, 100000001L, Long.MAX_VALUE}[below(5)];
            }
            return (long) heaviest * (1 + below(40)) / 4 * (isSeller && below(2) == 0 ? 100 : 1);
        }

        double degrees(int name) {
            if (below(40) == 0) {
                double edge = new double[] {-50.0, 60.0, 200.0, 1.0, 64.0, Double.NaN,
                    Double.POSITIVE_INFINITY, Double.NEGATIVE_INFINITY}[below(8)];
                return below(2) == 0 ? edge : below(2) == 0 ? Math.nextUp(edge) : Math.nextDown(edge);
            }
            if (name == 6) {
                return below(2) == 0 ? below(2000) / 8.0 - 50.0 : below(60) - 50.0;
            }
            if (name == 5) {
                return 1.0 + below(631) / 10.0;
            }
            return below(3) == 0 ? 60.0 : coldest + below((int) (60.0 - coldest) * 8 + 1) / 8.0;
        }

        double heat() {
            if (below(30) == 0) {
                return new double[] {Math.nextDown(0.0), Math.nextUp(10.0), Double.NaN, 0.0, -0.0}[below(5)];
            }
            return below(2) == 0 ? 10.0 : below(81) / 8.0;
        }
    }

    // ---- the second reading

    private static final class Feed {
        private long second;
        private int kind;
        private long grams;
        private int bale = NONE;
    }

    private static final class Made {
        // The warmth it began with, then that behind each hour, and where a call of warm began.
        private final List<Double> warmths = new ArrayList<>();
        private final List<Integer> callsAt = new ArrayList<>();
        private int first = NONE;
        private int second = NONE;
        private int state = FREE;
        private int stack = NONE;
    }

    private static final class Model {
        private final List<Feed> feeds = new ArrayList<>();
        private final List<Made> bales = new ArrayList<>();
        private final List<double[]> rows = new ArrayList<>();
        private final List<int[]> stacks = new ArrayList<>();
        private final List<long[]> lorries = new ArrayList<>();
        private final List<List<Integer>> loads = new ArrayList<>();
        private int hold = 1;

        private boolean isBale(int bale) {
            return 0 <= bale && bale < bales.size();
        }

        private boolean isStack(int stack) {
            return 0 <= stack && stack < stacks.size();
        }

        private boolean isLorry(int lorry) {
            return 0 <= lorry && lorry < lorries.size();
        }

        private static boolean isKind(int kind) {
            return kind == 0 || kind == 1 || kind == 2 || kind == 3;
        }

        private static boolean isPart(int part) {
            return part == 0 || part == 1;
        }

        double feed(long second, int kind, long grams) {
            if (second < 0 || second > 8000000000L || !isKind(kind) || grams < 1 || grams > 1000000) {
                return meet("feed 0: not such", 0);
            }
            if (!feeds.isEmpty() && second < feeds.get(feeds.size() - 1).second) {
                return meet("feed 0: earlier", 0);
            }
            if (feeds.size() == 200) {
                return meet("feed 0: 200", 0);
            }
            Feed more = new Feed();
            more.second = second;
            more.kind = kind;
            more.grams = grams;
            feeds.add(more);
            return meet("feed 1", 1);
        }

        double bale(long second) {
            List<Feed> such = new ArrayList<>();
            for (Feed feed : feeds) {
                if (feed.bale == NONE && feed.second <= second) {
                    such.add(feed);
                }
            }
            if (such.isEmpty()) {
                return meet("bale none: nothing", NONE);
            }
            if (bales.size() == 12) {
                return meet("bale none: 12", NONE);
            }
            Made made = new Made();
            made.warmths.add(20.0);
            bales.add(made);
            for (Feed feed : such) {
                feed.bale = bales.size() - 1;
            }
            return meet("bale made", bales.size() - 1);
        }

        private long gramsOf(int bale, int kind) {
            Made made = bales.get(bale);
            if (made.first != NONE) {
                return gramsOf(made.first, kind) + gramsOf(made.second, kind);
            }
            long sum = 0;
            for (Feed feed : feeds) {
                sum += feed.bale == bale && feed.kind == kind ? feed.grams : 0;
            }
            return sum;
        }

        private long grams(int bale) {
            return gramsOf(bale, 0) + gramsOf(bale, 1) + gramsOf(bale, 2) + gramsOf(bale, 3);
        }

        private int main(int bale) {
            for (int kind = 0; kind < 4; kind++) {
                boolean isMost = true;
                for (int other = 0; other < 4; other++) {
                    isMost &= gramsOf(bale, kind) >= gramsOf(bale, other);
                }
                if (isMost) {
                    return kind;
                }
            }
            throw new IllegalStateException("one kind is the main one");
        }

        private double warmth(int bale) {
            List<Double> warmths = bales.get(bale).warmths;
            return warmths.get(warmths.size() - 1);
        }

        // Behind the hour that ends at each place but 0, at which none has gone by.
        private int spell(int bale) {
            List<Double> warmths = bales.get(bale).warmths;
            int greatest = 0;
            for (int from = 1; from < warmths.size(); from++) {
                int hours = 0;
                while (from + hours < warmths.size() && warmths.get(from + hours) >= 60.0) {
                    hours++;
                }
                greatest = Math.max(greatest, hours);
            }
            return greatest;
        }

        // Whether two hot hours, one behind the other, were of two calls.
        private boolean isBySeveralCalls(int bale) {
            Made made = bales.get(bale);
            for (int at : made.callsAt) {
                if (at >= 1 && at + 1 < made.warmths.size()
                        && made.warmths.get(at) >= 60.0 && made.warmths.get(at + 1) >= 60.0) {
                    return true;
                }
            }
            return false;
        }

        double in(int bale, int kind) {
            return isBale(bale) && isKind(kind) ? gramsOf(bale, kind) : NONE;
        }

        double count(int kind) {
            if (!isKind(kind)) {
                return NONE;
            }
            long sum = 0;
            for (Feed feed : feeds) {
                sum += feed.bale == NONE && feed.kind == kind ? feed.grams : 0;
            }
            return sum;
        }

        double wires(int bale) {
            if (!isBale(bale)) {
                return NONE;
            }
            int begun = 0;
            for (long left = grams(bale); left > 0; left -= 100000) {
                begun++;
            }
            return Math.max(3, begun);
        }

        double size(int bale, double p) {
            if (!isBale(bale) || !(1.0 <= p && p <= 64.0)) {
                return -1.0;
            }
            double s = grams(bale) * 0.001 / p;
            return s + s * 0.125;
        }

        double row(double degrees, double heat) {
            if (!(-50.0 <= degrees && degrees <= 200.0 && 0.0 <= heat && heat <= 10.0)) {
                return meet("row 0: not such", 0);
            }
            if (rows.size() == 6) {
                return meet("row 0: 6", 0);
            }
            if (!rows.isEmpty() && !(degrees > rows.get(rows.size() - 1)[0])) {
                return meet("row 0: not more", 0);
            }
            rows.add(new double[] {degrees, heat});
            return meet("row 1", 1);
        }

        double warm(int bale, int hours, double outside) {
            if (!isBale(bale) || hours < 0 || hours > 100 || !(-50.0 <= outside && outside <= 60.0)) {
                return meet("warm none: not such", -1000.0);
            }
            Made made = bales.get(bale);
            if (made.state == GONE || made.state == SOLD) {
                return meet(made.state == GONE ? "warm none: gone" : "warm none: sold", -1000.0);
            }
            made.callsAt.add(made.warmths.size() - 1);
            for (int hour = 0; hour < hours; hour++) {
                double t = warmth(bale);
                made.warmths.add((t + gain(t)) - (t - outside) * 0.125);
            }
            return meet("warm", warmth(bale));
        }

        private double gain(double t) {
            for (int row = rows.size() - 1; row >= 0; row--) {
                if (rows.get(row)[0] <= t) {
                    return rows.get(row)[1];
                }
            }
            return 0.0;
        }

        double hold(int hours) {
            if (hours < 1 || hours > 1000) {
                return 0;
            }
            hold = hours;
            return 1;
        }

        double alarm(int k) {
            List<Integer> such = new ArrayList<>();
            for (int bale = 0; bale < bales.size(); bale++) {
                int state = bales.get(bale).state;
                if (state != GONE && state != SOLD && spell(bale) >= hold) {
                    such.add(bale);
                }
            }
            if (k < 0 || k >= such.size()) {
                return meet("alarm none", NONE);
            }
            if (warmth(such.get(k)) < 60.0) {
                meet("alarm: cold by now", 0);
            }
            if (hold > 1 && isBySeveralCalls(such.get(k))) {
                meet("alarm: by several calls", 0);
            }
            return meet("alarm", such.get(k));
        }

        double stack(int gap, int height) {
            if (gap < 0 || gap > 3 || height < 1 || height > 6) {
                return NONE;
            }
            if (stacks.size() == 4) {
                return meet("stack none: 4", NONE);
            }
            stacks.add(new int[] {gap, height});
            return stacks.size() - 1;
        }

        private boolean isClose(int one, int other) {
            int differ = Math.abs(one - other);
            return differ == 0 || differ <= stacks.get(Math.max(one, other))[0];
        }

        private List<Integer> on(int stack) {
            List<Integer> such = new ArrayList<>();
            for (int bale = 0; bale < bales.size(); bale++) {
                if (bales.get(bale).state == STACKED && bales.get(bale).stack == stack) {
                    such.add(bale);
                }
            }
            return such;
        }

        private long gramsOn(int stack) {
            long sum = 0;
            for (int bale : on(stack)) {
                sum += grams(bale);
            }
            return sum;
        }

        private int bar(int bale, int stack) {
            if (!isBale(bale) || !isStack(stack)) {
                return 1;
            }
            if (bales.get(bale).state != FREE) {
                return 2;
            }
            if (on(stack).size() >= stacks.get(stack)[1]) {
                return 3;
            }
            if (warmth(bale) >= 60.0) {
                return 4;
            }
            for (int other : on(stack)) {
                if (main(other) != main(bale)) {
                    return 5;
                }
            }
            long together = grams(bale);
            for (int other = 0; other < stacks.size(); other++) {
                together += isClose(stack, other) ? gramsOn(other) : 0;
            }
            if (together > 1000000 && gramsOn(stack) + grams(bale) <= 1000000) {
                meet("put 6: by another stack", 6);
            }
            return together > 1000000 ? 6 : 0;
        }

        double put(int bale, int stack) {
            int bar = bar(bale, stack);
            if (bar == 0) {
                bales.get(bale).state = STACKED;
                bales.get(bale).stack = stack;
            }
            return meet("put " + bar, bar);
        }

        double first(int kind) {
            for (int bale = 0; bale < bales.size(); bale++) {
                if (bales.get(bale).state == STACKED && main(bale) == kind) {
                    bales.get(bale).state = SOLD;
                    return meet("first", bale);
                }
            }
            return meet("first none", NONE);
        }

        double lorry(long most, long moment) {
            if (most < 0 || most > 100000000 || moment < 0 || moment > 100000000) {
                return NONE;
            }
            if (lorries.size() == 3) {
                return meet("lorry none: 3", NONE);
            }
            lorries.add(new long[] {most, moment});
            loads.add(new ArrayList<>());
            return lorries.size() - 1;
        }

        private long sum(List<Integer> loaded, int part) {
            long sum = 0;
            for (int place = 0; place < loaded.size(); place++) {
                sum += grams(loaded.get(place)) * (part == 0 ? 1 : place + 1);
            }
            return sum;
        }

        double load(int lorry, int bale) {
            if (!isLorry(lorry) || !isBale(bale) || bales.get(bale).state != SOLD) {
                return meet("load none: not such", NONE);
            }
            for (List<Integer> loaded : loads) {
                if (loaded.contains(bale)) {
                    return meet("load none: is on one", NONE);
                }
            }
            List<Integer> with = new ArrayList<>(loads.get(lorry));
            with.add(bale);
            if (with.size() > 8) {
                return meet("load none: no place", NONE);
            }
            if (sum(with, 0) > lorries.get(lorry)[0]) {
                return meet("load none: grams", NONE);
            }
            if (sum(with, 1) > lorries.get(lorry)[1]) {
                return meet("load none: moment", NONE);
            }
            loads.set(lorry, with);
            return meet("load", with.size() - 1);
        }

        double moment(int lorry, int part) {
            return isLorry(lorry) && isPart(part) ? sum(loads.get(lorry), part) : NONE;
        }

        double rebale(int a, int b) {
            if (!isBale(a) || !isBale(b) || a == b
                    || bales.get(a).state != FREE || bales.get(b).state != FREE) {
                return meet("rebale none: not such", NONE);
            }
            if (bales.size() == 12) {
                return meet("rebale none: 12", NONE);
            }
            if (bales.get(a).first != NONE || bales.get(b).first != NONE) {
                meet("rebale of one made anew", 0);
            }
            Made made = new Made();
            made.first = a;
            made.second = b;
            made.warmths.add(Math.max(warmth(a), warmth(b)));
            bales.add(made);
            bales.get(a).state = GONE;
            bales.get(b).state = GONE;
            return meet("rebale", bales.size() - 1);
        }

        double brought(int bale, int kind, int part) {
            if (!isBale(bale) || !isKind(kind) || !isPart(part)) {
                return NONE;
            }
            Made made = bales.get(bale);
            return made.first == NONE ? 0 : gramsOf(part == 0 ? made.first : made.second, kind);
        }

        double label(int bale, int i) {
            if (!isBale(bale)) {
                return NONE;
            }
            String label = "B" + bale + " " + grams(bale) + " " + main(bale);
            return 0 <= i && i < label.length() ? label.charAt(i) : NONE;
        }

        double state(int bale) {
            return isBale(bale) ? bales.get(bale).state : NONE;
        }
    }
}
