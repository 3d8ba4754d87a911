import java.util.ArrayList;
import java.util.List;

// Every sentence of the document that names a boundary: the last value that is taken, the first that is
// refused, and that the refused call changes nothing. What a call changes is seen by a twin made in the same
// way that does not get the call: both are asked the same things, and no press gets more than 512 calls.
public final class BalePressEdgeTest {
    // Makes the same press each time, near to a boundary.
    private interface Making {
        BalePress make();
    }

    private interface Call {
        double on(BalePress press);
    }

    // Asks for one side of a press. What no answer tells (rows, gaps, limits) shows only in what later calls
    // do, so a probe spoils the press that it is put to.
    private interface Probe {
        void ask(BalePress press, List<Double> answers);
    }

    private static final Probe[] PROBES = {
        BalePressEdgeTest::askBales, BalePressEdgeTest::askLabels, BalePressEdgeTest::askOrigins,
        BalePressEdgeTest::askLoose, BalePressEdgeTest::askFeeds, BalePressEdgeTest::askRows,
        BalePressEdgeTest::askAlarms, BalePressEdgeTest::askStacks, BalePressEdgeTest::askLorries,
        BalePressEdgeTest::askPairs};

    private static final double BELOW_SIXTY = Math.nextDown(60.0);
    private static final long LAST = 8000000000L;

    private static int wrong = 0;
    private static int asked = 0;
    private static String part = "";

    public static void main(String[] args) {
        newObject();
        feedSeconds();
        feedKindsAndGrams();
        feedLimit();
        baleSeconds();
        baleLimit();
        numbersOfBales();
        numbersOfKinds();
        gramsOfKinds();
        wires();
        sizes();
        rowValues();
        rowOrderAndLimit();
        rowsAtTheirDegrees();
        warmValues();
        warmStates();
        warmHours();
        hotAtSixty();
        spells();
        holds();
        longestHold();
        alarms();
        stackValues();
        putNumbers();
        putStates();
        putHeights();
        putGrams();
        putOrder();
        putMainKinds();
        closeStacks();
        firsts();
        lorryValues();
        loadNumbers();
        loadStates();
        loadPlaces();
        loadGrams();
        loadMoments();
        moments();
        rebaleNumbers();
        rebaleStates();
        rebaleLimit();
        rebaleGives();
        origins();
        labels();
        states();
        System.out.println(wrong == 0
                ? "every boundary holds, by " + asked + " calls"
                : wrong + " boundaries are wrong");
        if (wrong != 0) {
            System.exit(1);
        }
    }

    // ---- what is compared

    private static void due(String what, double want, double got) {
        asked++;
        if (want != got) {
            tell(what + " is " + got + ", due is " + want);
        }
    }

    private static void tell(String what) {
        wrong++;
        System.out.println(part + ": " + what);
    }

    // The call answers so, and changes something.
    private static void taken(String what, Making making, double want, Call call) {
        due(what, want, call.on(making.make()));
        if (!changes(making, call)) {
            tell(what + " is taken, but changed nothing");
        }
    }

    // The call answers so, and changes nothing.
    private static void refused(String what, Making making, double want, Call call) {
        due(what, want, call.on(making.make()));
        if (changes(making, call)) {
            tell(what + " is refused, but changed something");
        }
    }

    // A question changes nothing either, be it answered or refused.
    private static void answers(String what, Making making, double want, Call call) {
        refused(what, making, want, call);
    }

    private static boolean changes(Making making, Call call) {
        for (Probe probe : PROBES) {
            BalePress called = making.make();
            call.on(called);
            List<Double> answers = new ArrayList<>();
            probe.ask(called, answers);
            List<Double> twins = new ArrayList<>();
            probe.ask(making.make(), twins);
            if (!answers.equals(twins)) {
                return true;
            }
        }
        return false;
    }

    private static double bit(boolean answer) {
        return answer ? 1.0 : 0.0;
    }

    // ---- the probes

    private static void askBales(BalePress press, List<Double> answers) {
        for (int bale = -1; bale <= 12; bale++) {
            answers.add((double) press.state(bale));
            answers.add((double) press.wires(bale));
            answers.add(press.size(bale, 8.0));
            answers.add(press.warm(bale, 0, 0.0));
            answers.add((double) press.alarm(bale));
            for (int kind = 0; kind < 4; kind++) {
                answers.add((double) press.in(bale, kind));
            }
        }
        askCounts(press, answers);
        askMoments(press, answers);
    }

    private static void askCounts(BalePress press, List<Double> answers) {
        for (int kind = 0; kind < 4; kind++) {
            answers.add((double) press.count(kind));
        }
    }

    private static void askMoments(BalePress press, List<Double> answers) {
        for (int lorry = 0; lorry < 3; lorry++) {
            answers.add((double) press.moment(lorry, 0));
            answers.add((double) press.moment(lorry, 1));
        }
    }

    private static void askStates(BalePress press, List<Double> answers) {
        for (int bale = 0; bale < 12; bale++) {
            answers.add((double) press.state(bale));
        }
    }

    private static void askLabels(BalePress press, List<Double> answers) {
        for (int bale = 0; bale < 12; bale++) {
            for (int i = 0; i < 16; i++) {
                answers.add((double) press.label(bale, i));
            }
        }
    }

    private static void askOrigins(BalePress press, List<Double> answers) {
        for (int bale = 0; bale < 12; bale++) {
            for (int kind = 0; kind < 4; kind++) {
                answers.add((double) press.brought(bale, kind, 0));
                answers.add((double) press.brought(bale, kind, 1));
            }
        }
    }

    private static void askLoose(BalePress press, List<Double> answers) {
        long[] seconds = {-1L, 0L, 1L, 9L, 10L, 11L, 19L, 20L, 21L, 29L, 30L, 31L, LAST - 1L, LAST};
        for (long second : seconds) {
            answers.add((double) press.bale(second));
            askCounts(press, answers);
        }
        askBales(press, answers);
    }

    private static void askFeeds(BalePress press, List<Double> answers) {
        for (long second = 0L; second <= 40L; second++) {
            answers.add(bit(press.feed(second, 3, 1L)));
        }
        answers.add(bit(press.feed(LAST - 1L, 3, 1L)));
        int more = 0;
        while (more <= 200 && press.feed(LAST, 3, 1L)) {
            more++;
        }
        answers.add((double) more);
    }

    private static void askRows(BalePress press, List<Double> answers) {
        askHours(press, 16, 60.0, answers);
        askHours(press, 20, -50.0, answers);
        for (double degrees = -50.0; degrees <= 200.0; degrees += 10.0) {
            answers.add(bit(press.row(degrees, 1.0)));
        }
        askHours(press, 6, 60.0, answers);
    }

    private static void askHours(BalePress press, int hours, double outside, List<Double> answers) {
        int[] bales = {0, 1, 2, 8};
        for (int hour = 0; hour < hours; hour++) {
            for (int bale : bales) {
                answers.add(press.warm(bale, 1, outside));
            }
        }
    }

    private static void askAlarms(BalePress press, List<Double> answers) {
        for (int hour = 0; hour < 12; hour++) {
            askHours(press, 1, 60.0, answers);
            answers.add((double) press.alarm(0));
            answers.add((double) press.alarm(1));
        }
        askHours(press, 1, -50.0, answers);
        for (int hours = 1; hours <= 30; hours++) {
            answers.add(bit(press.hold(hours)));
            answers.add((double) press.alarm(0));
            answers.add((double) press.alarm(1));
        }
    }

    private static void askStacks(BalePress press, List<Double> answers) {
        putAll(press, answers);
        for (int more = 0; more < 5; more++) {
            answers.add((double) press.stack(3, 6));
        }
        putAll(press, answers);
        for (int kind = 0; kind < 4; kind++) {
            for (int time = 0; time < 4; time++) {
                answers.add((double) press.first(kind));
            }
        }
        askStates(press, answers);
    }

    private static void putAll(BalePress press, List<Double> answers) {
        for (int bale = 0; bale < 12; bale++) {
            for (int stack = 0; stack < 4; stack++) {
                answers.add((double) press.put(bale, stack));
            }
        }
        askStates(press, answers);
    }

    private static void askLorries(BalePress press, List<Double> answers) {
        loadAll(press, answers);
        for (int more = 0; more < 4; more++) {
            answers.add((double) press.lorry(100000000L, 100000000L));
        }
        for (int kind = 0; kind < 4; kind++) {
            for (int time = 0; time < 6; time++) {
                answers.add((double) press.first(kind));
            }
        }
        loadAll(press, answers);
    }

    private static void loadAll(BalePress press, List<Double> answers) {
        for (int lorry = 0; lorry < 3; lorry++) {
            for (int bale = 0; bale < 12; bale++) {
                answers.add((double) press.load(lorry, bale));
            }
        }
        askMoments(press, answers);
    }

    private static void askPairs(BalePress press, List<Double> answers) {
        for (int a = 0; a < 12; a++) {
            for (int b = 0; b < a; b++) {
                answers.add((double) press.rebale(a, b));
            }
        }
        askStates(press, answers);
    }

    // ---- the makings

    // All bales of the makings are fed at the second 0, so one can be made behind the other.
    private static void make(BalePress press, int kind, long grams) {
        long left = grams;
        while (left > 0L) {
            long now = Math.min(left, 1000000L);
            press.feed(0L, kind, now);
            left -= now;
        }
        press.bale(0L);
    }

    private static BalePress balesOf(long... grams) {
        BalePress press = new BalePress();
        for (long one : grams) {
            make(press, 0, one);
        }
        return press;
    }

    // So many bales, and grams of every kind that are loose.
    private static BalePress bales(int count) {
        BalePress press = new BalePress();
        for (int bale = 0; bale < count; bale++) {
            make(press, bale % 4, bale + 1L);
        }
        for (int kind = 0; kind < 4; kind++) {
            press.feed(0L, kind, 100L + kind);
        }
        return press;
    }

    private static BalePress feeds(int count) {
        BalePress press = new BalePress();
        for (int feed = 0; feed < count; feed++) {
            press.feed(feed / 10, feed % 4, 1L + feed);
        }
        return press;
    }

    private static BalePress rows(int count) {
        BalePress press = balesOf(1L, 1L, 1L);
        for (int row = 0; row < count; row++) {
            press.row(10.0 * row, 1.0 + row);
        }
        return press;
    }

    private static BalePress stacks(int count) {
        BalePress press = bales(8);
        for (int stack = 0; stack < count; stack++) {
            press.stack(0, 2);
        }
        return press;
    }

    private static BalePress lorries(int count) {
        BalePress press = sold(1L, 1L, 1L);
        for (int lorry = 0; lorry < count; lorry++) {
            press.lorry(1L, 1L);
        }
        return press;
    }

    private static BalePress sold(long... grams) {
        BalePress press = balesOf(grams);
        press.stack(0, 1);
        for (int bale = 0; bale < grams.length; bale++) {
            press.put(bale, 0);
            press.first(0);
        }
        return press;
    }

    // Free are 0, 1 and 8 (made anew of 6 and 7, and hot), stacked 2 and 3, sold 4 (on lorry 0) and 5;
    // there is room for more of everything.
    private static BalePress rich() {
        BalePress press = new BalePress();
        for (int bale = 0; bale < 8; bale++) {
            press.feed(0L, bale % 4, 100L + bale);
            press.feed(0L, (bale + 1) % 4, 10L + bale);
            press.bale(0L);
        }
        press.rebale(6, 7);
        press.row(-40.0, 9.0);
        press.row(70.0, 2.0);
        press.hold(2);
        press.warm(8, 12, 60.0);
        press.stack(0, 2);
        press.stack(1, 2);
        press.stack(2, 2);
        press.put(2, 0);
        press.put(3, 1);
        press.put(4, 2);
        press.first(0);
        press.put(5, 2);
        press.first(1);
        press.lorry(150L, 1000L);
        press.lorry(2000L, 400L);
        press.load(0, 4);
        press.feed(10L, 0, 5L);
        press.feed(20L, 1, 6L);
        press.feed(30L, 2, 7L);
        press.feed(30L, 3, 8L);
        return press;
    }

    private static final Making RICH = BalePressEdgeTest::rich;
    private static final Making NEW = BalePress::new;

    // Five degrees more each hour, by the outside that gives just this; it needs the row (20.0, 10.0).
    private static void warmToFiftyFive(BalePress press, int bale) {
        for (double warmth = 20.0; warmth < 55.0; warmth += 5.0) {
            press.warm(bale, 1, warmth - 40.0);
        }
    }

    private static void warmToSixty(BalePress press, int bale) {
        warmToFiftyFive(press, bale);
        press.warm(bale, 1, 15.0);
    }

    private static void warmToBelowSixty(BalePress press, int bale) {
        warmToFiftyFive(press, bale);
        press.warm(bale, 1, 15.0 - 8.0 * Math.ulp(40.0));
    }

    // Bales of one gram, of which bale 0 has just got to 60.0.
    private static BalePress sixty(int count) {
        BalePress press = new BalePress();
        for (int bale = 0; bale < count; bale++) {
            make(press, 0, 1L);
        }
        press.row(20.0, 10.0);
        warmToSixty(press, 0);
        return press;
    }

    private static BalePress belowSixty() {
        BalePress press = balesOf(1L);
        press.row(20.0, 10.0);
        warmToBelowSixty(press, 0);
        return press;
    }

    // ---- promise 1

    private static void newObject() {
        part = "1 a new object";
        for (int kind = 0; kind < 4; kind++) {
            int of = kind;
            answers("no feeds of " + kind, NEW, 0, p -> p.count(of));
        }
        refused("nothing is loose", NEW, -1, p -> p.bale(Long.MAX_VALUE));
        refused("no bale 0", NEW, -1, p -> p.state(0));
        refused("no lorry 0", NEW, -1, p -> p.moment(0, 0));
        taken("no feed before the first, of second 0", NEW, 1, p -> bit(p.feed(0L, 0, 1L)));
        taken("no row before the first, of -50.0", () -> balesOf(1L), 1, p -> bit(p.row(-50.0, 1.0)));
        taken("no stack before 0", () -> balesOf(1L), 0, p -> p.stack(0, 1));
        taken("no lorry before 0", NEW, 0, p -> p.lorry(1L, 1L));
        refused("no stack 0", () -> balesOf(1L), 1, p -> p.put(0, 0));
        answers("the hold is 1: no alarm by a spell of 0", BalePressEdgeTest::belowSixty, -1, p -> p.alarm(0));
        answers("the hold is 1: an alarm by a spell of 1", () -> sixty(1), 0, p -> p.alarm(0));
        answers("a hold of 1 is nothing new", () -> sixty(1), 1, p -> bit(p.hold(1)));
    }

    // ---- promise 2

    private static void feedSeconds() {
        part = "2 feed, seconds";
        refused("-1", NEW, 0, p -> bit(p.feed(-1L, 0, 1L)));
        refused("the least long", NEW, 0, p -> bit(p.feed(Long.MIN_VALUE, 0, 1L)));
        taken("0", NEW, 1, p -> bit(p.feed(0L, 0, 1L)));
        taken("the last", NEW, 1, p -> bit(p.feed(LAST, 0, 1L)));
        refused("behind the last", NEW, 0, p -> bit(p.feed(LAST + 1L, 0, 1L)));
        refused("the greatest long", NEW, 0, p -> bit(p.feed(Long.MAX_VALUE, 0, 1L)));
        taken("30 by int's wrap-around", RICH, 1, p -> bit(p.feed(4294967326L, 0, 1L)));
        refused("less than the only one before", () -> fedAt(10L), 0, p -> bit(p.feed(9L, 0, 1L)));
        taken("as the only one before", () -> fedAt(10L), 1, p -> bit(p.feed(10L, 0, 1L)));
        refused("less than before", RICH, 0, p -> bit(p.feed(29L, 0, 1L)));
        taken("as before", RICH, 1, p -> bit(p.feed(30L, 0, 1L)));
        taken("more than before", RICH, 1, p -> bit(p.feed(31L, 0, 1L)));
        Making baled = () -> {
            BalePress press = rich();
            press.bale(LAST);
            return press;
        };
        refused("less than before, in a bale", baled, 0, p -> bit(p.feed(29L, 0, 1L)));
        taken("as before, in a bale", baled, 1, p -> bit(p.feed(30L, 0, 1L)));
        Making afterRefusal = () -> {
            BalePress press = rich();
            press.feed(LAST, 4, 1L);
            press.feed(LAST, 0, 0L);
            press.feed(LAST + 1L, 0, 1L);
            return press;
        };
        taken("as before the refused ones", afterRefusal, 1, p -> bit(p.feed(30L, 0, 1L)));
        Making beyondInt = () -> {
            BalePress press = rich();
            press.feed(4294967326L, 0, 1L);
            return press;
        };
        refused("less than before, more by int's wrap-around", beyondInt, 0, p -> bit(p.feed(31L, 0, 1L)));
        Making atLast = () -> fedAt(LAST);
        refused("one less than the last", atLast, 0, p -> bit(p.feed(LAST - 1L, 0, 1L)));
        taken("the last again", atLast, 1, p -> bit(p.feed(LAST, 0, 1L)));
        refused("one more than the last", atLast, 0, p -> bit(p.feed(LAST + 1L, 0, 1L)));
    }

    private static BalePress fedAt(long second) {
        BalePress press = new BalePress();
        press.feed(second, 0, 1L);
        return press;
    }

    private static void feedKindsAndGrams() {
        part = "2 feed, kinds and grams";
        refused("kind -1", RICH, 0, p -> bit(p.feed(30L, -1, 1L)));
        taken("kind 0", RICH, 1, p -> bit(p.feed(30L, 0, 1L)));
        taken("kind 3", RICH, 1, p -> bit(p.feed(30L, 3, 1L)));
        refused("kind 4", RICH, 0, p -> bit(p.feed(30L, 4, 1L)));
        refused("the least kind", RICH, 0, p -> bit(p.feed(30L, Integer.MIN_VALUE, 1L)));
        refused("the greatest kind", RICH, 0, p -> bit(p.feed(30L, Integer.MAX_VALUE, 1L)));
        refused("-1 grams", RICH, 0, p -> bit(p.feed(30L, 0, -1L)));
        refused("0 grams", RICH, 0, p -> bit(p.feed(30L, 0, 0L)));
        taken("1 gram", RICH, 1, p -> bit(p.feed(30L, 0, 1L)));
        taken("1000000 grams", RICH, 1, p -> bit(p.feed(30L, 0, 1000000L)));
        refused("1000001 grams", RICH, 0, p -> bit(p.feed(30L, 0, 1000001L)));
        refused("the least grams", RICH, 0, p -> bit(p.feed(30L, 0, Long.MIN_VALUE)));
        refused("the most grams", RICH, 0, p -> bit(p.feed(30L, 0, Long.MAX_VALUE)));
        refused("1 gram by int's wrap-around", RICH, 0, p -> bit(p.feed(30L, 0, 4294967297L)));
        BalePress press = rich();
        press.feed(30L, 0, 1L);
        press.feed(30L, 3, 1000000L);
        due("grams of kind 0 with one more", 6, press.count(0));
        due("grams of kind 3 with 1000000 more", 1000008, press.count(3));
    }

    private static void feedLimit() {
        part = "2 feed, 200 of them";
        taken("the 200th", () -> feeds(199), 1, p -> bit(p.feed(100L, 0, 1L)));
        refused("the 201st", () -> feeds(200), 0, p -> bit(p.feed(100L, 0, 1L)));
        Making baled = () -> {
            BalePress press = feeds(200);
            press.bale(LAST);
            return press;
        };
        refused("the 201st, the others being in a bale", baled, 0, p -> bit(p.feed(100L, 0, 1L)));
        Making oneLeft = () -> {
            BalePress press = feeds(199);
            press.bale(LAST);
            press.feed(100L, 4, 1L);
            return press;
        };
        taken("the 200th, the others being in a bale", oneLeft, 1, p -> bit(p.feed(100L, 0, 1L)));
    }

    // ---- promise 3

    private static void baleSeconds() {
        part = "3 bale, seconds";
        refused("the least long", RICH, -1, p -> p.bale(Long.MIN_VALUE));
        refused("-1", RICH, -1, p -> p.bale(-1L));
        refused("a second before the first", RICH, -1, p -> p.bale(9L));
        taken("the second of the first", RICH, 9, p -> p.bale(10L));
        taken("a second before the next", RICH, 9, p -> p.bale(19L));
        taken("the last second", RICH, 9, p -> p.bale(LAST));
        taken("a second behind the last", RICH, 9, p -> p.bale(LAST + 1L));
        taken("the greatest long", RICH, 9, p -> p.bale(Long.MAX_VALUE));
        due("before the next: in 9 of 0", 5, inNew(19L, 0));
        due("before the next: in 9 of 1", 0, inNew(19L, 1));
        due("at the next: in 9 of 1", 6, inNew(20L, 1));
        due("a second before two: in 9 of 2", 0, inNew(29L, 2));
        due("at the second of two: in 9 of 2", 7, inNew(30L, 2));
        due("at the second of two: in 9 of 3", 8, inNew(30L, 3));
        Making baled = () -> {
            BalePress press = rich();
            press.bale(20L);
            return press;
        };
        refused("nothing more at that second", baled, -1, p -> p.bale(20L));
        refused("nothing more before the next", baled, -1, p -> p.bale(29L));
        answers("no more loose of 1", baled, 0, p -> p.count(1));
        answers("loose still of 2", baled, 7, p -> p.count(2));
        taken("what is loose still", baled, 10, p -> p.bale(30L));
        Making all = () -> {
            BalePress press = rich();
            press.bale(30L);
            return press;
        };
        refused("nothing is loose", all, -1, p -> p.bale(Long.MAX_VALUE));
        Making again = () -> {
            BalePress press = rich();
            press.bale(30L);
            press.feed(30L, 1, 77L);
            return press;
        };
        refused("fed behind the bale, at its second: one less", again, -1, p -> p.bale(29L));
        taken("fed behind the bale, at its second", again, 10, p -> p.bale(30L));
        Making atZero = () -> {
            BalePress press = balesOf(1L);
            press.feed(0L, 0, 1L);
            return press;
        };
        refused("-1, fed at 0", atZero, -1, p -> p.bale(-1L));
        taken("0, fed at 0", atZero, 1, p -> p.bale(0L));
        Making atLast = () -> {
            BalePress press = balesOf(1L);
            press.feed(LAST, 0, 1L);
            return press;
        };
        refused("one less than the last, fed at the last", atLast, -1, p -> p.bale(LAST - 1L));
        taken("the last, fed at the last", atLast, 1, p -> p.bale(LAST));
    }

    private static double inNew(long second, int kind) {
        BalePress press = rich();
        press.bale(second);
        return press.in(9, kind);
    }

    private static void baleLimit() {
        part = "3 bale, 12 of them";
        taken("the first", () -> bales(0), 0, p -> p.bale(0L));
        taken("the 12th", () -> bales(11), 11, p -> p.bale(0L));
        refused("the 13th", () -> bales(12), -1, p -> p.bale(0L));
        Making anew = () -> {
            BalePress press = bales(10);
            press.rebale(0, 1);
            return press;
        };
        taken("the 12th, two being gone", anew, 11, p -> p.bale(0L));
        Making anewFull = () -> {
            BalePress press = bales(11);
            press.rebale(0, 1);
            return press;
        };
        refused("the 13th, two being gone", anewFull, -1, p -> p.bale(0L));
        Making soldOnes = () -> {
            BalePress press = bales(12);
            press.stack(0, 6);
            press.put(0, 0);
            press.first(0);
            return press;
        };
        refused("the 13th, one being sold", soldOnes, -1, p -> p.bale(0L));
    }

    // ---- the numbers of bales and kinds, as all questions take them

    private static double[] questions(BalePress press, int bale) {
        return new double[] {press.in(bale, 0), press.wires(bale), press.size(bale, 8.0), press.brought(bale, 0, 0),
            press.label(bale, 0), press.state(bale), press.warm(bale, 0, 0.0)};
    }

    private static void numbersOfBales() {
        part = "4, 6, 7, 9, 19, 20, 21 numbers of bales";
        Making[] makings = {NEW, () -> bales(1), RICH, () -> bales(12)};
        int[] counts = {0, 1, 9, 12};
        for (int i = 0; i < makings.length; i++) {
            int[] none = {-1, counts[i], 12, Integer.MIN_VALUE, Integer.MAX_VALUE, counts[i] - 256};
            for (int number : none) {
                noBale(makings[i], counts[i], number);
            }
        }
        for (int number = 0; number < 12; number++) {
            double[] got = questions(bales(12), number);
            double s = (number + 1) * 0.001 / 8.0;
            double[] want = {number % 4 == 0 ? number + 1 : 0, 3, s + s * 0.125, 0, 'B', 0, 20.0};
            for (int i = 0; i < want.length; i++) {
                due("question " + i + " of bale " + number + " of 12", want[i], got[i]);
            }
        }
    }

    private static void noBale(Making making, int count, int number) {
        String what = "bale " + number + " of " + count + ": ";
        refused(what + "in", making, -1, p -> p.in(number, 0));
        refused(what + "wires", making, -1, p -> p.wires(number));
        refused(what + "size", making, -1.0, p -> p.size(number, 8.0));
        refused(what + "warm", making, -1000.0, p -> p.warm(number, 1, 0.0));
        refused(what + "put", making, 1, p -> p.put(number, 0));
        refused(what + "load", making, -1, p -> p.load(0, number));
        refused(what + "rebale, first", making, -1, p -> p.rebale(number, 0));
        refused(what + "rebale, second", making, -1, p -> p.rebale(0, number));
        refused(what + "brought", making, -1, p -> p.brought(number, 0, 0));
        refused(what + "label", making, -1, p -> p.label(number, 0));
        refused(what + "state", making, -1, p -> p.state(number));
    }

    private static void numbersOfKinds() {
        part = "4, 5, 14, 19 numbers of kinds";
        int[] none = {-1, 4, Integer.MIN_VALUE, Integer.MAX_VALUE, 256};
        for (int kind : none) {
            refused("in, kind " + kind, RICH, -1, p -> p.in(0, kind));
            refused("count, kind " + kind, RICH, -1, p -> p.count(kind));
            refused("first, kind " + kind, RICH, -1, p -> p.first(kind));
            refused("brought, kind " + kind, RICH, -1, p -> p.brought(8, kind, 0));
            refused("brought to a plain one, kind " + kind, RICH, -1, p -> p.brought(0, kind, 0));
        }
    }

    // ---- promises 4 and 5

    private static void gramsOfKinds() {
        part = "4 in and 5 count";
        answers("in 0 of 0", RICH, 100, p -> p.in(0, 0));
        answers("in 0 of 1", RICH, 10, p -> p.in(0, 1));
        answers("in 0 of 2", RICH, 0, p -> p.in(0, 2));
        answers("in 0 of 3", RICH, 0, p -> p.in(0, 3));
        answers("in 7 of 3, a gone one", RICH, 107, p -> p.in(7, 3));
        answers("in 7 of 0, a gone one", RICH, 17, p -> p.in(7, 0));
        answers("in 4 of 0, a sold one", RICH, 104, p -> p.in(4, 0));
        answers("in 3 of 3, a stacked one", RICH, 103, p -> p.in(3, 3));
        answers("count of 0", RICH, 5, p -> p.count(0));
        answers("count of 3", RICH, 8, p -> p.count(3));
        answers("count of 0 of none", () -> balesOf(1L), 0, p -> p.count(0));
        answers("count of 3 of none", () -> balesOf(1L), 0, p -> p.count(3));
        BalePress full = new BalePress();
        for (int feed = 0; feed < 200; feed++) {
            full.feed(0L, 3, 1000000L);
        }
        due("the most that can be loose", 200000000, full.count(3));
        full.bale(0L);
        due("no more of it", 0, full.count(3));
        due("the most that can be in a bale", 200000000, full.in(0, 3));
    }

    // ---- promises 6 and 7

    private static void wires() {
        part = "6 wires";
        long[] grams = {1, 99999, 100000, 100001, 200000, 200001, 299999, 300000, 300001, 399999, 400000, 400001,
            999999, 1000000, 1000001, 199900000, 199900001, 200000000};
        int[] due = {3, 3, 3, 3, 3, 3, 3, 3, 4, 4, 4, 5, 10, 10, 11, 1999, 2000, 2000};
        for (int i = 0; i < grams.length; i++) {
            long of = grams[i];
            answers("of " + of, () -> balesOf(of), due[i], p -> p.wires(0));
        }
        Making mixed = () -> {
            BalePress press = new BalePress();
            press.feed(0L, 0, 150000L);
            press.feed(0L, 3, 150000L);
            press.bale(0L);
            press.feed(0L, 0, 150000L);
            press.feed(0L, 3, 150001L);
            press.bale(0L);
            return press;
        };
        answers("of 300000 of two kinds", mixed, 3, p -> p.wires(0));
        answers("of 300001 of two kinds", mixed, 4, p -> p.wires(1));
        answers("of a gone one", RICH, 3, p -> p.wires(6));
    }

    private static void sizes() {
        part = "7 size";
        double[] none = {Math.nextDown(1.0), 0.0, -0.0, -1.0, -64.0, Math.nextUp(64.0), 65.0, Double.MAX_VALUE,
            -Double.MAX_VALUE, Double.MIN_VALUE, Double.NaN, Double.POSITIVE_INFINITY, Double.NEGATIVE_INFINITY};
        for (double pressure : none) {
            refused("by " + pressure, RICH, -1.0, p -> p.size(0, pressure));
        }
        double[] some = {1.0, Math.nextUp(1.0), 3.7, Math.nextDown(64.0), 64.0};
        for (double pressure : some) {
            double s = 110 * 0.001 / pressure;
            answers("by " + pressure, RICH, s + s * 0.125, p -> p.size(0, pressure));
        }
        double least = 1 * 0.001 / 64.0;
        answers("the least", () -> balesOf(1L), least + least * 0.125, p -> p.size(0, 64.0));
        double most = 200000000 * 0.001;
        answers("the greatest", () -> balesOf(200000000L), most + most * 0.125, p -> p.size(0, 1.0));
    }

    // ---- promise 8

    private static void rowValues() {
        part = "8 row, values";
        Making bale = () -> balesOf(1L, 1L);
        double[] noDegrees = {Math.nextDown(-50.0), Math.nextUp(200.0), Double.NaN, Double.POSITIVE_INFINITY,
            Double.NEGATIVE_INFINITY, Double.MAX_VALUE, -Double.MAX_VALUE};
        for (double degrees : noDegrees) {
            refused("degrees " + degrees, bale, 0, p -> bit(p.row(degrees, 1.0)));
            refused("degrees " + degrees + " behind others", RICH, 0, p -> bit(p.row(degrees, 1.0)));
        }
        taken("degrees -50.0", bale, 1, p -> bit(p.row(-50.0, 1.0)));
        taken("degrees 200.0", bale, 1, p -> bit(p.row(200.0, 1.0)));
        double[] noHeats = {Math.nextDown(0.0), -1.0, Math.nextUp(10.0), Double.NaN, Double.POSITIVE_INFINITY,
            Double.NEGATIVE_INFINITY};
        for (double heat : noHeats) {
            refused("heat " + heat, bale, 0, p -> bit(p.row(0.0, heat)));
            refused("heat " + heat + " behind others", RICH, 0, p -> bit(p.row(71.0, heat)));
        }
        taken("heat 0.0", bale, 1, p -> bit(p.row(0.0, 0.0)));
        taken("heat 10.0", bale, 1, p -> bit(p.row(0.0, 10.0)));
        BalePress press = balesOf(1L, 1L);
        press.row(-50.0, 10.0);
        due("10.0 are gained from -50.0 on", 30.0, press.warm(0, 1, 20.0));
        press.row(20.0, 0.0);
        due("0.0 are gained from 20.0 on", 20.0, press.warm(1, 1, 20.0));
    }

    private static void rowOrderAndLimit() {
        part = "8 row, order and limit";
        refused("less than before", RICH, 0, p -> bit(p.row(Math.nextDown(70.0), 1.0)));
        refused("as before", RICH, 0, p -> bit(p.row(70.0, 1.0)));
        taken("more than before", RICH, 1, p -> bit(p.row(Math.nextUp(70.0), 1.0)));
        Making atLast = () -> {
            BalePress press = rich();
            press.row(200.0, 1.0);
            return press;
        };
        refused("200.0 again", atLast, 0, p -> bit(p.row(200.0, 2.0)));
        refused("one that is between", atLast, 0, p -> bit(p.row(150.0, 2.0)));
        Making zero = () -> {
            BalePress press = rows(0);
            press.row(-0.0, 1.0);
            return press;
        };
        refused("0.0 behind -0.0", zero, 0, p -> bit(p.row(0.0, 2.0)));
        taken("more than -0.0", zero, 1, p -> bit(p.row(Double.MIN_VALUE, 2.0)));
        Making afterRefusal = () -> {
            BalePress press = rows(2);
            press.row(100.0, 11.0);
            return press;
        };
        taken("less than a refused one", afterRefusal, 1, p -> bit(p.row(99.0, 9.0)));
        taken("the 6th", () -> rows(5), 1, p -> bit(p.row(50.0, 9.0)));
        refused("the 7th", () -> rows(6), 0, p -> bit(p.row(60.0, 9.0)));
    }

    private static void rowsAtTheirDegrees() {
        part = "8 row, from its degrees on";
        due("no row: nothing is gained", 20.0, balesOf(1L).warm(0, 1, 20.0));
        due("at its degrees", 21.0, afterAnHour(20.0));
        due("just above its degrees", 21.0, afterAnHour(Math.nextDown(20.0)));
        due("just below its degrees", 20.0, afterAnHour(Math.nextUp(20.0)));
        BalePress two = balesOf(1L, 1L);
        two.row(20.0, 1.0);
        two.row(21.0, 5.0);
        due("below the last row", 21.0, two.warm(0, 1, 20.0));
        due("at the last row", 26.0, two.warm(0, 1, 21.0));
        due("hour by hour", 26.0 - 0.125, two.warm(1, 2, 20.0));
        BalePress last = balesOf(1L);
        double[] heats = {1.0, 2.0, 3.0, 4.0, 5.0, 6.0};
        for (int row = 0; row < 6; row++) {
            last.row(15.0 + row, heats[row]);
        }
        due("at the 6th row", 26.0, last.warm(0, 1, 20.0));
        BalePress less = balesOf(1L);
        less.row(0.0, 9.0);
        less.row(20.0, 0.0);
        due("the last row counts, be it the lesser one", 20.0, less.warm(0, 1, 20.0));
    }

    private static double afterAnHour(double degrees) {
        BalePress press = balesOf(1L);
        press.row(degrees, 1.0);
        return press.warm(0, 1, 20.0);
    }

    // ---- promise 9

    private static void warmValues() {
        part = "9 warm, values";
        int[] noHours = {-1, 101, Integer.MIN_VALUE, Integer.MAX_VALUE, 256};
        for (int hours : noHours) {
            refused(hours + " hours", RICH, -1000.0, p -> p.warm(0, hours, 0.0));
            refused(hours + " hours of a hot one", RICH, -1000.0, p -> p.warm(8, hours, 0.0));
        }
        answers("0 hours", RICH, 20.0, p -> p.warm(0, 0, 60.0));
        answers("0 hours of a hot one", () -> sixty(1), 60.0, p -> p.warm(0, 0, -50.0));
        taken("1 hour", RICH, 25.25, p -> p.warm(0, 1, -10.0));
        taken("100 hours", RICH, hours(100, 60.0), p -> p.warm(0, 100, 60.0));
        taken("99 hours", RICH, hours(99, 60.0), p -> p.warm(0, 99, 60.0));
        double[] noOutside = {Math.nextDown(-50.0), Math.nextUp(60.0), Double.NaN, Double.POSITIVE_INFINITY,
            Double.NEGATIVE_INFINITY, Double.MAX_VALUE, -Double.MAX_VALUE};
        for (double outside : noOutside) {
            refused("outside " + outside, RICH, -1000.0, p -> p.warm(0, 1, outside));
            refused("outside " + outside + " for 0 hours", RICH, -1000.0, p -> p.warm(0, 0, outside));
        }
        taken("outside -50.0", RICH, 20.25, p -> p.warm(0, 1, -50.0));
        taken("outside 60.0", RICH, 34.0, p -> p.warm(0, 1, 60.0));
        answers("outside -50.0 for 0 hours", RICH, 20.0, p -> p.warm(0, 0, -50.0));
        answers("outside 60.0 for 0 hours", RICH, 20.0, p -> p.warm(0, 0, 60.0));
    }

    // What a plain bale of the rich press gets to.
    private static double hours(int hours, double outside) {
        double t = 20.0;
        for (int hour = 0; hour < hours; hour++) {
            double h = t >= 70.0 ? 2.0 : t >= -40.0 ? 9.0 : 0.0;
            t = (t + h) - (t - outside) * 0.125;
        }
        return t;
    }

    private static void warmStates() {
        part = "9 warm, states";
        taken("a free one", RICH, 29.0, p -> p.warm(1, 1, 20.0));
        taken("a stacked one", RICH, 29.0, p -> p.warm(2, 1, 20.0));
        refused("a sold one", RICH, -1000.0, p -> p.warm(5, 1, 20.0));
        refused("a sold one, 0 hours", RICH, -1000.0, p -> p.warm(5, 0, 20.0));
        refused("a sold one on a lorry", RICH, -1000.0, p -> p.warm(4, 1, 20.0));
        refused("a gone one, the first of two", RICH, -1000.0, p -> p.warm(6, 1, 20.0));
        refused("a gone one, the second of two", RICH, -1000.0, p -> p.warm(7, 1, 20.0));
        refused("a gone one, 0 hours", RICH, -1000.0, p -> p.warm(6, 0, 20.0));
    }

    private static void warmHours() {
        part = "9 warm, hours";
        BalePress plain = balesOf(1L, 1L, 1L);
        double t = 20.0;
        for (int hour = 0; hour < 100; hour++) {
            t = (t + 0.0) - (t - -50.0) * 0.125;
            due("hour " + hour, t, plain.warm(0, 1, -50.0));
        }
        due("100 hours at once", t, plain.warm(1, 100, -50.0));
        due("100 hours in two calls", t, byHalves(100, -50.0));
        due("no other bale got warmer", 20.0, plain.warm(2, 0, 0.0));
    }

    private static double byHalves(int hours, double outside) {
        BalePress press = balesOf(1L);
        press.warm(0, hours / 2, outside);
        return press.warm(0, hours - hours / 2, outside);
    }

    private static void hotAtSixty() {
        part = "hot at 60.0";
        due("warmth", 60.0, sixty(1).warm(0, 0, 0.0));
        due("warmth just below", BELOW_SIXTY, belowSixty().warm(0, 0, 0.0));
        answers("60.0 is hot", () -> sixty(1), 0, p -> p.alarm(0));
        answers("below 60.0 is not", BalePressEdgeTest::belowSixty, -1, p -> p.alarm(0));
        Making hot = () -> {
            BalePress press = sixty(1);
            press.stack(0, 6);
            return press;
        };
        Making below = () -> {
            BalePress press = belowSixty();
            press.stack(0, 6);
            return press;
        };
        refused("60.0 bars put", hot, 4, p -> p.put(0, 0));
        taken("below 60.0 does not", below, 0, p -> p.put(0, 0));
        Making cooled = () -> {
            BalePress press = sixty(1);
            press.stack(0, 6);
            press.warm(0, 1, -50.0);
            return press;
        };
        taken("it was hot, but is no more", cooled, 0, p -> p.put(0, 0));
    }

    // The greatest hold by which bale 0 has an alarm.
    private static int spell(Making making) {
        BalePress press = making.make();
        int spell = 0;
        while (spell < 200 && press.hold(spell + 1) && press.alarm(0) == 0) {
            spell++;
        }
        return spell;
    }

    private static void dueSpell(String what, int want, Making making) {
        due(what, want, spell(making));
    }

    // So many hot hours, by single calls; before each run but the first the bale gets cold.
    private static BalePress hotHours(int... runs) {
        BalePress press = sixty(1);
        for (int i = 0; i < runs.length; i++) {
            if (i > 0) {
                press.warm(0, 100, -50.0);
                warmUntilHot(press);
            }
            for (int hour = 1; hour < runs[i]; hour++) {
                press.warm(0, 1, 20.0);
            }
        }
        return press;
    }

    // Leaves the bale hot behind just one hour.
    private static void warmUntilHot(BalePress press) {
        for (int hour = 0; hour < 100 && press.warm(0, 0, 0.0) < 60.0; hour++) {
            press.warm(0, 1, 60.0);
        }
    }

    private static void spells() {
        part = "9 warm, spells";
        dueSpell("never hot", 0, () -> balesOf(1L));
        dueSpell("just below 60.0", 0, BalePressEdgeTest::belowSixty);
        dueSpell("just at 60.0", 1, () -> sixty(1));
        dueSpell("0 hours more", 1, () -> {
            BalePress press = sixty(1);
            press.warm(0, 0, 60.0);
            return press;
        });
        dueSpell("99 hours more at once", 100, () -> {
            BalePress press = sixty(1);
            press.warm(0, 99, 60.0);
            return press;
        });
        dueSpell("5 by single calls", 5, () -> hotHours(5));
        dueSpell("0 hours end no spell", 5, () -> {
            BalePress press = hotHours(4);
            press.warm(0, 0, -50.0);
            press.warm(0, 1, 60.0);
            return press;
        });
        dueSpell("refused hours end no spell", 5, () -> {
            BalePress press = hotHours(4);
            press.warm(0, 101, -50.0);
            press.warm(0, 1, -51.0);
            press.warm(1, 1, -50.0);
            press.warm(0, 1, 60.0);
            return press;
        });
        int cooling = spell(() -> hotHours(5, 1)) - 5;
        dueSpell("the greater one comes first", 5 + cooling, () -> hotHours(5, 3));
        dueSpell("as great a second one", 5 + cooling, () -> hotHours(5, 5 + cooling));
        dueSpell("a second one that is greater by one", 6 + cooling, () -> hotHours(5, 6 + cooling));
        dueSpell("two that are not added", 5 + cooling, () -> hotHours(5, 5));
        dueSpell("a stacked one goes on", 2, () -> {
            BalePress press = belowSixty();
            press.stack(0, 1);
            press.put(0, 0);
            press.warm(0, 2, 60.0);
            return press;
        });
    }

    // ---- promise 10

    private static void holds() {
        part = "10 hold";
        int[] none = {0, -1, 1001, Integer.MIN_VALUE, Integer.MAX_VALUE, 65537};
        for (int hours : none) {
            refused(hours + " hours", RICH, 0, p -> bit(p.hold(hours)));
            refused(hours + " hours, one being hot", () -> sixty(1), 0, p -> bit(p.hold(hours)));
        }
        Making ofTwo = () -> {
            BalePress press = sixty(1);
            press.hold(2);
            return press;
        };
        taken("1", ofTwo, 1, p -> bit(p.hold(1)));
        taken("1000", () -> sixty(1), 1, p -> bit(p.hold(1000)));
        answers("a spell of less than the hold", ofTwo, -1, p -> p.alarm(0));
        Making ofTwoHours = () -> {
            BalePress press = ofTwo.make();
            press.warm(0, 1, 60.0);
            return press;
        };
        answers("a spell of the hold", ofTwoHours, 0, p -> p.alarm(0));
        BalePress press = ofTwoHours.make();
        press.hold(3);
        due("a spell of less than the new hold", -1, press.alarm(0));
        press.hold(1);
        due("a spell of more than the new hold", 0, press.alarm(0));
        press.hold(1001);
        due("after a refused hold", 0, press.alarm(0));
    }

    private static BalePress hotFor(int hours) {
        BalePress press = sixty(1);
        int left = hours - 1;
        while (left > 0) {
            int now = Math.min(left, 100);
            press.warm(0, now, 60.0);
            left -= now;
        }
        return press;
    }

    private static void longestHold() {
        part = "10 hold, the longest";
        int[] holds = {1, 2, 100, 101, 999, 1000};
        for (int hold : holds) {
            BalePress shorter = hold == 1 ? belowSixty() : hotFor(hold - 1);
            due("hold of " + hold, 1, bit(shorter.hold(hold)));
            due("hot for an hour less than " + hold, -1, shorter.alarm(0));
            BalePress just = hotFor(hold);
            due("hold of " + hold + " again", 1, bit(just.hold(hold)));
            due("hot for " + hold, 0, just.alarm(0));
        }
    }

    // ---- promise 11

    // Of bales 0 .. 5, alarms have 1 (stacked), 3, 4 (cold again) and 5.
    private static BalePress alarming() {
        BalePress press = balesOf(1L, 1L, 1L, 1L, 1L, 1L);
        press.row(20.0, 10.0);
        press.stack(0, 6);
        press.put(1, 0);
        int[] hot = {5, 4, 3, 1};
        for (int bale : hot) {
            warmToSixty(press, bale);
        }
        press.warm(4, 1, -50.0);
        warmToBelowSixty(press, 0);
        return press;
    }

    private static void alarms() {
        part = "11 alarm";
        Making making = BalePressEdgeTest::alarming;
        int[] due = {1, 3, 4, 5};
        for (int k = 0; k < 4; k++) {
            int number = k;
            answers("k = " + k, making, due[k], p -> p.alarm(number));
        }
        int[] none = {-1, 4, Integer.MIN_VALUE, Integer.MAX_VALUE};
        for (int k : none) {
            refused("k = " + k, making, -1, p -> p.alarm(k));
        }
        refused("none at all", () -> bales(12), -1, p -> p.alarm(0));
        refused("no bales", NEW, -1, p -> p.alarm(0));
        BalePress press = alarming();
        press.first(0);
        due("a sold one has none", 3, press.alarm(0));
        due("the last without the sold one", 5, press.alarm(2));
        due("behind the last without the sold one", -1, press.alarm(3));
        press.rebale(3, 5);
        due("gone ones have none, nor has the new one", 4, press.alarm(0));
        due("behind the only one", -1, press.alarm(1));
        press.warm(6, 1, 60.0);
        due("the new one has when it was hot itself", 6, press.alarm(1));
        Making all = () -> {
            BalePress hot = new BalePress();
            for (int bale = 0; bale < 12; bale++) {
                make(hot, 0, 1L);
            }
            hot.row(20.0, 10.0);
            for (int bale = 0; bale < 12; bale++) {
                hot.warm(bale, 20, 60.0);
            }
            return hot;
        };
        answers("the 12th of 12", all, 11, p -> p.alarm(11));
        refused("behind the 12th of 12", all, -1, p -> p.alarm(12));
    }

    // ---- promise 12

    private static void stackValues() {
        part = "12 stack";
        int[] noGaps = {-1, 4, Integer.MIN_VALUE, Integer.MAX_VALUE, 256};
        for (int gap : noGaps) {
            refused("gap " + gap, RICH, -1, p -> p.stack(gap, 1));
        }
        int[] noHeights = {-1, 0, 7, Integer.MIN_VALUE, Integer.MAX_VALUE, 257};
        for (int height : noHeights) {
            refused("height " + height, RICH, -1, p -> p.stack(0, height));
        }
        taken("the least gap and height", RICH, 3, p -> p.stack(0, 1));
        taken("the greatest gap and height", RICH, 3, p -> p.stack(3, 6));
        taken("the first", () -> stacks(0), 0, p -> p.stack(0, 6));
        taken("the 4th", () -> stacks(3), 3, p -> p.stack(3, 6));
        refused("the 5th", () -> stacks(4), -1, p -> p.stack(3, 6));
    }

    // ---- promise 13

    private static void putNumbers() {
        part = "13 put, 1 none such";
        int[] none = {-1, 3, 4, Integer.MIN_VALUE, Integer.MAX_VALUE, 256};
        for (int stack : none) {
            refused("stack " + stack, RICH, 1, p -> p.put(0, stack));
            refused("stack " + stack + ", not free either", RICH, 1, p -> p.put(2, stack));
            refused("stack " + stack + " for no bale", RICH, 1, p -> p.put(9, stack));
        }
        int[] noBales = {-1, 9, 12, Integer.MIN_VALUE, Integer.MAX_VALUE, 256};
        for (int bale : noBales) {
            refused("bale " + bale, RICH, 1, p -> p.put(bale, 2));
        }
        taken("the last stack", RICH, 0, p -> p.put(0, 2));
        taken("stack 3 of 4", () -> stacks(4), 0, p -> p.put(7, 3));
        refused("stack 4 of 4", () -> stacks(4), 1, p -> p.put(7, 4));
        refused("bale 8 of 8", () -> stacks(4), 1, p -> p.put(8, 3));
        refused("no stacks", () -> bales(1), 1, p -> p.put(0, 0));
    }

    private static void putStates() {
        part = "13 put, 2 not free";
        for (int stack = 0; stack < 3; stack++) {
            int onto = stack;
            refused("a stacked one onto " + stack, RICH, 2, p -> p.put(2, onto));
            refused("a sold one onto " + stack, RICH, 2, p -> p.put(5, onto));
            refused("one on a lorry onto " + stack, RICH, 2, p -> p.put(4, onto));
            refused("a gone one onto " + stack, RICH, 2, p -> p.put(6, onto));
            refused("a gone one, the second of two, onto " + stack, RICH, 2, p -> p.put(7, onto));
        }
        taken("a free one", RICH, 0, p -> p.put(1, 2));
        Making anew = () -> {
            BalePress press = rich();
            press.rebale(0, 1);
            return press;
        };
        taken("one made anew", anew, 0, p -> p.put(9, 2));
    }

    // A stack of the height with so many bales on it, and free bales behind them.
    private static BalePress stackOf(int height, int bales) {
        BalePress press = balesOf(1L, 1L, 1L, 1L, 1L, 1L, 1L, 1L);
        press.stack(0, height);
        press.stack(0, 1);
        for (int bale = 0; bale < bales; bale++) {
            press.put(bale, 0);
        }
        return press;
    }

    private static void putHeights() {
        part = "13 put, 3 the stack is full";
        for (int height = 1; height <= 6; height++) {
            int most = height;
            taken("the last of " + height, () -> stackOf(most, most - 1), 0, p -> p.put(7, 0));
            refused("one more than " + height, () -> stackOf(most, most), 3, p -> p.put(7, 0));
            Making afterSale = () -> {
                BalePress press = stackOf(most, most);
                press.first(0);
                return press;
            };
            taken("one is sold of " + height, afterSale, 0, p -> p.put(7, 0));
            Making fullAgain = () -> {
                BalePress press = afterSale.make();
                press.put(7, 0);
                return press;
            };
            refused("full again with " + height, fullAgain, 3, p -> p.put(6, 0));
            taken("the other one is empty still", fullAgain, 0, p -> p.put(6, 1));
        }
    }

    private static void putGrams() {
        part = "13 put, 6 more than 1000000 grams";
        taken("1000000 alone", () -> onStack(0L, 1000000L), 0, p -> p.put(1, 0));
        refused("1000001 alone", () -> onStack(0L, 1000001L), 6, p -> p.put(1, 0));
        taken("1000000 together", () -> onStack(1L, 999999L), 0, p -> p.put(1, 0));
        refused("1000001 together", () -> onStack(2L, 999999L), 6, p -> p.put(1, 0));
        taken("1000000 by halves", () -> onStack(500000L, 500000L), 0, p -> p.put(1, 0));
        refused("1000001 by halves", () -> onStack(500000L, 500001L), 6, p -> p.put(1, 0));
        refused("one behind a full 1000000", () -> onStack(1000000L, 1L), 6, p -> p.put(1, 0));
        refused("the most there can be", () -> onStack(0L, 199000000L), 6, p -> p.put(1, 0));
        Making afterSale = () -> {
            BalePress press = onStack(1000000L, 1000000L);
            press.first(0);
            return press;
        };
        taken("what is sold is no more on it", afterSale, 0, p -> p.put(1, 0));
        Making kinds = () -> {
            BalePress press = new BalePress();
            press.stack(0, 6);
            long[] second = {400000L, 400001L};
            for (long grams : second) {
                press.feed(0L, 0, 500000L);
                press.feed(0L, 1, grams);
                press.bale(0L);
            }
            make(press, 0, 100000L);
            press.put(2, 0);
            return press;
        };
        taken("grams of all kinds, 1000000", kinds, 0, p -> p.put(0, 0));
        refused("grams of all kinds, 1000001", kinds, 6, p -> p.put(1, 0));
    }

    // Stack 0 with a bale of so many grams on it (with none when it has none), and bale 1 that is free.
    private static BalePress onStack(long on, long free) {
        BalePress press = balesOf(Math.max(on, 1L), free);
        press.stack(0, 6);
        if (on > 0L) {
            press.put(0, 0);
        }
        return press;
    }

    // Bale 0 is on stack 0; bale 1 comes, and is barred by each rule that is asked for.
    private static BalePress barred(boolean notFree, boolean full, boolean hot, boolean other, boolean heavy) {
        BalePress press = new BalePress();
        press.row(20.0, 10.0);
        make(press, 0, 1L);
        make(press, other ? 1 : 0, heavy ? 1000000L : 999999L);
        press.stack(0, full ? 1 : 2);
        press.stack(0, 1);
        press.put(0, 0);
        if (notFree) {
            press.put(1, 1);
        }
        if (hot) {
            warmToSixty(press, 1);
        } else {
            warmToBelowSixty(press, 1);
        }
        return press;
    }

    private static void putOrder() {
        part = "13 put, the first rule that bars it";
        for (int bars = 0; bars < 32; bars++) {
            boolean[] bar = new boolean[5];
            int first = 0;
            for (int rule = 4; rule >= 0; rule--) {
                bar[rule] = (bars >> rule & 1) == 1;
                first = bar[rule] ? rule + 2 : first;
            }
            Making making = () -> barred(bar[0], bar[1], bar[2], bar[3], bar[4]);
            if (first == 0) {
                taken("no rule", making, 0, p -> p.put(1, 0));
            } else {
                refused("rules " + bars, making, first, p -> p.put(1, 0));
                refused("rules " + bars + " and no stack", making, 1, p -> p.put(1, 2));
            }
        }
    }

    // Bale 0 of kind 1 on a stack; bale 1 has so many grams of each kind.
    private static BalePress besideKindOne(long... grams) {
        BalePress press = new BalePress();
        press.stack(0, 6);
        make(press, 1, 5L);
        press.put(0, 0);
        for (int kind = 3; kind >= 0; kind--) {
            if (grams[kind] > 0L) {
                press.feed(0L, kind, grams[kind]);
            }
        }
        press.bale(0L);
        return press;
    }

    private static void putMainKinds() {
        part = "13 put, 5 another main kind";
        taken("all of it", () -> besideKindOne(0, 1, 0, 0), 0, p -> p.put(1, 0));
        taken("most of it", () -> besideKindOne(4, 5, 4, 4), 0, p -> p.put(1, 0));
        taken("as much of greater ones", () -> besideKindOne(4, 5, 5, 5), 0, p -> p.put(1, 0));
        refused("as much of a lesser one", () -> besideKindOne(5, 5, 4, 4), 5, p -> p.put(1, 0));
        refused("more of a greater one", () -> besideKindOne(0, 5, 6, 0), 5, p -> p.put(1, 0));
        refused("more of the greatest one", () -> besideKindOne(0, 5, 5, 6), 5, p -> p.put(1, 0));
        refused("nothing of it", () -> besideKindOne(0, 0, 0, 1), 5, p -> p.put(1, 0));
        Making afterSale = () -> {
            BalePress press = besideKindOne(1, 0, 0, 0);
            press.first(1);
            return press;
        };
        taken("the other one is sold", afterSale, 0, p -> p.put(1, 0));
        Making otherStack = () -> {
            BalePress press = besideKindOne(1, 0, 0, 0);
            press.stack(3, 6);
            return press;
        };
        taken("onto another stack", otherStack, 0, p -> p.put(1, 1));
        Making third = () -> {
            BalePress press = besideKindOne(0, 1, 0, 0);
            press.put(1, 0);
            make(press, 2, 1L);
            return press;
        };
        refused("the third one", third, 5, p -> p.put(2, 0));
    }

    private static BalePress twoOnStacks(int gap, int greater, int standsOn) {
        BalePress press = balesOf(500000L, 500001L, 500000L);
        for (int stack = 0; stack < 4; stack++) {
            press.stack(stack == greater ? gap : stack < greater ? 3 : 0, 6);
        }
        press.put(0, standsOn);
        return press;
    }

    private static void closeStacks() {
        part = "13 put, close stacks";
        for (int greater = 1; greater < 4; greater++) {
            for (int lesser = 0; lesser < greater; lesser++) {
                for (int gap = 0; gap <= 3; gap++) {
                    closeByGap(gap, lesser, greater);
                }
            }
        }
        taken("three close stacks, 1000000", BalePressEdgeTest::threeOnStacks, 0, p -> p.put(3, 3));
        refused("three close stacks, 1000001", BalePressEdgeTest::threeOnStacks, 6, p -> p.put(4, 3));
        taken("two close stacks and one that is not", BalePressEdgeTest::threeOnStacks, 0, p -> p.put(4, 1));
        for (int stack = 0; stack < 4; stack++) {
            int same = stack;
            refused("the same, gap 0", () -> twoOnStacks(0, same, same), 6, p -> p.put(1, same));
            taken("the same, gap 0, 1000000", () -> twoOnStacks(0, same, same), 0, p -> p.put(2, same));
        }
    }

    // Stack 3 is close to all the others; stack 1 is not close to 2.
    private static BalePress threeOnStacks() {
        BalePress press = balesOf(200000L, 300000L, 400000L, 100000L, 100001L);
        press.stack(0, 6);
        press.stack(1, 6);
        press.stack(0, 6);
        press.stack(3, 6);
        press.put(0, 0);
        press.put(1, 1);
        press.put(2, 2);
        return press;
    }

    private static void closeByGap(int gap, int lesser, int greater) {
        String what = lesser + " and " + greater + " by a gap of " + gap;
        Making onLesser = () -> twoOnStacks(gap, greater, lesser);
        Making onGreater = () -> twoOnStacks(gap, greater, greater);
        if (greater - lesser <= gap) {
            refused(what, onLesser, 6, p -> p.put(1, greater));
            refused(what + ", the other way", onGreater, 6, p -> p.put(1, lesser));
        } else {
            taken(what, onLesser, 0, p -> p.put(1, greater));
            taken(what + ", the other way", onGreater, 0, p -> p.put(1, lesser));
        }
        taken(what + ", 1000000", onLesser, 0, p -> p.put(2, greater));
        taken(what + ", the other way, 1000000", onGreater, 0, p -> p.put(2, lesser));
    }

    // ---- promise 14

    private static void firsts() {
        part = "14 first";
        refused("no bales", NEW, -1, p -> p.first(0));
        refused("none is stacked", () -> bales(12), -1, p -> p.first(0));
        refused("none of kind 0 is stacked", RICH, -1, p -> p.first(0));
        refused("none of kind 1 is stacked, one is sold", RICH, -1, p -> p.first(1));
        taken("of kind 2", RICH, 2, p -> p.first(2));
        taken("of kind 3", RICH, 3, p -> p.first(3));
        Making once = () -> {
            BalePress press = rich();
            press.first(2);
            return press;
        };
        refused("no more of kind 2", once, -1, p -> p.first(2));
        Making all = () -> {
            BalePress press = bales(12);
            for (int stack = 0; stack < 4; stack++) {
                press.stack(0, 6);
            }
            for (int bale = 11; bale >= 0; bale--) {
                press.put(bale, bale % 4);
            }
            return press;
        };
        for (int kind = 0; kind < 4; kind++) {
            int of = kind;
            taken("the least of kind " + kind, all, kind, p -> p.first(of));
        }
        BalePress press = all.make();
        int[] due = {3, 7, 11, -1};
        for (int want : due) {
            due("one behind the other of kind 3", want, press.first(3));
        }
        Making tie = () -> besideKindOne(0, 7, 7, 7);
        BalePress ties = tie.make();
        ties.put(1, 0);
        due("0, of kind 1", 0, ties.first(1));
        due("nothing of kind 2 but as much", -1, ties.first(2));
        due("nothing of kind 3 but as much", -1, ties.first(3));
        due("1, of kind 1 by the least", 1, ties.first(1));
    }

    // ---- promise 15

    private static void lorryValues() {
        part = "15 lorry";
        long[] none = {-1L, 100000001L, Long.MIN_VALUE, Long.MAX_VALUE, 4294967296L};
        for (long value : none) {
            refused("most " + value, RICH, -1, p -> p.lorry(value, 1L));
            refused("moment " + value, RICH, -1, p -> p.lorry(1L, value));
            refused("both " + value, RICH, -1, p -> p.lorry(value, value));
        }
        taken("0 both", RICH, 2, p -> p.lorry(0L, 0L));
        taken("most 0", RICH, 2, p -> p.lorry(0L, 100000000L));
        taken("moment 0", RICH, 2, p -> p.lorry(100000000L, 0L));
        taken("100000000 both", RICH, 2, p -> p.lorry(100000000L, 100000000L));
        taken("the first", () -> lorries(0), 0, p -> p.lorry(1L, 1L));
        taken("the third", () -> lorries(2), 2, p -> p.lorry(1L, 1L));
        refused("the fourth", () -> lorries(3), -1, p -> p.lorry(1L, 1L));
    }

    // ---- promise 16

    private static void loadNumbers() {
        part = "16 load, none such";
        int[] none = {-1, 2, 3, Integer.MIN_VALUE, Integer.MAX_VALUE, 256};
        for (int lorry : none) {
            refused("lorry " + lorry, RICH, -1, p -> p.load(lorry, 5));
            refused("lorry " + lorry + " for no bale", RICH, -1, p -> p.load(lorry, 9));
        }
        taken("the last lorry", RICH, 0, p -> p.load(1, 5));
        taken("lorry 0 of 3", () -> lorries(3), 0, p -> p.load(0, 0));
        taken("lorry 2 of 3", () -> lorries(3), 0, p -> p.load(2, 0));
        refused("lorry 3 of 3", () -> lorries(3), -1, p -> p.load(3, 0));
        refused("bale 3 of 3", () -> lorries(3), -1, p -> p.load(0, 3));
        refused("no lorries", () -> lorries(0), -1, p -> p.load(0, 0));
    }

    private static void loadStates() {
        part = "16 load, not such";
        refused("a free one", RICH, -1, p -> p.load(1, 0));
        refused("a stacked one", RICH, -1, p -> p.load(1, 2));
        refused("a gone one", RICH, -1, p -> p.load(1, 6));
        refused("one on this lorry", RICH, -1, p -> p.load(0, 4));
        refused("one on another lorry", RICH, -1, p -> p.load(1, 4));
        taken("a sold one", RICH, 0, p -> p.load(1, 5));
        Making barred = () -> {
            BalePress press = rich();
            press.load(0, 5);
            return press;
        };
        refused("too heavy for lorry 0", RICH, -1, p -> p.load(0, 5));
        taken("one that another lorry refused", barred, 0, p -> p.load(1, 5));
    }

    private static BalePress loaded(int count) {
        BalePress press = sold(1L, 1L, 1L, 1L, 1L, 1L, 1L, 1L, 1L, 1L);
        press.lorry(1000L, 1000L);
        press.lorry(1000L, 1000L);
        for (int bale = 0; bale < count; bale++) {
            press.load(0, bale);
        }
        return press;
    }

    private static void loadPlaces() {
        part = "16 load, places";
        for (int place = 0; place < 8; place++) {
            int count = place;
            taken("place " + place, () -> loaded(count), place, p -> p.load(0, 9));
        }
        refused("no place 8", () -> loaded(8), -1, p -> p.load(0, 9));
        refused("no place 8 for another", () -> loaded(8), -1, p -> p.load(0, 8));
        taken("on the other lorry", () -> loaded(8), 0, p -> p.load(1, 9));
        answers("grams of a full one", () -> loaded(8), 8, p -> p.moment(0, 0));
        answers("moment of a full one", () -> loaded(8), 36, p -> p.moment(0, 1));
    }

    // Bale 0 (100 grams) is on lorry 0, when it has place; bale 1 (50 grams) and 2 (51) come.
    private static BalePress lorryOf(long most, long moment) {
        BalePress press = sold(100L, 50L, 51L);
        press.lorry(most, moment);
        press.load(0, 0);
        return press;
    }

    private static void loadGrams() {
        part = "16 load, grams";
        taken("150 of 150", () -> lorryOf(150L, 1000L), 1, p -> p.load(0, 1));
        refused("151 of 150", () -> lorryOf(150L, 1000L), -1, p -> p.load(0, 2));
        taken("151 of 151", () -> lorryOf(151L, 1000L), 1, p -> p.load(0, 2));
        refused("150 of 149", () -> lorryOf(149L, 1000L), -1, p -> p.load(0, 1));
        taken("51 of 99, for 100 found no place", () -> lorryOf(99L, 1000L), 0, p -> p.load(0, 2));
        refused("100 of 99", () -> lorryOf(99L, 1000L), -1, p -> p.load(0, 0));
        refused("one gram of none", () -> soldAndLorry(1L, 0L, 1000L), -1, p -> p.load(0, 0));
        taken("one gram of one", () -> soldAndLorry(1L, 1L, 1L), 0, p -> p.load(0, 0));
        refused("1000000 of 999999", () -> soldAndLorry(1000000L, 999999L, 1000000L), -1, p -> p.load(0, 0));
        taken("1000000 of 1000000", () -> soldAndLorry(1000000L, 1000000L, 1000000L), 0, p -> p.load(0, 0));
    }

    private static BalePress soldAndLorry(long grams, long most, long moment) {
        BalePress press = sold(grams);
        press.lorry(most, moment);
        return press;
    }

    private static void loadMoments() {
        part = "16 load, moments";
        taken("200 of 200", () -> lorryOf(1000L, 200L), 1, p -> p.load(0, 1));
        refused("202 of 200", () -> lorryOf(1000L, 200L), -1, p -> p.load(0, 2));
        refused("202 of 201", () -> lorryOf(1000L, 201L), -1, p -> p.load(0, 2));
        taken("202 of 202", () -> lorryOf(1000L, 202L), 1, p -> p.load(0, 2));
        refused("200 of 199", () -> lorryOf(1000L, 199L), -1, p -> p.load(0, 1));
        refused("100 of 99", () -> lorryOf(1000L, 99L), -1, p -> p.load(0, 0));
        refused("one of none", () -> soldAndLorry(1L, 1000L, 0L), -1, p -> p.load(0, 0));
        taken("36 of 36 at place 7", () -> sevenOf(36L), 7, p -> p.load(0, 7));
        refused("36 of 35 at place 7", () -> sevenOf(35L), -1, p -> p.load(0, 7));
    }

    private static BalePress sevenOf(long moment) {
        BalePress press = sold(1L, 1L, 1L, 1L, 1L, 1L, 1L, 1L);
        press.lorry(1000L, moment);
        for (int bale = 0; bale < 7; bale++) {
            press.load(0, bale);
        }
        return press;
    }

    // ---- promise 17

    private static void moments() {
        part = "17 moment";
        int[] noParts = {-1, 2, Integer.MIN_VALUE, Integer.MAX_VALUE, 256};
        for (int of : noParts) {
            refused("part " + of, RICH, -1, p -> p.moment(0, of));
        }
        int[] noLorries = {-1, 2, 3, Integer.MIN_VALUE, Integer.MAX_VALUE, 256};
        for (int lorry : noLorries) {
            refused("lorry " + lorry + ", part 0", RICH, -1, p -> p.moment(lorry, 0));
            refused("lorry " + lorry + ", part 1", RICH, -1, p -> p.moment(lorry, 1));
        }
        refused("lorry 3 of 3", () -> lorries(3), -1, p -> p.moment(3, 0));
        answers("lorry 2 of 3", () -> lorries(3), 0, p -> p.moment(2, 0));
        answers("grams", RICH, 118, p -> p.moment(0, 0));
        answers("moment of place 0", RICH, 118, p -> p.moment(0, 1));
        answers("grams of an empty one", RICH, 0, p -> p.moment(1, 0));
        answers("moment of an empty one", RICH, 0, p -> p.moment(1, 1));
        Making two = () -> {
            BalePress press = lorryOf(1000L, 1000L);
            press.load(0, 2);
            press.load(0, 1);
            return press;
        };
        answers("grams of three", two, 201, p -> p.moment(0, 0));
        answers("moment of three, as they came", two, 100 + 2 * 51 + 3 * 50, p -> p.moment(0, 1));
        Making great = () -> {
            BalePress press = sold(1000000L, 1000000L, 1000000L, 1000000L, 1000000L, 1000000L, 1000000L, 1000000L);
            press.lorry(8000000L, 36000000L);
            for (int bale = 0; bale < 8; bale++) {
                press.load(0, bale);
            }
            return press;
        };
        answers("the most grams", great, 8000000, p -> p.moment(0, 0));
        answers("the greatest moment", great, 36000000, p -> p.moment(0, 1));
    }

    // ---- promise 18

    private static void rebaleNumbers() {
        part = "18 rebale, none such or the same";
        for (int bale = -1; bale <= 9; bale++) {
            int same = bale;
            refused("the same, " + bale, RICH, -1, p -> p.rebale(same, same));
        }
        refused("none such twice", RICH, -1, p -> p.rebale(9, 10));
        refused("the least and the greatest", RICH, -1, p -> p.rebale(Integer.MIN_VALUE, Integer.MAX_VALUE));
        taken("two free ones", RICH, 9, p -> p.rebale(0, 1));
        taken("two free ones, the other way", RICH, 9, p -> p.rebale(1, 0));
        taken("one that was made anew", RICH, 9, p -> p.rebale(8, 0));
    }

    private static void rebaleStates() {
        part = "18 rebale, not free";
        int[] notFree = {2, 3, 4, 5, 6, 7};
        for (int bale : notFree) {
            refused("first " + bale, RICH, -1, p -> p.rebale(bale, 0));
            refused("second " + bale, RICH, -1, p -> p.rebale(0, bale));
        }
        refused("both stacked", RICH, -1, p -> p.rebale(2, 3));
        refused("both sold", RICH, -1, p -> p.rebale(4, 5));
        refused("both gone", RICH, -1, p -> p.rebale(6, 7));
    }

    private static void rebaleLimit() {
        part = "18 rebale, 12 bales";
        taken("the 12th", () -> bales(11), 11, p -> p.rebale(0, 10));
        refused("the 13th", () -> bales(12), -1, p -> p.rebale(0, 11));
        Making anew = () -> {
            BalePress press = bales(11);
            press.rebale(0, 1);
            return press;
        };
        refused("the 13th, two being gone", anew, -1, p -> p.rebale(2, 11));
    }

    private static void rebaleGives() {
        part = "18 rebale, what it gives";
        BalePress press = rich();
        press.warm(1, 1, 20.0);
        due("made", 9, press.rebale(0, 1));
        due("of 0", 100, press.in(9, 0));
        due("of 1", 10 + 101, press.in(9, 1));
        due("of 2", 11, press.in(9, 2));
        due("of 3", 0, press.in(9, 3));
        due("free", 0, press.state(9));
        due("first gone", 3, press.state(0));
        due("second gone", 3, press.state(1));
        due("the greater warmth", 29.0, press.warm(9, 0, 0.0));
        BalePress warmFirst = rich();
        warmFirst.warm(0, 1, 20.0);
        warmFirst.rebale(0, 1);
        due("the greater warmth, the first's", 29.0, warmFirst.warm(9, 0, 0.0));
        BalePress alike = rich();
        alike.rebale(0, 1);
        due("the same warmth", 20.0, alike.warm(9, 0, 0.0));
        BalePress hot = sixty(2);
        hot.warm(0, 50, 60.0);
        due("of a hot one", 2, hot.rebale(1, 0));
        due("its spell is 0", -1, hot.alarm(0));
        hot.warm(2, 0, 0.0);
        due("0 hours are no spell", -1, hot.alarm(0));
        hot.warm(2, 1, 60.0);
        due("one hour is one of 1", 2, hot.alarm(0));
        hot.hold(2);
        due("and not of more", -1, hot.alarm(0));
        hot.warm(2, 1, 60.0);
        due("two hours are one of 2", 2, hot.alarm(0));
        BalePress great = balesOf(100000000L, 100000000L);
        due("of all there can be", 2, great.rebale(0, 1));
        due("its grams", 200000000, great.in(2, 0));
        due("its wires", 2000, great.wires(2));
    }

    // ---- promise 19

    private static void origins() {
        part = "19 brought";
        int[] noParts = {-1, 2, Integer.MIN_VALUE, Integer.MAX_VALUE, 256};
        for (int of : noParts) {
            refused("part " + of, RICH, -1, p -> p.brought(8, 0, of));
            refused("part " + of + " of a plain one", RICH, -1, p -> p.brought(0, 0, of));
        }
        long[][] due = {{0, 17}, {0, 0}, {106, 0}, {16, 107}};
        for (int kind = 0; kind < 4; kind++) {
            int of = kind;
            answers("first's of " + kind, RICH, due[kind][0], p -> p.brought(8, of, 0));
            answers("second's of " + kind, RICH, due[kind][1], p -> p.brought(8, of, 1));
            for (int bale = 0; bale < 8; bale++) {
                int plain = bale;
                answers("of plain " + bale, RICH, 0, p -> p.brought(plain, of, 0) + p.brought(plain, of, 1));
            }
        }
        BalePress press = rich();
        press.rebale(8, 0);
        due("first's, which was made anew itself", 106, press.brought(9, 2, 0));
        due("first's of two kinds together", 123, press.brought(9, 3, 0));
        due("second's, a plain one", 100, press.brought(9, 0, 1));
        due("a gone one's still", 107, press.brought(8, 3, 1));
    }

    // ---- promise 20

    private static void dueLabel(String want, Making making, int bale) {
        for (int i = 0; i < want.length(); i++) {
            int at = i;
            answers("byte " + i + " of " + want, making, want.charAt(i), p -> p.label(bale, at));
        }
        int[] none = {-1, want.length(), want.length() + 1, Integer.MIN_VALUE, Integer.MAX_VALUE, 256};
        for (int i : none) {
            refused("byte " + i + " of " + want, making, -1, p -> p.label(bale, i));
        }
    }

    private static void labels() {
        part = "20 label";
        dueLabel("B0 1 0", () -> balesOf(1L), 0);
        dueLabel("B0 9 0", () -> balesOf(9L), 0);
        dueLabel("B0 10 0", () -> balesOf(10L), 0);
        dueLabel("B0 200000000 0", () -> balesOf(200000000L), 0);
        dueLabel("B9 10 1", () -> bales(12), 9);
        dueLabel("B10 11 2", () -> bales(12), 10);
        dueLabel("B11 12 3", () -> bales(12), 11);
        dueLabel("B8 246 3", RICH, 8);
        dueLabel("B6 122 2", RICH, 6);
        dueLabel("B4 118 0", RICH, 4);
        dueLabel("B1 15 1", () -> besideKindOne(0, 5, 5, 5), 1);
        dueLabel("B1 20 0", () -> besideKindOne(5, 5, 5, 5), 1);
        dueLabel("B1 11 3", () -> besideKindOne(0, 0, 5, 6), 1);
        Making most = () -> {
            BalePress press = bales(11);
            for (int feed = 15; feed < 200; feed++) {
                press.feed(0L, 3, 1000000L);
            }
            press.bale(0L);
            return press;
        };
        dueLabel("B11 185000406 3", most, 11);
    }

    // ---- promise 21

    private static void states() {
        part = "21 state";
        int[] due = {0, 0, 1, 1, 2, 2, 3, 3, 0};
        for (int bale = 0; bale < due.length; bale++) {
            int number = bale;
            answers("of " + bale, RICH, due[bale], p -> p.state(number));
        }
        answers("of the 12th", () -> bales(12), 0, p -> p.state(11));
        refused("of a 13th", () -> bales(12), -1, p -> p.state(12));
    }
}
