// The promises of the document, one method each: ordinary inputs, the edges that are named, wrong inputs.
public final class BalePressTest {
    private static int wrong = 0;
    private static String part = "";

    public static void main(String[] args) {
        newObject();
        feed();
        bale();
        in();
        count();
        wires();
        size();
        row();
        warm();
        spells();
        hold();
        alarm();
        stack();
        put();
        closeStacks();
        first();
        lorry();
        load();
        moment();
        rebale();
        brought();
        label();
        state();
        System.out.println(wrong == 0 ? "every promise holds" : wrong + " answers are wrong");
        if (wrong != 0) {
            System.exit(1);
        }
    }

    private static void due(String what, long want, long got) {
        if (want != got) {
            wrong++;
            System.out.println(part + ": " + what + " is " + got + ", due is " + want);
        }
    }

    private static void dueDouble(String what, double want, double got) {
        if (want != got) {
            wrong++;
            System.out.println(part + ": " + what + " is " + got + ", due is " + want);
        }
    }

    private static void yes(String what, boolean got) {
        due(what, 1, got ? 1 : 0);
    }

    private static void no(String what, boolean got) {
        due(what, 0, got ? 1 : 0);
    }

    // Feeds at the second 0 only, so every press can make its bales one after the other.
    private static int made(BalePress press, int kind, long grams) {
        long left = grams;
        while (left > 0) {
            long now = Math.min(left, 1000000L);
            press.feed(0L, kind, now);
            left -= now;
        }
        return press.bale(0L);
    }

    private static BalePress pressOf(int kind, long... grams) {
        BalePress press = new BalePress();
        for (long one : grams) {
            made(press, kind, one);
        }
        return press;
    }

    private static int sold(BalePress press, int stack, int bale, int kind) {
        due("put of " + bale + " to sell it", 0, press.put(bale, stack));
        return press.first(kind);
    }

    private static String labelOf(BalePress press, int bale) {
        StringBuilder text = new StringBuilder();
        for (int i = 0; press.label(bale, i) != BalePress.NONE; i++) {
            text.append((char) press.label(bale, i));
        }
        return text.toString();
    }

    private static void dueText(String what, String want, String got) {
        if (!want.equals(got)) {
            wrong++;
            System.out.println(part + ": " + what + " is '" + got + "', due is '" + want + "'");
        }
    }

    private static void newObject() {
        part = "1 a new object";
        BalePress press = new BalePress();
        due("NONE", -1, BalePress.NONE);
        for (int kind = 0; kind < 4; kind++) {
            due("loose of " + kind, 0, press.count(kind));
        }
        due("bale of all", -1, press.bale(Long.MAX_VALUE));
        due("state of bale 0", -1, press.state(0));
        due("moment of lorry 0", -1, press.moment(0, 0));
        due("alarm", -1, press.alarm(0));
        BalePress hot = pressOf(0, 1);
        hot.row(-50.0, 10.0);
        for (int hour = 0; hot.warm(0, 0, 0.0) < 60.0 && hour < 100; hour++) {
            due("alarm before it is hot", -1, hot.alarm(0));
            hot.warm(0, 1, 60.0);
        }
        due("alarm by a hold of 1", 0, hot.alarm(0));
    }

    private static void feed() {
        part = "2 feed";
        BalePress press = new BalePress();
        no("a second below 0", press.feed(-1L, 0, 1L));
        yes("the least", press.feed(0L, 0, 1L));
        no("a second below 0 and the one before", press.feed(-1L, 0, 1L));
        no("the least second there is", press.feed(Long.MIN_VALUE, 0, 1L));
        no("a second too late", press.feed(8000000001L, 0, 1L));
        no("the greatest second there is", press.feed(Long.MAX_VALUE, 0, 1L));
        no("kind -1", press.feed(0L, -1, 1L));
        no("kind 4", press.feed(0L, 4, 1L));
        no("no grams", press.feed(0L, 0, 0L));
        no("negative grams", press.feed(0L, 0, -1L));
        no("too many grams", press.feed(0L, 0, 1000001L));
        due("loose after refusals", 1, press.count(0));
        yes("a refused second does not count as the one before", press.feed(0L, 0, 1L));
        yes("later", press.feed(5L, 3, 1000000L));
        no("earlier than before", press.feed(4L, 3, 1L));
        yes("the same second", press.feed(5L, 3, 1L));
        due("bale", 0, press.bale(5L));
        no("earlier than a feed in a bale", press.feed(4L, 3, 1L));
        yes("the last second", press.feed(8000000000L, 1, 7L));
        no("a second before the last", press.feed(7999999999L, 1, 7L));
        due("loose of 1", 7, press.count(1));

        BalePress second = new BalePress();
        yes("first feed", second.feed(5L, 0, 1L));
        no("second feed, earlier", second.feed(4L, 0, 1L));

        BalePress full = new BalePress();
        for (int i = 0; i < 199; i++) {
            yes("feed " + i, full.feed(i, 0, 1L));
        }
        due("bale of most", 0, full.bale(150L));
        yes("feed 199", full.feed(199L, 0, 1L));
        no("feed 200, though many are in a bale", full.feed(200L, 0, 1L));
        due("loose", 49, full.count(0));
        due("the rest", 1, full.bale(1000L));
        no("feed 200, though all are in bales", full.feed(200L, 0, 1L));
    }

    private static void bale() {
        part = "3 bale";
        BalePress press = new BalePress();
        press.feed(10L, 0, 1L);
        press.feed(10L, 1, 2L);
        press.feed(20L, 2, 4L);
        press.feed(30L, 3, 8L);
        due("before all", -1, press.bale(9L));
        due("negative", -1, press.bale(Long.MIN_VALUE));
        due("loose still", 1, press.count(0));
        due("at the very second", 0, press.bale(10L));
        due("nothing new", -1, press.bale(19L));
        due("loose no more", 0, press.count(0));
        due("loose still, later", 4, press.count(2));
        due("all the rest", 1, press.bale(Long.MAX_VALUE));
        due("in 1 of 0", 0, press.in(1, 0));
        due("in 1 of 2", 4, press.in(1, 2));
        due("in 1 of 3", 8, press.in(1, 3));
        due("nothing more", -1, press.bale(Long.MAX_VALUE));
        due("two bales", -1, press.state(2));
        BalePress full = pressOf(0, 1, 1, 1, 1, 1, 1, 1, 1, 1, 1, 1);
        due("the twelfth", 11, made(full, 0, 1));
        due("the thirteenth", -1, made(full, 0, 5));
        due("what stayed loose", 5, full.count(0));
    }

    private static void in() {
        part = "4 in";
        BalePress press = new BalePress();
        press.feed(1L, 0, 3L);
        press.feed(2L, 2, 5L);
        press.feed(3L, 0, 7L);
        press.feed(4L, 3, 1000000L);
        press.bale(3L);
        due("0", 10, press.in(0, 0));
        due("1", 0, press.in(0, 1));
        due("2", 5, press.in(0, 2));
        due("3 is loose", 0, press.in(0, 3));
        due("kind 4", -1, press.in(0, 4));
        due("kind -1", -1, press.in(0, -1));
        due("bale 1", -1, press.in(1, 0));
        due("bale -1", -1, press.in(-1, 0));
        due("bale 12", -1, press.in(12, 0));
        due("bale far off", -1, press.in(Integer.MAX_VALUE, Integer.MIN_VALUE));
        made(press, 0, 1);
        press.bale(4L);
        press.rebale(0, 1);
        due("a gone bale's grams", 10, press.in(0, 0));
    }

    private static void count() {
        part = "5 count";
        BalePress press = new BalePress();
        press.feed(1L, 0, 3L);
        press.feed(1L, 3, 1000000L);
        press.feed(2L, 0, 4L);
        press.feed(3L, 3, 1000000L);
        due("0", 7, press.count(0));
        due("1", 0, press.count(1));
        due("3", 2000000, press.count(3));
        due("-1", -1, press.count(-1));
        due("4", -1, press.count(4));
        press.bale(1L);
        due("0 after a bale", 4, press.count(0));
        due("3 after a bale", 1000000, press.count(3));
        press.bale(3L);
        due("0 at last", 0, press.count(0));
    }

    private static void wires() {
        part = "6 wires";
        BalePress press = pressOf(1, 1, 200001, 300000, 300001, 400000, 1000000, 1000001);
        long[] due = {3, 3, 3, 4, 4, 10, 11};
        for (int bale = 0; bale < due.length; bale++) {
            due("of " + bale, due[bale], press.wires(bale));
        }
        due("of none such", -1, press.wires(7));
        due("of -1", -1, press.wires(-1));
        due("of 12", -1, press.wires(12));
        BalePress mixed = new BalePress();
        mixed.feed(0L, 0, 200000L);
        mixed.feed(0L, 3, 200001L);
        mixed.bale(0L);
        due("of two kinds", 5, mixed.wires(0));
        BalePress great = pressOf(0, 200000000L);
        due("of all there can be", 2000, great.wires(0));
    }

    private static void size() {
        part = "7 size";
        BalePress press = pressOf(1, 200, 1000000, 1);
        dueDouble("by 8", 0.028125, press.size(0, 8.0));
        dueDouble("by 7", 160.71428571428572, press.size(1, 7.0));
        dueDouble("by 1", 1125.0, press.size(1, 1.0));
        dueDouble("by 64", 17.578125, press.size(1, 64.0));
        double pressed = 1 * 0.001 / 3.7;
        dueDouble("of one gram", pressed + pressed * 0.125, press.size(2, 3.7));
        dueDouble("less than 1", -1.0, press.size(1, Math.nextDown(1.0)));
        dueDouble("more than 64", -1.0, press.size(1, Math.nextUp(64.0)));
        dueDouble("zero", -1.0, press.size(1, 0.0));
        dueDouble("negative", -1.0, press.size(1, -8.0));
        dueDouble("NaN", -1.0, press.size(1, Double.NaN));
        dueDouble("infinite", -1.0, press.size(1, Double.POSITIVE_INFINITY));
        dueDouble("bale 3", -1.0, press.size(3, 8.0));
        dueDouble("bale -1", -1.0, press.size(-1, 8.0));
    }

    private static void row() {
        part = "8 row";
        BalePress press = pressOf(0, 1);
        no("degrees too low", press.row(Math.nextDown(-50.0), 1.0));
        no("degrees too high", press.row(Math.nextUp(200.0), 1.0));
        no("degrees infinite", press.row(Double.POSITIVE_INFINITY, 1.0));
        no("degrees NaN", press.row(Double.NaN, 1.0));
        no("heat negative", press.row(0.0, Math.nextDown(0.0)));
        no("heat too great", press.row(0.0, Math.nextUp(10.0)));
        no("heat NaN", press.row(0.0, Double.NaN));
        dueDouble("no row yet", 20.0, press.warm(0, 1, 20.0));
        yes("the least", press.row(-50.0, 0.0));
        no("the same degrees", press.row(-50.0, 1.0));
        yes("more", press.row(-49.5, 10.0));
        no("less", press.row(-49.6, 1.0));
        yes("3", press.row(0.0, 1.0));
        yes("4", press.row(1.0, 2.0));
        no("less than the fourth", press.row(0.5, 2.0));
        yes("5", press.row(2.0, 3.0));
        yes("6", press.row(19.0, 4.0));
        no("7", press.row(200.0, 10.0));
        dueDouble("gains of the sixth", 24.0, press.warm(0, 1, 20.0));
        BalePress greatest = new BalePress();
        yes("the greatest", greatest.row(200.0, 10.0));
        no("nothing behind it", greatest.row(200.0, 10.0));
    }

    private static void warm() {
        part = "9 warm";
        BalePress press = pressOf(0, 1, 1, 1, 1);
        dueDouble("no hours", 20.0, press.warm(0, 0, 0.0));
        dueDouble("an hour at 0", 17.5, press.warm(0, 1, 0.0));
        dueDouble("two hours at 60", 60.0 - 42.5 * 0.875 * 0.875, press.warm(0, 2, 60.0));
        dueDouble("another one is as it was", 20.0, press.warm(1, 0, 0.0));
        dueDouble("an hour at -50", 11.25, press.warm(1, 1, -50.0));
        press.row(11.25, 2.0);
        press.row(12.0, 4.0);
        dueDouble("at the degrees of a row", 13.25, press.warm(1, 1, 11.25));
        dueDouble("at the row behind", 17.25, press.warm(1, 1, 13.25));
        press.warm(2, 1, -50.0);
        press.warm(2, 1, -50.0);
        dueDouble("below all rows, plain", 60.0 - (60.0 - press.warm(2, 0, 0.0)) * 0.875, press.warm(2, 1, 60.0));
        dueDouble("rows are looked at hour by hour", warmed(3, 8), press.warm(3, 8, -50.0));
        dueDouble("hours -1", -1000.0, press.warm(0, -1, 0.0));
        dueDouble("hours 101", -1000.0, press.warm(0, 101, 0.0));
        dueDouble("hours far off", -1000.0, press.warm(0, Integer.MAX_VALUE, 0.0));
        dueDouble("too cold", -1000.0, press.warm(0, 1, Math.nextDown(-50.0)));
        dueDouble("too warm", -1000.0, press.warm(0, 1, Math.nextUp(60.0)));
        dueDouble("NaN", -1000.0, press.warm(0, 1, Double.NaN));
        dueDouble("bale 4", -1000.0, press.warm(4, 1, 0.0));
        dueDouble("bale -1", -1000.0, press.warm(-1, 1, 0.0));
        dueDouble("many hours", 60.0, Math.rint(pressOf(0, 1).warm(0, 100, 60.0)));

        BalePress states = pressOf(0, 1, 1, 1, 1);
        states.stack(0, 6);
        states.put(0, 0);
        dueDouble("stacked", 17.5, states.warm(0, 1, 0.0));
        states.first(0);
        dueDouble("sold", -1000.0, states.warm(0, 0, 0.0));
        states.rebale(1, 2);
        dueDouble("gone, first", -1000.0, states.warm(1, 0, 0.0));
        dueDouble("gone, second", -1000.0, states.warm(2, 1, 0.0));
    }

    // By the rows of the test above at an outside of -50.
    private static double warmed(int bale, int hours) {
        double t = 20.0;
        for (int hour = 0; hour < hours; hour++) {
            double h = t >= 12.0 ? 4.0 : t >= 11.25 ? 2.0 : 0.0;
            t = (t + h) - (t + 50.0) * 0.125;
        }
        return t;
    }

    // A bale that is hot behind every hour at 60.0 once it has been hot.
    private static BalePress heater(long... grams) {
        BalePress press = pressOf(0, grams);
        press.row(-50.0, 10.0);
        return press;
    }

    private static int hoursUntilHot(BalePress press, int bale) {
        int hours = 0;
        while (press.warm(bale, 0, 0.0) < 60.0 && hours < 100) {
            press.warm(bale, 1, 60.0);
            hours++;
        }
        return hours;
    }

    private static void dueSpell(BalePress press, int want) {
        if (want > 0) {
            press.hold(want);
            due("alarm by a hold of " + want, 0, press.alarm(0));
        }
        press.hold(want + 1);
        due("alarm by a hold of " + (want + 1), -1, press.alarm(0));
    }

    private static void spells() {
        part = "9 spells";
        BalePress press = heater(1);
        dueSpell(press, 0);
        int hours = hoursUntilHot(press, 0);
        yes("it took more than an hour", hours > 1);
        dueSpell(press, 1);
        press.warm(0, 0, 0.0);
        dueSpell(press, 1);
        press.warm(0, 2, 60.0);
        dueSpell(press, 3);
        press.warm(0, 1, 60.0);
        dueSpell(press, 4);
        press.warm(0, 100, -50.0);
        dueDouble("it is cold again", 30.0, Math.rint(press.warm(0, 0, 0.0)));
        int kept = 4 + hotHoursWhenCooling();
        dueSpell(press, kept);
        hoursUntilHot(press, 0);
        dueSpell(press, kept);
        press.warm(0, kept - 2, 60.0);
        dueSpell(press, kept);
        press.warm(0, 2, 60.0);
        dueSpell(press, kept + 1);

        BalePress edge = pressOf(0, 1);
        edge.row(20.0, 10.0);
        double warmth = 20.0;
        // 25.0, 30.0, .. 60.0 by the outside that gives just this.
        while (warmth < 60.0) {
            edge.hold(1);
            due("not hot yet at " + warmth, -1, edge.alarm(0));
            warmth += 5.0;
            dueDouble("warmth", warmth, edge.warm(0, 1, warmth - 5.0 - 40.0));
        }
        dueSpell(edge, 1);
        BalePress below = pressOf(0, 1);
        below.row(20.0, 10.0);
        for (double t = 20.0; t < 55.0; t += 5.0) {
            below.warm(0, 1, t - 40.0);
        }
        yes("just below", below.warm(0, 1, 14.999) > 59.999);
        dueSpell(below, 0);
    }

    private static int hotHoursWhenCooling() {
        double t = 20.0;
        while (t < 60.0) {
            t = (t + 10.0) - (t - 60.0) * 0.125;
        }
        for (int hour = 0; hour < 3; hour++) {
            t = (t + 10.0) - (t - 60.0) * 0.125;
        }
        int hot = 0;
        while (true) {
            t = (t + 10.0) - (t + 50.0) * 0.125;
            if (t < 60.0) {
                return hot;
            }
            hot++;
        }
    }

    private static void hold() {
        part = "10 hold";
        BalePress press = heater(1);
        hoursUntilHot(press, 0);
        for (int call = 0; call < 10; call++) {
            press.warm(0, 100, 60.0);
        }
        yes("1000", press.hold(1000));
        due("1001 hot hours", 0, press.alarm(0));
        yes("1", press.hold(1));
        yes("hold of 3", press.hold(3));
        BalePress refused = heater(1);
        hoursUntilHot(refused, 0);
        refused.warm(0, 2, 60.0);
        no("0", refused.hold(0));
        no("-1", refused.hold(-1));
        no("1001", refused.hold(1001));
        no("far off", refused.hold(Integer.MIN_VALUE));
        due("1 still", 0, refused.alarm(0));
        yes("4", refused.hold(4));
        no("0 again", refused.hold(0));
        due("4 still", -1, refused.alarm(0));
        yes("3 again", refused.hold(3));
        due("3 is met", 0, refused.alarm(0));
    }

    private static void alarm() {
        part = "11 alarm";
        BalePress press = heater(1, 1, 1, 1, 1);
        press.stack(0, 6);
        press.put(1, 0);
        press.put(3, 0);
        hoursUntilHot(press, 4);
        hoursUntilHot(press, 1);
        hoursUntilHot(press, 3);
        hoursUntilHot(press, 0);
        press.warm(3, 1, 60.0);
        due("0th", 0, press.alarm(0));
        due("1st, a stacked one", 1, press.alarm(1));
        due("2nd", 3, press.alarm(2));
        due("3rd", 4, press.alarm(3));
        due("4th", -1, press.alarm(4));
        due("-1st", -1, press.alarm(-1));
        due("far off", -1, press.alarm(Integer.MAX_VALUE));
        due("far below", -1, press.alarm(Integer.MIN_VALUE));
        press.hold(2);
        due("by a hold of 2", 3, press.alarm(0));
        press.hold(1);
        due("sold", 1, press.first(0));
        due("1st without it", 3, press.alarm(1));
        due("made anew", 5, press.rebale(0, 4));
        due("0th without the gone", 3, press.alarm(0));
        due("1st without the gone", -1, press.alarm(1));
        press.warm(5, 1, 60.0);
        due("1st, the new one", 5, press.alarm(1));
        press.warm(3, 100, -50.0);
        due("cold again, but it was hot", 3, press.alarm(0));
    }

    private static void stack() {
        part = "12 stack";
        BalePress press = new BalePress();
        due("gap -1", -1, press.stack(-1, 1));
        due("gap 4", -1, press.stack(4, 1));
        due("height 0", -1, press.stack(0, 0));
        due("height -1", -1, press.stack(0, -1));
        due("height 7", -1, press.stack(0, 7));
        due("the least", 0, press.stack(0, 1));
        due("the greatest", 1, press.stack(3, 6));
        due("refused between", -1, press.stack(3, 7));
        due("third", 2, press.stack(1, 1));
        due("fourth", 3, press.stack(2, 1));
        due("fifth", -1, press.stack(0, 1));
    }

    private static void put() {
        part = "13 put";
        BalePress press = pressOf(0, 1, 1, 1, 1, 1, 1, 1);
        due("no stack", 1, press.put(0, 0));
        press.stack(0, 6);
        press.stack(0, 1);
        due("no bale", 1, press.put(7, 0));
        due("bale -1", 1, press.put(-1, 0));
        due("stack -1", 1, press.put(0, -1));
        due("stack 2", 1, press.put(0, 2));
        due("stack 4", 1, press.put(0, 4));
        due("none at all", 1, press.put(Integer.MAX_VALUE, Integer.MIN_VALUE));
        for (int bale = 0; bale < 6; bale++) {
            due("bale " + bale, 0, press.put(bale, 0));
        }
        due("again", 2, press.put(0, 0));
        due("onto another", 2, press.put(0, 1));
        due("full", 3, press.put(6, 0));
        due("refused, so free", 0, press.state(6));
        due("the other", 0, press.put(6, 1));
        due("sells the first", 0, press.first(0));
        due("a sold one", 2, press.put(0, 0));
        made(press, 0, 1);
        due("a place is free again", 0, press.put(7, 0));
        due("full again", 3, press.put(made(press, 0, 1), 0));

        BalePress all = pressOf(0, 1);
        for (int stack = 0; stack < 4; stack++) {
            all.stack(3, 6);
        }
        due("stack 4 of 4", 1, all.put(0, 4));
        due("stack 3 of 4", 0, all.put(0, 3));

        BalePress gone = pressOf(0, 1, 1);
        gone.stack(0, 1);
        gone.rebale(0, 1);
        due("a gone one", 2, gone.put(0, 0));
        due("made anew", 0, gone.put(2, 0));

        BalePress order = new BalePress();
        order.stack(0, 2);
        made(order, 1, 600000);
        made(order, 2, 600000);
        made(order, 1, 400001);
        made(order, 1, 400000);
        order.row(-50.0, 10.0);
        hoursUntilHot(order, 1);
        due("onto an empty one", 0, order.put(0, 0));
        due("hot before all", 4, order.put(1, 0));
        order.warm(1, 10, -50.0);
        due("cool, but of another kind", 5, order.put(1, 0));
        due("too heavy", 6, order.put(2, 0));
        due("just light enough", 0, order.put(3, 0));
        due("full before hot", 3, order.put(1, 0));

        BalePress hot = pressOf(0, 1);
        hot.stack(0, 1);
        hot.row(20.0, 10.0);
        for (double t = 20.0; t < 60.0; t += 5.0) {
            hot.warm(0, 1, t - 40.0);
        }
        dueDouble("it has just", 60.0, hot.warm(0, 0, 0.0));
        due("hot at 60.0", 4, hot.put(0, 0));
        hot.warm(0, 1, -50.0);
        due("below 60.0", 0, hot.put(0, 0));

        BalePress heavy = pressOf(0, 1000000, 1000001);
        heavy.stack(0, 1);
        due("too heavy alone", 6, heavy.put(1, 0));
        due("the heaviest", 0, heavy.put(0, 0));

        BalePress ties = new BalePress();
        ties.stack(0, 6);
        ties.feed(0L, 3, 5L);
        ties.feed(0L, 1, 5L);
        ties.bale(0L);
        made(ties, 3, 1);
        made(ties, 1, 1);
        due("of two kinds alike", 0, ties.put(0, 0));
        due("its greater kind is not the main one", 5, ties.put(1, 0));
        due("its lesser one is", 0, ties.put(2, 0));
    }

    // What a bale of 500000 grams on one stack does to one of 500001 that comes onto another.
    private static int closeAnswer(int[] gaps, int standsOn, int comesOnto) {
        BalePress press = pressOf(0, 500000, 500001);
        for (int gap : gaps) {
            press.stack(gap, 6);
        }
        due("the first bale", 0, press.put(0, standsOn));
        return press.put(1, comesOnto);
    }

    private static void closeStacks() {
        part = "13 close stacks";
        int[][] gapRows = {{0, 0, 0, 0}, {3, 0, 0, 0}, {0, 1, 1, 1}, {0, 2, 0, 2}, {1, 1, 2, 3}, {3, 3, 3, 3}};
        for (int[] gaps : gapRows) {
            for (int one = 0; one < 4; one++) {
                for (int other = 0; other < 4; other++) {
                    int apart = Math.abs(one - other);
                    boolean close = apart == 0 || apart <= gaps[Math.max(one, other)];
                    due(one + " and " + other, close ? 6 : 0, closeAnswer(gaps, one, other));
                }
            }
        }
        BalePress sums = pressOf(0, 300000, 300000, 400001, 400000, 999999);
        sums.stack(0, 6);
        sums.stack(1, 6);
        sums.stack(2, 6);
        due("300000", 0, sums.put(0, 0));
        due("600000", 0, sums.put(1, 1));
        due("1000001", 6, sums.put(2, 2));
        due("1000000", 0, sums.put(3, 2));
        sums.first(0);
        sums.first(0);
        sums.first(0);
        due("sold ones are off the stacks", 0, sums.put(4, 1));
    }

    private static void first() {
        part = "14 first";
        BalePress press = new BalePress();
        press.stack(0, 6);
        press.stack(0, 6);
        made(press, 1, 10);
        made(press, 2, 10);
        press.feed(0L, 1, 10L);
        press.feed(0L, 2, 11L);
        press.bale(0L);
        made(press, 1, 10);
        due("none is stacked", -1, press.first(1));
        due("put 3", 0, press.put(3, 0));
        due("put 0", 0, press.put(0, 0));
        due("put 2", 0, press.put(2, 1));
        due("put 1", 0, press.put(1, 1));
        due("of kind 0", -1, press.first(0));
        due("of kind -1", -1, press.first(-1));
        due("of kind 4", -1, press.first(4));
        due("the least of 1", 0, press.first(1));
        due("it is sold", 2, press.state(0));
        due("the next", 3, press.first(1));
        due("no more", -1, press.first(1));
        due("of kind 2", 1, press.first(2));
        due("by its main kind", 2, press.first(2));
        due("no more of 2", -1, press.first(2));
    }

    private static void lorry() {
        part = "15 lorry";
        BalePress press = new BalePress();
        due("most -1", -1, press.lorry(-1L, 0L));
        due("moment -1", -1, press.lorry(0L, -1L));
        due("most too great", -1, press.lorry(100000001L, 0L));
        due("moment too great", -1, press.lorry(0L, 100000001L));
        due("far off", -1, press.lorry(Long.MAX_VALUE, Long.MIN_VALUE));
        due("the least", 0, press.lorry(0L, 0L));
        due("the greatest", 1, press.lorry(100000000L, 100000000L));
        due("third", 2, press.lorry(1L, 2L));
        due("fourth", -1, press.lorry(1L, 2L));
        due("there is no fourth", -1, press.moment(3, 0));
    }

    private static BalePress pressWithSold(long... grams) {
        BalePress press = pressOf(0, grams);
        press.stack(0, 6);
        for (int bale = 0; bale < grams.length; bale++) {
            due("selling", bale, sold(press, 0, bale, 0));
        }
        return press;
    }

    private static void load() {
        part = "16 load";
        BalePress press = pressWithSold(100, 50, 10, 1);
        made(press, 0, 1);
        due("lorry 0", 0, press.lorry(160L, 231L));
        due("lorry 1", 1, press.lorry(0L, 100L));
        due("lorry 2", 2, press.lorry(100L, 0L));
        due("no lorry", -1, press.load(3, 0));
        due("lorry -1", -1, press.load(-1, 0));
        due("no bale", -1, press.load(0, 5));
        due("bale -1", -1, press.load(0, -1));
        due("a free bale", -1, press.load(0, 4));
        press.put(4, 0);
        due("a stacked bale", -1, press.load(0, 4));
        due("first place", 0, press.load(0, 0));
        due("it is on one", -1, press.load(0, 0));
        due("it is on another one", -1, press.load(1, 0));
        due("second place", 1, press.load(0, 1));
        due("third place, with just the grams", 2, press.load(0, 2));
        due("grams", 160, press.moment(0, 0));
        due("too many grams", -1, press.load(0, 3));
        due("no grams at all", -1, press.load(1, 3));
        due("no moment at all", -1, press.load(2, 3));

        BalePress once = pressWithSold(1);
        once.lorry(1000L, 1000L);
        once.lorry(1000L, 1000L);
        due("the first time", 0, once.load(1, 0));
        due("a second time", -1, once.load(1, 0));
        due("onto the other", -1, once.load(0, 0));

        BalePress edges = pressWithSold(100, 50, 51, 49);
        edges.lorry(150L, 200L);
        edges.lorry(151L, 201L);
        due("100 of 150", 0, edges.load(0, 0));
        due("151 of 150, or 202 of 200", -1, edges.load(0, 2));
        due("150 of 150 and 200 of 200", 1, edges.load(0, 1));
        due("49 on the other", 0, edges.load(1, 3));
        due("51 more", 1, edges.load(1, 2));

        BalePress moments = pressWithSold(100, 50, 10);
        moments.lorry(1000L, 199L);
        moments.load(0, 0);
        due("a moment of 200 of 199", -1, moments.load(0, 1));
        due("a moment of 120", 1, moments.load(0, 2));
        due("another lorry", 1, moments.lorry(50L, 50L));
        due("what was refused is on no lorry", 0, moments.load(1, 1));

        BalePress grams = pressWithSold(100, 50);
        grams.lorry(149L, 1000L);
        grams.load(0, 0);
        due("150 grams of 149", -1, grams.load(0, 1));

        BalePress full = pressWithSold(1, 1, 1, 1, 1, 1, 1, 1, 1);
        full.lorry(1000L, 1000L);
        for (int bale = 0; bale < 8; bale++) {
            due("place", bale, full.load(0, 8 - bale));
        }
        due("no ninth place", -1, full.load(0, 0));
        due("all moments", 36, full.moment(0, 1));

        BalePress gone = pressOf(0, 1, 1);
        gone.rebale(0, 1);
        gone.lorry(1000L, 1000L);
        due("a gone bale", -1, gone.load(0, 0));
    }

    private static void moment() {
        part = "17 moment";
        BalePress press = pressWithSold(100, 50, 7);
        press.lorry(1000L, 1000L);
        press.lorry(1000L, 1000L);
        due("no grams yet", 0, press.moment(0, 0));
        due("no moment yet", 0, press.moment(0, 1));
        press.load(0, 2);
        press.load(0, 0);
        press.load(0, 1);
        due("grams", 157, press.moment(0, 0));
        due("moment", 7 + 2 * 100 + 3 * 50, press.moment(0, 1));
        due("the other's grams", 0, press.moment(1, 0));
        due("part 2", -1, press.moment(0, 2));
        due("part -1", -1, press.moment(0, -1));
        due("lorry 2", -1, press.moment(2, 0));
        due("lorry -1", -1, press.moment(-1, 0));
        due("lorry 3", -1, press.moment(3, 1));
    }

    private static void rebale() {
        part = "18 rebale";
        BalePress press = new BalePress();
        press.feed(0L, 0, 5L);
        press.feed(0L, 1, 6L);
        press.bale(0L);
        press.feed(0L, 1, 7L);
        press.feed(0L, 3, 8L);
        press.bale(0L);
        made(press, 2, 1);
        made(press, 2, 1);
        press.stack(0, 6);
        press.put(2, 0);
        due("the same", -1, press.rebale(0, 0));
        due("first none such", -1, press.rebale(4, 0));
        due("second none such", -1, press.rebale(0, 4));
        due("-1", -1, press.rebale(-1, 0));
        due("both none such", -1, press.rebale(Integer.MIN_VALUE, Integer.MAX_VALUE));
        due("a stacked one", -1, press.rebale(2, 0));
        due("a stacked one, second", -1, press.rebale(0, 2));
        due("refused, so free", 0, press.state(0));
        due("made", 4, press.rebale(1, 0));
        due("in 0", 5, press.in(4, 0));
        due("in 1", 13, press.in(4, 1));
        due("in 2", 0, press.in(4, 2));
        due("in 3", 8, press.in(4, 3));
        due("free", 0, press.state(4));
        due("gone", 3, press.state(0));
        due("gone too", 3, press.state(1));
        due("a gone one", -1, press.rebale(0, 4));
        due("a gone one, second", -1, press.rebale(4, 1));
        press.first(2);
        due("a sold one", -1, press.rebale(2, 3));
        due("a sold one, second", -1, press.rebale(3, 2));
        due("anew", 5, press.rebale(4, 3));

        BalePress warmths = pressOf(0, 1, 1, 1, 1);
        double first = warmths.warm(0, 1, 60.0);
        double second = warmths.warm(3, 1, 30.0);
        due("the first is warmer", 4, warmths.rebale(0, 1));
        dueDouble("its warmth", first, warmths.warm(4, 0, 0.0));
        due("the second is warmer", 5, warmths.rebale(2, 3));
        dueDouble("its warmth too", second, warmths.warm(5, 0, 0.0));

        BalePress hot = heater(1, 1);
        hoursUntilHot(hot, 0);
        hot.warm(0, 5, 60.0);
        due("hot", 0, hot.alarm(0));
        due("made of a hot one", 2, hot.rebale(0, 1));
        due("no spell", -1, hot.alarm(0));
        hot.warm(2, 1, 60.0);
        due("a spell of an hour", 2, hot.alarm(0));
        hot.hold(2);
        due("of no more", -1, hot.alarm(0));

        BalePress full = pressOf(0, 1, 1, 1, 1, 1, 1, 1, 1, 1, 1, 1);
        due("the twelfth", 11, full.rebale(0, 1));
        due("the thirteenth", -1, full.rebale(2, 3));
        due("free still", 0, full.state(2));
        due("free still, second", 0, full.state(3));
    }

    private static void brought() {
        part = "19 brought";
        BalePress press = new BalePress();
        press.feed(0L, 0, 5L);
        press.feed(0L, 1, 6L);
        press.bale(0L);
        press.feed(0L, 1, 7L);
        press.feed(0L, 3, 8L);
        press.bale(0L);
        made(press, 2, 9);
        press.rebale(1, 0);
        long[][] due = {{0, 5}, {7, 6}, {0, 0}, {8, 0}};
        for (int kind = 0; kind < 4; kind++) {
            due("first of " + kind, due[kind][0], press.brought(3, kind, 0));
            due("second of " + kind, due[kind][1], press.brought(3, kind, 1));
            due("of a plain bale", 0, press.brought(2, kind, 0));
            due("of a gone plain bale", 0, press.brought(0, kind, 1));
        }
        due("part 2", -1, press.brought(3, 0, 2));
        due("part -1", -1, press.brought(3, 0, -1));
        due("part 2 of a plain bale", -1, press.brought(2, 0, 2));
        due("kind 4", -1, press.brought(3, 4, 0));
        due("kind -1", -1, press.brought(3, -1, 0));
        due("kind 4 of a plain bale", -1, press.brought(2, 4, 0));
        due("bale 4", -1, press.brought(4, 0, 0));
        due("bale -1", -1, press.brought(-1, 0, 0));
        press.rebale(2, 3);
        due("of one made anew of one made anew", 13, press.brought(4, 1, 1));
        due("its first", 9, press.brought(4, 2, 0));
        due("of a gone one made anew", 7, press.brought(3, 1, 0));
    }

    private static void label() {
        part = "20 label";
        BalePress press = pressOf(2, 1, 1000000, 1, 1, 1, 1, 1, 1, 1, 1);
        dueText("of 0", "B0 1 2", labelOf(press, 0));
        dueText("of 1", "B1 1000000 2", labelOf(press, 1));
        dueText("of 9", "B9 1 2", labelOf(press, 9));
        press.feed(0L, 3, 5L);
        press.feed(0L, 1, 5L);
        press.feed(0L, 0, 4L);
        press.bale(0L);
        dueText("of 10", "B10 14 1", labelOf(press, 10));
        press.feed(0L, 3, 500L);
        press.feed(0L, 0, 400L);
        press.bale(0L);
        dueText("of 11", "B11 900 3", labelOf(press, 11));
        due("byte 0", 66, press.label(11, 0));
        due("the last byte", 51, press.label(11, 8));
        due("behind it", -1, press.label(11, 9));
        due("byte -1", -1, press.label(11, -1));
        due("far behind", -1, press.label(11, Integer.MAX_VALUE));
        due("far before", -1, press.label(11, Integer.MIN_VALUE));
        due("bale 12", -1, press.label(12, 0));
        due("bale -1", -1, press.label(-1, 0));
        dueText("of kind 0", "B0 77 0", labelOf(pressOf(0, 77), 0));
        BalePress great = pressOf(3, 200000000L);
        dueText("of all there can be", "B0 200000000 3", labelOf(great, 0));
        BalePress anew = pressOf(1, 5, 6);
        anew.rebale(0, 1);
        dueText("of one made anew", "B2 11 1", labelOf(anew, 2));
        dueText("of a gone one", "B0 5 1", labelOf(anew, 0));
    }

    private static void state() {
        part = "21 state";
        BalePress press = pressOf(0, 1, 1, 1, 1);
        press.stack(0, 6);
        due("free", 0, press.state(0));
        press.put(0, 0);
        due("stacked", 1, press.state(0));
        press.first(0);
        due("sold", 2, press.state(0));
        press.lorry(10L, 10L);
        press.load(0, 0);
        due("sold, on a lorry", 2, press.state(0));
        press.rebale(1, 2);
        due("gone", 3, press.state(1));
        due("gone too", 3, press.state(2));
        due("made anew", 0, press.state(4));
        due("as it was", 0, press.state(3));
        due("none such", -1, press.state(5));
        due("-1", -1, press.state(-1));
        due("12", -1, press.state(12));
        due("far off", -1, press.state(Integer.MAX_VALUE));
        BalePress full = pressOf(0, 1);
        for (int bale = 1; bale < 12; bale++) {
            due("bale", bale, made(full, 0, 1));
        }
        due("state of 12 of 12", -1, full.state(12));
    }
}
