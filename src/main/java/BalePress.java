public final class BalePress {
    public static final int NONE = -1;

    private static final int KINDS = 4;
    private static final int MOST_FEEDS = 200;
    private static final int MOST_BALES = 12;
    private static final int MOST_ROWS = 6;
    private static final int MOST_STACKS = 4;
    private static final int MOST_LORRIES = 3;
    private static final int LORRY_PLACES = 8;
    private static final long LAST_SECOND = 8000000000L;
    private static final long MOST_GRAMS_A_FEED = 1000000L;
    private static final long MOST_GRAMS_CLOSE = 1000000L;
    private static final long MOST_OF_A_LORRY = 100000000L;
    private static final long GRAMS_A_WIRE = 100000L;

    private static final int FREE = 0;
    private static final int STACKED = 1;
    private static final int SOLD = 2;
    private static final int GONE = 3;

    // Seconds of feeds never fall and a bale takes all up to a second,
    // so the loose feeds are always those from feedsBaled on.
    private final long[] feedSeconds;
    private final int[] feedKinds;
    private final long[] feedGrams;
    private int feedCount;
    private int feedsBaled;

    private final Bale[] bales;
    private int baleCount;

    private final double[] rowDegrees;
    private final double[] rowHeats;
    private int rowCount;
    private int holdHours;

    private final Stack[] stacks;
    private int stackCount;

    private final Lorry[] lorries;
    private int lorryCount;

    // Kept so that reading a label byte by byte makes no new texts.
    private final StringBuilder labelText;

    public BalePress() {
        feedSeconds = new long[MOST_FEEDS];
        feedKinds = new int[MOST_FEEDS];
        feedGrams = new long[MOST_FEEDS];
        bales = new Bale[MOST_BALES];
        rowDegrees = new double[MOST_ROWS];
        rowHeats = new double[MOST_ROWS];
        stacks = new Stack[MOST_STACKS];
        lorries = new Lorry[MOST_LORRIES];
        labelText = new StringBuilder();
        holdHours = 1;
    }

    public boolean feed(long second, int kind, long grams) {
        if (feedCount >= MOST_FEEDS || !isKind(kind)) {
            return false;
        }
        if (!isWithin(second, 0L, LAST_SECOND) || !isWithin(grams, 1L, MOST_GRAMS_A_FEED)) {
            return false;
        }
        if (feedCount > 0 && second < feedSeconds[feedCount - 1]) {
            return false;
        }
        feedSeconds[feedCount] = second;
        feedKinds[feedCount] = kind;
        feedGrams[feedCount] = grams;
        feedCount++;
        return true;
    }

    public int bale(long second) {
        int end = feedsBaled;
        while (end < feedCount && feedSeconds[end] <= second) {
            end++;
        }
        if (baleCount >= MOST_BALES || end == feedsBaled) {
            return NONE;
        }
        Bale made = new Bale();
        for (int i = feedsBaled; i < end; i++) {
            made.addGrams(feedKinds[i], feedGrams[i]);
        }
        feedsBaled = end;
        return keepBale(made);
    }

    public long in(int bale, int kind) {
        Bale found = findBale(bale);
        if (found == null || !isKind(kind)) {
            return NONE;
        }
        return found.gramsOf(kind);
    }

    public long count(int kind) {
        if (!isKind(kind)) {
            return NONE;
        }
        long sum = 0L;
        for (int i = feedsBaled; i < feedCount; i++) {
            if (feedKinds[i] == kind) {
                sum += feedGrams[i];
            }
        }
        return sum;
    }

    public int wires(int bale) {
        Bale found = findBale(bale);
        if (found == null) {
            return NONE;
        }
        long begun = (found.totalGrams() + GRAMS_A_WIRE - 1L) / GRAMS_A_WIRE;
        return begun < 3L ? 3 : (int) begun;
    }

    public double size(int bale, double pressure) {
        Bale found = findBale(bale);
        if (found == null || !isBetween(pressure, 1.0, 64.0)) {
            return -1.0;
        }
        double pressed = (double) found.totalGrams() * 0.001 / pressure;
        return pressed + pressed * 0.125;
    }

    public boolean row(double degrees, double heat) {
        if (rowCount >= MOST_ROWS) {
            return false;
        }
        if (!isBetween(degrees, -50.0, 200.0) || !isBetween(heat, 0.0, 10.0)) {
            return false;
        }
        if (rowCount > 0 && degrees <= rowDegrees[rowCount - 1]) {
            return false;
        }
        rowDegrees[rowCount] = degrees;
        rowHeats[rowCount] = heat;
        rowCount++;
        return true;
    }

    public double warm(int bale, int hours, double outside) {
        Bale found = findBale(bale);
        if (found == null || found.isGoneOrSold()) {
            return -1000.0;
        }
        if (!isWithin(hours, 0L, 100L) || !isBetween(outside, -50.0, 60.0)) {
            return -1000.0;
        }
        for (int hour = 0; hour < hours; hour++) {
            found.passHour(gainAt(found.warmth), outside);
        }
        return found.warmth;
    }

    public boolean hold(int hours) {
        if (!isWithin(hours, 1L, 1000L)) {
            return false;
        }
        holdHours = hours;
        return true;
    }

    public int alarm(int k) {
        int before = 0;
        for (int number = 0; number < baleCount; number++) {
            if (isAlarming(number)) {
                if (before == k) {
                    return number;
                }
                before++;
            }
        }
        return NONE;
    }

    public int stack(int gap, int height) {
        if (stackCount >= MOST_STACKS || !isWithin(gap, 0L, 3L) || !isWithin(height, 1L, 6L)) {
            return NONE;
        }
        stacks[stackCount] = new Stack(gap, height);
        stackCount++;
        return stackCount - 1;
    }

    public int put(int bale, int stack) {
        Bale coming = findBale(bale);
        Stack target = findStack(stack);
        if (coming == null || target == null) {
            return 1;
        }
        if (coming.condition != FREE) {
            return 2;
        }
        if (balesOn(stack) >= target.height) {
            return 3;
        }
        if (coming.isHot()) {
            return 4;
        }
        if (bearsOtherMainKind(stack, coming.mainKind())) {
            return 5;
        }
        if (gramsCloseTo(stack) + coming.totalGrams() > MOST_GRAMS_CLOSE) {
            return 6;
        }
        coming.condition = STACKED;
        coming.stackNumber = stack;
        return 0;
    }

    public int first(int kind) {
        for (int number = 0; number < baleCount; number++) {
            Bale found = findBale(number);
            if (found != null && found.condition == STACKED && found.mainKind() == kind) {
                found.condition = SOLD;
                return number;
            }
        }
        return NONE;
    }

    public int lorry(long most, long moment) {
        if (lorryCount >= MOST_LORRIES) {
            return NONE;
        }
        if (!isWithin(most, 0L, MOST_OF_A_LORRY) || !isWithin(moment, 0L, MOST_OF_A_LORRY)) {
            return NONE;
        }
        lorries[lorryCount] = new Lorry(most, moment);
        lorryCount++;
        return lorryCount - 1;
    }

    public int load(int lorry, int bale) {
        Lorry target = findLorry(lorry);
        Bale coming = findBale(bale);
        if (target == null || coming == null) {
            return NONE;
        }
        if (coming.condition != SOLD || coming.isLoaded || !target.hasRoomFor(coming.totalGrams())) {
            return NONE;
        }
        coming.isLoaded = true;
        return target.takeOn(coming.totalGrams());
    }

    public long moment(int lorry, int part) {
        Lorry found = findLorry(lorry);
        if (found == null || !isWithin(part, 0L, 1L)) {
            return NONE;
        }
        return part == 0 ? found.gramsOn : found.momentOn;
    }

    public int rebale(int a, int b) {
        Bale firstPart = findBale(a);
        Bale secondPart = findBale(b);
        if (firstPart == null || secondPart == null || a == b || baleCount >= MOST_BALES) {
            return NONE;
        }
        if (firstPart.condition != FREE || secondPart.condition != FREE) {
            return NONE;
        }
        Bale made = new Bale();
        made.makeOf(firstPart, secondPart);
        firstPart.condition = GONE;
        secondPart.condition = GONE;
        return keepBale(made);
    }

    public long brought(int bale, int kind, int part) {
        Bale found = findBale(bale);
        if (found == null || !isKind(kind) || !isWithin(part, 0L, 1L)) {
            return NONE;
        }
        Bale bringer = part == 0 ? found.firstPart : found.secondPart;
        return bringer == null ? 0L : bringer.gramsOf(kind);
    }

    public int label(int bale, int i) {
        Bale found = findBale(bale);
        if (found == null) {
            return NONE;
        }
        writeLabel(bale, found);
        if (i < 0 || i >= labelText.length()) {
            return NONE;
        }
        return labelText.charAt(i);
    }

    public int state(int bale) {
        Bale found = findBale(bale);
        return found == null ? NONE : found.condition;
    }

    private static boolean isKind(int kind) {
        return kind >= 0 && kind < KINDS;
    }

    private static boolean isWithin(long value, long least, long most) {
        return value >= least && value <= most;
    }

    // False for NaN, as both comparisons are.
    private static boolean isBetween(double value, double least, double most) {
        return value >= least && value <= most;
    }

    private int keepBale(Bale made) {
        if (baleCount >= MOST_BALES) {
            return NONE;
        }
        bales[baleCount] = made;
        baleCount++;
        return baleCount - 1;
    }

    private Bale findBale(int number) {
        return number >= 0 && number < baleCount ? bales[number] : null;
    }

    private Stack findStack(int number) {
        return number >= 0 && number < stackCount ? stacks[number] : null;
    }

    private Lorry findLorry(int number) {
        return number >= 0 && number < lorryCount ? lorries[number] : null;
    }

    private double gainAt(double warmth) {
        double gain = 0.0;
        for (int i = 0; i < rowCount; i++) {
            if (rowDegrees[i] <= warmth) {
                gain = rowHeats[i];
            }
        }
        return gain;
    }

    private boolean isAlarming(int bale) {
        Bale found = findBale(bale);
        return found != null && !found.isGoneOrSold() && found.spell >= holdHours;
    }

    private int balesOn(int stack) {
        int sum = 0;
        for (int number = 0; number < baleCount; number++) {
            Bale found = findBale(number);
            if (found != null && found.standsOn(stack)) {
                sum++;
            }
        }
        return sum;
    }

    private boolean bearsOtherMainKind(int stack, int kind) {
        for (int number = 0; number < baleCount; number++) {
            Bale found = findBale(number);
            if (found != null && found.standsOn(stack) && found.mainKind() != kind) {
                return true;
            }
        }
        return false;
    }

    private long gramsCloseTo(int stack) {
        long sum = 0L;
        for (int number = 0; number < baleCount; number++) {
            Bale found = findBale(number);
            if (found != null && found.condition == STACKED && areClose(found.stackNumber, stack)) {
                sum += found.totalGrams();
            }
        }
        return sum;
    }

    private boolean areClose(int oneStack, int otherStack) {
        int lower = Math.min(oneStack, otherStack);
        int upper = Math.max(oneStack, otherStack);
        if (lower == upper) {
            return true;
        }
        Stack greater = findStack(upper);
        return greater != null && upper - lower <= greater.gap;
    }

    private void writeLabel(int number, Bale bale) {
        labelText.setLength(0);
        labelText.append('B');
        labelText.append(number);
        labelText.append(' ');
        // Fits an int: all 200 feeds together are 200000000 grams at most.
        labelText.append((int) bale.totalGrams());
        labelText.append(' ');
        labelText.append(bale.mainKind());
    }

    private static final class Bale {
        private final long[] grams;
        private double warmth;
        private int hotHoursOfLate;
        private int spell;
        private int condition;
        private int stackNumber;
        private boolean isLoaded;
        private Bale firstPart;
        private Bale secondPart;

        Bale() {
            grams = new long[KINDS];
            warmth = 20.0;
            condition = FREE;
            stackNumber = NONE;
        }

        void addGrams(int kind, long more) {
            if (isKind(kind)) {
                grams[kind] += more;
            }
        }

        void makeOf(Bale one, Bale other) {
            if (one == null || other == null) {
                return;
            }
            for (int kind = 0; kind < KINDS; kind++) {
                addGrams(kind, one.gramsOf(kind) + other.gramsOf(kind));
            }
            warmth = one.warmth >= other.warmth ? one.warmth : other.warmth;
            firstPart = one;
            secondPart = other;
        }

        long gramsOf(int kind) {
            return isKind(kind) ? grams[kind] : 0L;
        }

        long totalGrams() {
            long sum = 0L;
            for (int kind = 0; kind < KINDS; kind++) {
                sum += grams[kind];
            }
            return sum;
        }

        int mainKind() {
            int main = 0;
            for (int kind = 1; kind < KINDS; kind++) {
                if (grams[kind] > grams[main]) {
                    main = kind;
                }
            }
            return main;
        }

        boolean isHot() {
            return warmth >= 60.0;
        }

        boolean isGoneOrSold() {
            return condition == GONE || condition == SOLD;
        }

        boolean standsOn(int stack) {
            return condition == STACKED && stackNumber == stack;
        }

        void passHour(double gain, double outside) {
            warmth = (warmth + gain) - (warmth - outside) * 0.125;
            hotHoursOfLate = isHot() ? hotHoursOfLate + 1 : 0;
            spell = Math.max(spell, hotHoursOfLate);
        }
    }

    private static final class Stack {
        private final int gap;
        private final int height;

        Stack(int gap, int height) {
            this.gap = gap;
            this.height = height;
        }
    }

    private static final class Lorry {
        private final long mostGrams;
        private final long mostMoment;
        private long gramsOn;
        private long momentOn;
        private int placesTaken;

        Lorry(long mostGrams, long mostMoment) {
            this.mostGrams = mostGrams;
            this.mostMoment = mostMoment;
        }

        boolean hasRoomFor(long grams) {
            return placesTaken < LORRY_PLACES
                    && gramsOn + grams <= mostGrams
                    && momentOn + momentOfNext(grams) <= mostMoment;
        }

        int takeOn(long grams) {
            int place = placesTaken;
            gramsOn += grams;
            momentOn += momentOfNext(grams);
            placesTaken++;
            return place;
        }

        private long momentOfNext(long grams) {
            return grams * (long) (placesTaken + 1);
        }
    }
}
