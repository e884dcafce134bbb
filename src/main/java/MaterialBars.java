/**
 * Treatments of objects in parts of some material. The document shared/DOC.md says what each call
 * answers; the comments here only say why the code is as it is.
 *
 * <p>Sets of methods, materials, persons and goods are held as the bits of an int: none of them has
 * more than twelve members.
 */
public final class MaterialBars {
    public static final int NONE = -1;

    private static final int PAD_SIGNS = 50;
    private static final int FIRST_SIGN = 33;
    private static final int LAST_SIGN = 126;
    private static final int CLAUSES = 10;
    private static final int NUMBER_DIGITS = 4;
    private static final int MOST_OF_NUMBER = 9999;

    private static final int SET_MEMBERS = 12;
    private static final int METHODS = 12;
    private static final int GOODS = 12;
    private static final int MATERIALS = 10;
    private static final int OBJECTS = 10;
    private static final int PARTS = 8;
    private static final int ROWS = 30;
    private static final int ROW_PLACES = 4;
    private static final int PERSONS = 8;
    private static final int SHELVES = 6;
    private static final int LAST_HOUR = 1000000;
    private static final int MOST_IN_STOCK = 1000000;

    private static final int BARRED = 100;
    private static final int BEHIND = 200;
    private static final int TOO_EARLY = 300;
    private static final int UNTRIED = 400;
    private static final int LACKING = 500;
    private static final int NO_RIGHT = 600;
    private static final int NO_SECOND = 700;

    private static final int PLAN_STEPS = 10;
    private static final int TOO_MANY_STEPS = -2;

    private final Pad pad;
    private final Method[] methods;
    private final Piece[] pieces;
    private final Good[] goods;
    private final int[] planned;
    private final int[] draft;
    private int methodCount;
    private int pieceCount;
    private int plannedCount;

    public MaterialBars() {
        pad = new Pad();
        methods = new Method[METHODS];
        for (int k = 0; k < METHODS; k++) {
            methods[k] = new Method();
        }
        pieces = new Piece[OBJECTS];
        for (int k = 0; k < OBJECTS; k++) {
            pieces[k] = new Piece();
        }
        goods = new Good[GOODS];
        for (int k = 0; k < GOODS; k++) {
            goods[k] = new Good();
        }
        planned = new int[PLAN_STEPS];
        draft = new int[PLAN_STEPS];
    }

    public int unit(int sign) throws IllegalStateException, IllegalArgumentException {
        if (pad.length >= PAD_SIGNS) {
            throw new IllegalStateException("the pad is full");
        }
        if (sign < FIRST_SIGN || sign > LAST_SIGN) {
            throw new IllegalArgumentException("no sign");
        }
        pad.signs[pad.length] = sign;
        pad.length++;
        return pad.length;
    }

    public int read() throws IllegalStateException {
        if (methodCount >= METHODS) {
            throw new IllegalStateException("there are twelve methods");
        }
        // The next method's place is free to be written on: a text that fails leaves it uncounted.
        Method next = methods[methodCount];
        next.clear();
        boolean good = pad.readText(next);
        pad.length = 0;
        if (!good) {
            return -1 - pad.at;
        }
        methodCount++;
        return methodCount - 1;
    }

    public int uses(int method, int good) throws IndexOutOfBoundsException {
        Method asked = methodAt(method);
        checkPlace(good, GOODS);
        return asked.amounts[good];
    }

    public int object() throws IllegalStateException {
        if (pieceCount >= OBJECTS) {
            throw new IllegalStateException("there are ten objects");
        }
        pieceCount++;
        return pieceCount - 1;
    }

    public int part(int object, int material) throws IndexOutOfBoundsException, IllegalStateException {
        Piece piece = pieceAt(object);
        checkPlace(material, MATERIALS);
        if (piece.partCount >= PARTS) {
            throw new IllegalStateException("the object has eight parts");
        }
        return piece.addPart(material);
    }

    public boolean right(int person, int method, boolean on) throws IndexOutOfBoundsException {
        checkPlace(person, PERSONS);
        Method asked = methodAt(method);
        boolean former = has(asked.persons, person);
        asked.persons = with(asked.persons, person, on);
        return former != on;
    }

    public boolean trial(int method, int material, boolean good) throws IndexOutOfBoundsException {
        Method asked = methodAt(method);
        checkPlace(material, MATERIALS);
        boolean former = has(asked.goodTrials, material);
        asked.goodTrials = with(asked.goodTrials, material, good);
        return former;
    }

    public int reason(int object, int method, int person, int hour)
            throws IndexOutOfBoundsException, IllegalArgumentException {
        Piece piece = pieceAt(object);
        Method asked = methodAt(method);
        checkPlace(person, PERSONS);
        checkHour(hour, 0);
        return reasonAgainst(piece, asked, person, hour);
    }

    public int done(int object, int method, int person, int second, int hour)
            throws IndexOutOfBoundsException, IllegalStateException, IllegalArgumentException {
        Piece piece = pieceAt(object);
        Method asked = methodAt(method);
        checkPlace(person, PERSONS);
        checkPlace(second, PERSONS);
        if (piece.rowCount >= ROWS) {
            throw new IllegalStateException("the object has 30 rows");
        }
        checkHour(hour, piece.latestHour);
        int against = reasonAgainst(piece, asked, person, hour);
        if (against != 0) {
            return against;
        }
        if (asked.needsTwo && (second == person || !has(asked.persons, second))) {
            return NO_SECOND;
        }
        takeWhatGoes(asked);
        piece.addRow(method, hour, person, asked.needsTwo ? second : NONE);
        return 0;
    }

    public int row(int object, int k, int what) throws IndexOutOfBoundsException {
        Piece piece = pieceAt(object);
        checkPlace(what, ROW_PLACES);
        if (k == -1) {
            return piece.rowCount;
        }
        checkPlace(k, piece.rowCount);
        return piece.rows[k * ROW_PLACES + what];
    }

    public int stock(int good, int change) throws IndexOutOfBoundsException, IllegalArgumentException {
        Good asked = goodAt(good);
        if (change < -MOST_IN_STOCK || change > MOST_IN_STOCK) {
            throw new IllegalArgumentException("change");
        }
        int then = asked.amount + change;
        if (then < 0 || then > MOST_IN_STOCK) {
            return NONE;
        }
        asked.changeBy(change);
        return then;
    }

    public long about(int good, int what) throws IndexOutOfBoundsException {
        Good asked = goodAt(good);
        switch (what) {
            case 0:
                return asked.amount;
            case 1:
                return asked.came;
            case 2:
                return asked.went;
            case 3:
                return asked.shelf;
            default:
                throw new IndexOutOfBoundsException("what");
        }
    }

    public boolean apart(int a, int b) throws IndexOutOfBoundsException {
        Good first = goodAt(a);
        Good other = goodAt(b);
        if (a == b || (first.shelf != NONE && first.shelf == other.shelf)) {
            return false;
        }
        first.apartFrom = with(first.apartFrom, b, true);
        other.apartFrom = with(other.apartFrom, a, true);
        return true;
    }

    public int put(int good, int shelf) throws IndexOutOfBoundsException {
        Good asked = goodAt(good);
        if (shelf != NONE) {
            checkPlace(shelf, SHELVES);
            int hindrance = lowest(asked.apartFrom & goodsOn(shelf));
            if (hindrance != NONE) {
                return 1 + hindrance;
            }
        }
        asked.shelf = shelf;
        return 0;
    }

    public int plan(int object, int set) throws IndexOutOfBoundsException {
        Piece piece = pieceAt(object);
        if (set >>> methodCount != 0) {
            throw new IndexOutOfBoundsException("set");
        }
        int steps = withAllAhead(set) & ~piece.doneMethods;
        int length = Integer.bitCount(steps);
        if (length > PLAN_STEPS) {
            return TOO_MANY_STEPS;
        }
        // Ordered on the draft: a plan that can't be must leave the latest one as it is.
        if (!eachMayBeDone(piece, steps) || !putInOrder(steps, length)) {
            return NONE;
        }
        System.arraycopy(draft, 0, planned, 0, length);
        plannedCount = length;
        return length;
    }

    public int step(int k) throws IndexOutOfBoundsException {
        checkPlace(k, plannedCount);
        return planned[k];
    }

    public int count(int what) throws IndexOutOfBoundsException {
        switch (what) {
            case 0:
                return pad.length;
            case 1:
                return methodCount;
            case 2:
                return pieceCount;
            case 3:
                return rowsOfAll();
            case 4:
                return plannedCount;
            default:
                throw new IndexOutOfBoundsException("what");
        }
    }

    private static void checkPlace(int place, int bound) {
        if (place < 0 || place >= bound) {
            throw new IndexOutOfBoundsException("no such place");
        }
    }

    private static void checkHour(int hour, int earliest) {
        if (hour < earliest || hour > LAST_HOUR) {
            throw new IllegalArgumentException("hour");
        }
    }

    private Method methodAt(int number) {
        checkPlace(number, methodCount);
        return methods[number];
    }

    private Piece pieceAt(int number) {
        checkPlace(number, pieceCount);
        return pieces[number];
    }

    private Good goodAt(int number) {
        checkPlace(number, GOODS);
        return goods[number];
    }

    private static boolean has(int set, int member) {
        return (set >>> member & 1) == 1;
    }

    private static int with(int set, int member, boolean on) {
        return on ? set | 1 << member : set & ~(1 << member);
    }

    private static int lowest(int set) {
        for (int member = 0; member < SET_MEMBERS; member++) {
            if (has(set, member)) {
                return member;
            }
        }
        return NONE;
    }

    private int reasonAgainst(Piece piece, Method method, int person, int hour) {
        int barredPart = piece.firstPartOf(method.barred);
        if (barredPart != NONE) {
            return BARRED + barredPart;
        }
        int ahead = lowest(method.notBehind & piece.doneMethods);
        if (ahead != NONE) {
            return BEHIND + ahead;
        }
        int missing = lowestNotLongEnoughAgo(piece, method, hour);
        if (missing != NONE) {
            return TOO_EARLY + missing;
        }
        int untried = method.needsTrial ? lowest(piece.materials & ~method.goodTrials) : NONE;
        if (untried != NONE) {
            return UNTRIED + untried;
        }
        int lacking = lowestLacking(method);
        if (lacking != NONE) {
            return LACKING + lacking;
        }
        return has(method.persons, person) ? 0 : NO_RIGHT;
    }

    private static int lowestNotLongEnoughAgo(Piece piece, Method method, int hour) {
        for (int other = 0; other < METHODS; other++) {
            if (has(method.after, other)
                    && (!has(piece.doneMethods, other)
                            || hour - piece.latest[other] < method.hours[other])) {
                return other;
            }
        }
        return NONE;
    }

    private int lowestLacking(Method method) {
        for (int good = 0; good < GOODS; good++) {
            if (goods[good].amount < method.amounts[good]) {
                return good;
            }
        }
        return NONE;
    }

    private void takeWhatGoes(Method method) {
        for (int good = 0; good < GOODS; good++) {
            goods[good].changeBy(-method.amounts[good]);
        }
    }

    private int goodsOn(int shelf) {
        int set = 0;
        for (int good = 0; good < GOODS; good++) {
            set = with(set, good, goods[good].shelf == shelf);
        }
        return set;
    }

    private int rowsOfAll() {
        int sum = 0;
        for (int k = 0; k < pieceCount; k++) {
            sum += pieces[k].rowCount;
        }
        return sum;
    }

    private int withAllAhead(int set) {
        int all = set;
        // A round goes at least one link along every chain, and no chain has more links than methods.
        for (int round = 0; round < METHODS; round++) {
            for (int method = 0; method < methodCount; method++) {
                if (has(all, method)) {
                    all |= methods[method].after;
                }
            }
        }
        return all;
    }

    private boolean eachMayBeDone(Piece piece, int steps) {
        for (int method = 0; method < METHODS; method++) {
            if (has(steps, method) && !mayBeDone(piece, method)) {
                return false;
            }
        }
        return true;
    }

    private boolean mayBeDone(Piece piece, int method) {
        return method < methodCount
                && (methods[method].barred & piece.materials) == 0
                && (methods[method].notBehind & piece.doneMethods) == 0;
    }

    /** Every rule is about two steps, so taking the lowest that may come next never blocks an order. */
    private boolean putInOrder(int steps, int length) {
        int left = steps;
        for (int k = 0; k < length && k < PLAN_STEPS; k++) {
            int next = lowestThatMayComeNext(left);
            if (next == NONE) {
                return false;
            }
            draft[k] = next;
            left = with(left, next, false);
        }
        return true;
    }

    private int lowestThatMayComeNext(int left) {
        for (int method = 0; method < methodCount; method++) {
            if (has(left, method)
                    && (methods[method].after & left) == 0
                    && !hasToWait(method, left)) {
                return method;
            }
        }
        return NONE;
    }

    /** A method waits for each one that may not come behind it. */
    private boolean hasToWait(int method, int left) {
        for (int other = 0; other < methodCount; other++) {
            if (other != method && has(left, other) && has(methods[other].notBehind, method)) {
                return true;
            }
        }
        return false;
    }

    /** The signs told so far, and the place up to which they have been read as a method's text. */
    private static final class Pad {
        final int[] signs = new int[PAD_SIGNS];
        int length;
        int at;

        /** If the answer is no, at is the place of the first sign that is wrong. */
        boolean readText(Method method) {
            at = 0;
            if (length == 0) {
                return true;
            }
            for (int clause = 0; clause < CLAUSES; clause++) {
                if (clause > 0 && !take(',')) {
                    return false;
                }
                if (!readClause(method)) {
                    return false;
                }
                if (at >= length) {
                    return true;
                }
            }
            return false;
        }

        private boolean readClause(Method method) {
            if (take('u')) {
                return readUse(method);
            }
            if (take('b')) {
                return readBar(method);
            }
            if (take('x')) {
                return readNotBehind(method);
            }
            if (take('a')) {
                return readAfter(method);
            }
            if (take('t')) {
                method.needsTrial = true;
                return true;
            }
            if (take('i')) {
                method.needsTwo = true;
                return true;
            }
            return false;
        }

        private boolean readUse(Method method) {
            int good = readNumber(0, GOODS - 1);
            if (good == NONE || !take('*')) {
                return false;
            }
            int amount = readNumber(1, MOST_OF_NUMBER);
            if (amount == NONE) {
                return false;
            }
            method.amounts[good] += amount;
            return true;
        }

        private boolean readBar(Method method) {
            int material = readNumber(0, MATERIALS - 1);
            if (material == NONE) {
                return false;
            }
            method.barred = with(method.barred, material, true);
            return true;
        }

        private boolean readNotBehind(Method method) {
            int other = readNumber(0, METHODS - 1);
            if (other == NONE) {
                return false;
            }
            method.notBehind = with(method.notBehind, other, true);
            return true;
        }

        private boolean readAfter(Method method) {
            int other = readNumber(0, METHODS - 1);
            if (other == NONE || !take(':')) {
                return false;
            }
            int hours = readNumber(0, MOST_OF_NUMBER);
            if (hours == NONE) {
                return false;
            }
            method.after = with(method.after, other, true);
            // Each clause has to hold, so of two about the same method the longer one counts.
            method.hours[other] = Math.max(method.hours[other], hours);
            return true;
        }

        /**
         * A digit that would leave no number of the range is not taken: then what has to follow the
         * number fails at that digit, which is the place to be told.
         */
        private int readNumber(int least, int most) {
            int value = 0;
            int digits = 0;
            while (digits < NUMBER_DIGITS && isDigit(signHere())) {
                int longer = value * 10 + (signHere() - '0');
                if (longer > most || (digits == NUMBER_DIGITS - 1 && longer < least)) {
                    break;
                }
                value = longer;
                digits++;
                at++;
            }
            return digits == 0 || value < least ? NONE : value;
        }

        private boolean take(int sign) {
            if (signHere() != sign) {
                return false;
            }
            at++;
            return true;
        }

        private int signHere() {
            return at < length ? signs[at] : NONE;
        }

        private static boolean isDigit(int sign) {
            return sign >= '0' && sign <= '9';
        }
    }

    private static final class Method {
        final int[] amounts = new int[GOODS];
        final int[] hours = new int[METHODS];
        int barred;
        int notBehind;
        int after;
        boolean needsTrial;
        boolean needsTwo;
        int persons;
        int goodTrials;

        /** Rights and trials are not cleared: they can't be told before the method is there. */
        void clear() {
            for (int k = 0; k < GOODS; k++) {
                amounts[k] = 0;
            }
            for (int k = 0; k < METHODS; k++) {
                hours[k] = 0;
            }
            barred = 0;
            notBehind = 0;
            after = 0;
            needsTrial = false;
            needsTwo = false;
        }
    }

    /** What the document calls an object. */
    private static final class Piece {
        final int[] parts = new int[PARTS];
        final int[] rows = new int[ROWS * ROW_PLACES];
        final int[] latest = new int[METHODS];
        int partCount;
        int rowCount;
        int materials;
        int doneMethods;
        int latestHour;

        int addPart(int material) {
            parts[partCount] = material;
            partCount++;
            materials = with(materials, material, true);
            return partCount - 1;
        }

        int firstPartOf(int someMaterials) {
            for (int k = 0; k < partCount; k++) {
                if (has(someMaterials, parts[k])) {
                    return k;
                }
            }
            return NONE;
        }

        void addRow(int method, int hour, int person, int second) {
            int from = rowCount * ROW_PLACES;
            rows[from] = method;
            rows[from + 1] = hour;
            rows[from + 2] = person;
            rows[from + 3] = second;
            rowCount++;
            latest[method] = hour;
            latestHour = hour;
            doneMethods = with(doneMethods, method, true);
        }
    }

    private static final class Good {
        int amount;
        long came;
        long went;
        int shelf = NONE;
        int apartFrom;

        void changeBy(int change) {
            amount += change;
            if (change > 0) {
                came += change;
            } else {
                went -= change;
            }
        }
    }
}
