/** Wheels, dials, pieces and claims of a wreck's bronze device. What each promise asks is in the document. */
public final class Greenwheels {
    private static final int NONE = -1;

    private static final int AXLES = 7;
    private static final int CRANK = 0;
    private static final int WHEELS = 12;
    private static final int LEAST_TEETH = 4;
    private static final int MOST_TEETH = 100;
    private static final int MOST_TURNS = 9999;
    private static final int MOST_TURNS_AT_ONCE = 999;
    private static final int LEAST_CELLS = 2;
    private static final int MOST_CELLS = 240;
    private static final int CELLS_AT_FIRST = 12;

    private static final int LUMPS = 6;
    private static final int PIECES = 6;
    private static final int LEAST_COUNT = 4;
    private static final int MOST_COUNT = 240;
    private static final int MOST_TEETH_SEEN = 100;
    private static final int FULL_CIRCLE = 360;
    private static final int MOST_DOUBT = 90;

    private static final int LEAST_TRAIN_TEETH = 10;
    private static final int MOST_TRAIN_TEETH = 60;
    private static final int MOST_TRAIN_PRODUCT = 3600;
    private static final int MOST_OF_BEST = 9999;
    private static final int MOST_LIMIT = 300;

    private static final int CLAIMS = 12;

    private static final int HOUSE_ANSWERS = 9;
    private static final int AXLE_ANSWERS = 3;
    private static final int WHEEL_ANSWERS = 4;
    private static final int LUMP_ANSWERS = 4;
    private static final int CLAIM_ANSWERS = 4;
    private static final int TRAIN_ANSWERS = 5;

    private static final long DIGEST_START = 5087;
    private static final long DIGEST_FACTOR = 31;

    // Euclid needs fewer than a hundred steps for any two longs.
    private static final int EUCLID_STEPS = 1000;

    private final Gearing gearing;
    private final int[] cells;
    private final Lumps lumps;
    private final Claims claims;
    private final TrainSearch search;
    private int turns;
    private int jams;
    private int refused;

    public Greenwheels() {
        gearing = new Gearing();
        cells = new int[AXLES];
        for (int axle = 0; axle < cells.length; axle++) {
            cells[axle] = CELLS_AT_FIRST;
        }
        lumps = new Lumps();
        claims = new Claims();
        search = new TrainSearch();
    }

    // ---- wheels

    public int wheel(int axle, int teeth)
            throws IndexOutOfBoundsException, IllegalArgumentException, IllegalStateException {
        demandAxle(axle);
        demandArgument(isWithin(teeth, LEAST_TEETH, MOST_TEETH));
        demandState(gearing.wheels < WHEELS);
        return gearing.addWheel(axle, teeth);
    }

    public boolean mesh(int one, int other) throws IndexOutOfBoundsException, IllegalArgumentException {
        demandWheel(one);
        demandWheel(other);
        demandArgument(!gearing.areOnOneAxle(one, other));
        if (gearing.wouldJam(one, other)) {
            jams++;
            return false;
        }
        gearing.join(one, other);
        return true;
    }

    public boolean part(int one, int other) throws IndexOutOfBoundsException {
        demandWheel(one);
        demandWheel(other);
        boolean wereMeshed = gearing.areMeshed(one, other);
        if (wereMeshed) {
            gearing.separate(one, other);
        }
        return wereMeshed;
    }

    public int turn(int turns) throws IllegalArgumentException, IllegalStateException {
        demandArgument(isWithin(turns, -MOST_TURNS_AT_ONCE, MOST_TURNS_AT_ONCE));
        demandState(isWithin(this.turns + turns, -MOST_TURNS, MOST_TURNS));
        this.turns += turns;
        return this.turns;
    }

    public int dial(int axle, int cells) throws IndexOutOfBoundsException, IllegalArgumentException {
        demandAxle(axle);
        demandArgument(isWithin(cells, LEAST_CELLS, MOST_CELLS));
        int before = at(this.cells, axle);
        put(this.cells, axle, cells);
        return before;
    }

    // ---- pieces and claims

    public int piece(int lump, int teeth, int degrees, int doubt)
            throws IndexOutOfBoundsException, IllegalArgumentException, IllegalStateException {
        demandIndex(isWithin(lump, 0, LUMPS - 1));
        demandArgument(isWithin(teeth, 1, MOST_TEETH_SEEN));
        demandArgument(isWithin(degrees, 1, FULL_CIRCLE));
        demandArgument(isWithin(doubt, 0, MOST_DOUBT));
        demandState(lumps.piecesOf(lump) < PIECES);
        return lumps.addPiece(lump, teeth, degrees, doubt);
    }

    public int claim(int on) throws IllegalArgumentException, IllegalStateException {
        demandArgument(claims.isSetOfThem(on));
        demandState(claims.count < CLAIMS);
        return claims.addClaim(on);
    }

    public int withdraw(int claim, boolean is) throws IndexOutOfBoundsException {
        demandClaim(claim);
        claims.setWithdrawn(claim, is);
        return claims.countStanding();
    }

    // ---- what is asked

    public long ofAxle(int axle, int what, boolean isUpper)
            throws IndexOutOfBoundsException, IllegalArgumentException {
        demandAxle(axle);
        demandArgument(isWithin(what, 0, AXLE_ANSWERS - 1));
        return axleFraction(axle, what).told(isUpper);
    }

    public int ofWheel(int wheel, int what) throws IndexOutOfBoundsException, IllegalArgumentException {
        demandWheel(wheel);
        demandArgument(isWithin(what, 0, WHEEL_ANSWERS - 1));
        switch (what) {
            case 0: return gearing.axleOf(wheel);
            case 1: return gearing.teethOf(wheel);
            case 2: return gearing.meshedWith(wheel);
            default: return gearing.isMoved(gearing.axleOf(wheel)) ? 1 : 0;
        }
    }

    public long passed(int wheel, boolean isUpper) throws IndexOutOfBoundsException {
        demandWheel(wheel);
        return passedBy(wheel).told(isUpper);
    }

    public long period() {
        return gearing.turnsToReturn();
    }

    public int pointer(int axle) throws IndexOutOfBoundsException {
        demandAxle(axle);
        return cellAt(axle, turns);
    }

    public int ofLump(int lump, int what) throws IndexOutOfBoundsException, IllegalArgumentException {
        demandIndex(isWithin(lump, 0, LUMPS - 1));
        demandArgument(isWithin(what, 0, LUMP_ANSWERS - 1));
        switch (what) {
            case 0: return lumps.piecesOf(lump);
            case 1: return lumps.agreeingOf(lump);
            case 2: return lumps.leastOf(lump);
            default: return lumps.greatestOf(lump);
        }
    }

    public int ofClaim(int claim, int what) throws IndexOutOfBoundsException, IllegalArgumentException {
        demandClaim(claim);
        demandArgument(isWithin(what, 0, CLAIM_ANSWERS - 1));
        switch (what) {
            case 0: return claims.hangsOn(claim);
            case 1: return claims.isWithdrawn(claim) ? 1 : 0;
            case 2: return claims.isStanding(claim) ? 1 : 0;
            default: return claims.fallingWith(claim);
        }
    }

    public int house(int what) throws IllegalArgumentException {
        demandArgument(isWithin(what, 0, HOUSE_ANSWERS - 1));
        switch (what) {
            case 0: return gearing.wheels;
            case 1: return gearing.countMeshes();
            case 2: return gearing.countMoved();
            case 3: return turns;
            case 4: return claims.count;
            case 5: return claims.countStanding();
            case 6: return lumps.countPieces();
            case 7: return jams;
            default: return refused;
        }
    }

    public String row(int axle) throws IndexOutOfBoundsException {
        demandAxle(axle);
        StringBuilder text = new StringBuilder();
        for (int wheel = 0; wheel < gearing.wheels; wheel++) {
            if (gearing.axleOf(wheel) == axle) {
                appendWheel(text, wheel);
            }
        }
        return text.length() == 0 ? "-" : text.toString();
    }

    // ---- what would be

    public int wouldMesh(int one, int other) throws IndexOutOfBoundsException {
        demandWheel(one);
        demandWheel(other);
        if (gearing.areOnOneAxle(one, other)) {
            return 2;
        }
        return gearing.wouldJam(one, other) ? 1 : 0;
    }

    public int wouldPoint(int axle, int turns) throws IndexOutOfBoundsException, IllegalArgumentException {
        demandAxle(axle);
        demandArgument(isWithin(turns, -MOST_TURNS, MOST_TURNS));
        return cellAt(axle, turns);
    }

    public int train(int upper, int lower, int what) throws IllegalArgumentException {
        demandArgument(isWithin(upper, 1, MOST_TRAIN_PRODUCT));
        demandArgument(isWithin(lower, 1, MOST_TRAIN_PRODUCT));
        demandArgument(isWithin(what, 0, TRAIN_ANSWERS - 1));
        search.seek(upper, lower);
        switch (what) {
            case 0: return search.pairs;
            case 1: return search.a;
            case 2: return search.b;
            case 3: return search.c;
            default: return search.d;
        }
    }

    public int best(int upper, int lower, int limit, boolean isUpper) throws IllegalArgumentException {
        demandArgument(isWithin(upper, 0, MOST_OF_BEST));
        demandArgument(isWithin(lower, 1, MOST_OF_BEST));
        demandArgument(isWithin(limit, 1, MOST_LIMIT));
        int x = nearestWhole(upper, lower);
        int y = 1;
        long gap = Math.abs(x * lower - upper);
        for (int nextY = 2; nextY <= limit; nextY++) {
            int nextX = nearestWhole(upper * nextY, lower);
            long nextGap = Math.abs(nextX * lower - upper * nextY);
            // What differs is gap / (y * lower); only a smaller one takes over, so the least y stays.
            if (nextGap * y < gap * nextY) {
                x = nextX;
                y = nextY;
                gap = nextGap;
            }
        }
        return isUpper ? x : y;
    }

    public boolean isSound() {
        return doMeshesPassAlike() && gearing.isPeriodRight() && claims.areConsistent();
    }

    public int knock() {
        refused++;
        return refused;
    }

    public long digest() {
        long d = DIGEST_START;
        for (int what = 0; what < HOUSE_ANSWERS; what++) {
            d = mixed(d, house(what));
        }
        d = mixedAxles(d);
        d = mixedWheels(d);
        d = mixed(d, period());
        for (int lump = 0; lump < LUMPS; lump++) {
            for (int what = 0; what < LUMP_ANSWERS; what++) {
                d = mixed(d, ofLump(lump, what));
            }
        }
        for (int claim = 0; claim < claims.count; claim++) {
            for (int what = 0; what < CLAIM_ANSWERS; what++) {
                d = mixed(d, ofClaim(claim, what));
            }
        }
        return mixed(d, isSound() ? 1 : 0);
    }

    // ---- helpers of the face

    private static void demandIndex(boolean holds) {
        if (!holds) {
            throw new IndexOutOfBoundsException("there is no such number");
        }
    }

    private static void demandArgument(boolean holds) {
        if (!holds) {
            throw new IllegalArgumentException("the argument is not allowed");
        }
    }

    private static void demandState(boolean holds) {
        if (!holds) {
            throw new IllegalStateException("there is no room for more");
        }
    }

    private static void demandAxle(int axle) {
        demandIndex(isWithin(axle, 0, AXLES - 1));
    }

    private void demandWheel(int wheel) {
        demandIndex(isWithin(wheel, 0, gearing.wheels - 1));
    }

    private void demandClaim(int claim) {
        demandIndex(isWithin(claim, 0, claims.count - 1));
    }

    private Fraction axleFraction(int axle, int what) {
        switch (what) {
            case 0: return gearing.rateOf(axle);
            case 1: return gearing.turnedAt(axle, turns);
            default: return gearing.turnedAt(axle, turns).withoutWhole();
        }
    }

    private Fraction passedBy(int wheel) {
        return gearing.rateOf(gearing.axleOf(wheel)).times((long) turns * gearing.teethOf(wheel), 1);
    }

    private int cellAt(int axle, int turnsThen) {
        return gearing.turnedAt(axle, turnsThen).withoutWhole().cellOf(at(cells, axle));
    }

    private void appendWheel(StringBuilder text, int wheel) {
        if (text.length() > 0) {
            text.append(',');
        }
        text.append(gearing.teethOf(wheel));
        int stars = Integer.bitCount(gearing.meshedWith(wheel));
        for (int star = 0; star < stars; star++) {
            text.append('*');
        }
    }

    private boolean doMeshesPassAlike() {
        for (int one = 0; one < gearing.wheels; one++) {
            Fraction passedByOne = passedBy(one);
            for (int other = one + 1; other < gearing.wheels; other++) {
                if (gearing.areMeshed(one, other) && !passedByOne.isOppositeOf(passedBy(other))) {
                    return false;
                }
            }
        }
        return true;
    }

    private long mixedAxles(long start) {
        long d = start;
        for (int axle = 0; axle < AXLES; axle++) {
            for (int what = 0; what < AXLE_ANSWERS; what++) {
                d = mixedFraction(d, axleFraction(axle, what));
            }
            d = mixed(d, cellAt(axle, turns));
        }
        return d;
    }

    private long mixedWheels(long start) {
        long d = start;
        for (int wheel = 0; wheel < gearing.wheels; wheel++) {
            for (int what = 0; what < WHEEL_ANSWERS; what++) {
                d = mixed(d, ofWheel(wheel, what));
            }
            d = mixedFraction(d, passedBy(wheel));
        }
        return d;
    }

    private static long mixedFraction(long d, Fraction fraction) {
        return mixed(mixed(d, fraction.upper), fraction.lower);
    }

    private static long mixed(long d, long value) {
        return d * DIGEST_FACTOR + value;
    }

    // ---- numbers and rows

    private static boolean isWithin(int value, int least, int most) {
        return value >= least && value <= most;
    }

    // Rows are read and written through these, so that no index is used untested.
    private static int at(int[] row, int index) {
        return index >= 0 && index < row.length ? row[index] : 0;
    }

    private static void put(int[] row, int index, int value) {
        if (index >= 0 && index < row.length) {
            row[index] = value;
        }
    }

    private static boolean isIn(int set, int member) {
        return (set >> member & 1) == 1;
    }

    private static long commonDivisor(long one, long other) {
        long a = one < 0 ? -one : one;
        long b = other < 0 ? -other : other;
        for (int step = 0; step < EUCLID_STEPS && b != 0; step++) {
            long rest = a % b;
            a = b;
            b = rest;
        }
        return a;
    }

    /** The whole number that is nearest to value / divisor; of two the lesser one. */
    private static int nearestWhole(int value, int divisor) {
        if (divisor <= 0) {
            return 0;
        }
        int whole = value / divisor;
        return 2 * (value % divisor) > divisor ? whole + 1 : whole;
    }

    /** A fraction with no divisor in common; its lower number is above 0, as it is made of teeth and turns. */
    private static final class Fraction {
        final long upper;
        final long lower;

        Fraction(long upper, long lower) {
            long common = commonDivisor(upper, lower);
            this.upper = common > 1 ? upper / common : upper;
            this.lower = common > 1 ? lower / common : lower;
        }

        Fraction times(long otherUpper, long otherLower) {
            return new Fraction(upper * otherUpper, lower * otherLower);
        }

        Fraction withoutWhole() {
            return lower > 0 ? new Fraction(Math.floorMod(upper, lower), lower) : this;
        }

        int cellOf(int cellCount) {
            return lower > 0 ? (int) (upper * cellCount / lower) : 0;
        }

        boolean isSameAs(Fraction other) {
            return upper == other.upper && lower == other.lower;
        }

        boolean isOppositeOf(Fraction other) {
            return upper == -other.upper && lower == other.lower;
        }

        long told(boolean isUpper) {
            return isUpper ? upper : lower;
        }
    }

    /** The wheels, their meshes, and the rates that follow from them. */
    private static final class Gearing {
        int wheels;
        private final int[] axles;
        private final int[] teeth;
        private final int[] meshSets;
        private final Fraction whole;
        private final Fraction still;
        // No fraction where no way leads. Kept, as meshes change far less often than rates are asked for.
        private final Fraction[] byCrank;
        private final Fraction[] byAnother;

        Gearing() {
            axles = new int[WHEELS];
            teeth = new int[WHEELS];
            meshSets = new int[WHEELS];
            whole = new Fraction(1, 1);
            still = new Fraction(0, 1);
            byCrank = new Fraction[AXLES];
            byAnother = new Fraction[AXLES];
            spreadRates(CRANK, byCrank);
        }

        int addWheel(int axle, int teethOfIt) {
            int number = wheels;
            put(axles, number, axle);
            put(teeth, number, teethOfIt);
            wheels++;
            return number;
        }

        int axleOf(int wheel) {
            return at(axles, wheel);
        }

        int teethOf(int wheel) {
            return at(teeth, wheel);
        }

        int meshedWith(int wheel) {
            return at(meshSets, wheel);
        }

        boolean areOnOneAxle(int one, int other) {
            return axleOf(one) == axleOf(other);
        }

        boolean areMeshed(int one, int other) {
            return isIn(meshedWith(one), other);
        }

        void join(int one, int other) {
            put(meshSets, one, meshedWith(one) | 1 << other);
            put(meshSets, other, meshedWith(other) | 1 << one);
            spreadRates(CRANK, byCrank);
        }

        void separate(int one, int other) {
            put(meshSets, one, meshedWith(one) & ~(1 << other));
            put(meshSets, other, meshedWith(other) & ~(1 << one));
            spreadRates(CRANK, byCrank);
        }

        // All ways that there are agree, so that the new mesh has to be held against one of them only.
        boolean wouldJam(int one, int other) {
            spreadRates(axleOf(one), byAnother);
            Fraction rate = rateIn(byAnother, axleOf(other));
            return rate != null && !rate.isSameAs(new Fraction(-teethOf(one), teethOf(other)));
        }

        boolean isMoved(int axle) {
            return rateIn(byCrank, axle) != null;
        }

        Fraction rateOf(int axle) {
            Fraction rate = rateIn(byCrank, axle);
            return rate == null ? still : rate;
        }

        Fraction turnedAt(int axle, int turns) {
            return rateOf(axle).times(turns, 1);
        }

        int countMeshes() {
            int ends = 0;
            for (int wheel = 0; wheel < wheels; wheel++) {
                ends += Integer.bitCount(meshedWith(wheel));
            }
            return ends / 2;
        }

        int countMoved() {
            int moved = 0;
            for (int axle = 0; axle < AXLES; axle++) {
                if (isMoved(axle)) {
                    moved++;
                }
            }
            return moved;
        }

        long turnsToReturn() {
            long fewest = 1;
            for (int axle = 0; axle < AXLES; axle++) {
                long lower = rateOf(axle).lower;
                long common = commonDivisor(fewest, lower);
                if (common > 0) {
                    fewest = fewest / common * lower;
                }
            }
            return fewest;
        }

        // RATE * PERIOD can be more than a long holds; with no divisor in common the lower number tells enough.
        boolean isPeriodRight() {
            long period = turnsToReturn();
            for (int axle = 0; axle < AXLES; axle++) {
                long lower = rateOf(axle).lower;
                if (lower > 0 && period % lower != 0) {
                    return false;
                }
            }
            return period > 0;
        }

        private void spreadRates(int from, Fraction[] rates) {
            for (int axle = 0; axle < rates.length; axle++) {
                rates[axle] = axle == from ? whole : null;
            }
            boolean hasGrown = true;
            for (int round = 0; round < AXLES && hasGrown; round++) {
                hasGrown = false;
                for (int wheel = 0; wheel < wheels; wheel++) {
                    if (meshedWith(wheel) != 0 && spreadFromWheel(wheel, rates)) {
                        hasGrown = true;
                    }
                }
            }
        }

        private boolean spreadFromWheel(int wheel, Fraction[] rates) {
            Fraction rate = rateIn(rates, axleOf(wheel));
            if (rate == null) {
                return false;
            }
            boolean hasGrown = false;
            for (int other = 0; other < wheels; other++) {
                int axle = axleOf(other);
                if (areMeshed(wheel, other) && axle >= 0 && axle < rates.length && rates[axle] == null) {
                    rates[axle] = rate.times(-teethOf(wheel), teethOf(other));
                    hasGrown = true;
                }
            }
            return hasGrown;
        }

        private static Fraction rateIn(Fraction[] rates, int axle) {
            return axle >= 0 && axle < rates.length ? rates[axle] : null;
        }
    }

    /** The pieces, lump by lump, and what follows from them; that changes with a new piece only, so it is kept. */
    private static final class Lumps {
        private final int[] pieces;
        private final int[] teeth;
        private final int[] degrees;
        private final int[] doubts;
        private final int[] agreeing;
        private final int[] least;
        private final int[] greatest;

        Lumps() {
            pieces = new int[LUMPS];
            teeth = new int[LUMPS * PIECES];
            degrees = new int[LUMPS * PIECES];
            doubts = new int[LUMPS * PIECES];
            agreeing = new int[LUMPS];
            least = new int[LUMPS];
            greatest = new int[LUMPS];
            for (int lump = 0; lump < LUMPS; lump++) {
                weigh(lump);
            }
        }

        int piecesOf(int lump) {
            return at(pieces, lump);
        }

        int agreeingOf(int lump) {
            return at(agreeing, lump);
        }

        int leastOf(int lump) {
            return at(least, lump);
        }

        int greatestOf(int lump) {
            return at(greatest, lump);
        }

        int countPieces() {
            int all = 0;
            for (int lump = 0; lump < LUMPS; lump++) {
                all += piecesOf(lump);
            }
            return all;
        }

        int addPiece(int lump, int teethSeen, int degreesAlong, int doubt) {
            int place = lump * PIECES + piecesOf(lump);
            put(teeth, place, teethSeen);
            put(degrees, place, degreesAlong);
            put(doubts, place, doubt);
            put(pieces, lump, piecesOf(lump) + 1);
            weigh(lump);
            return piecesOf(lump);
        }

        private void weigh(int lump) {
            int many = 0;
            int first = NONE;
            int last = NONE;
            for (int count = LEAST_COUNT; count <= MOST_COUNT; count++) {
                if (agreesWithAll(count, lump)) {
                    many++;
                    first = first == NONE ? count : first;
                    last = count;
                }
            }
            put(agreeing, lump, many);
            put(least, lump, first);
            put(greatest, lump, last);
        }

        private boolean agreesWithAll(int count, int lump) {
            int start = lump * PIECES;
            int end = start + piecesOf(lump);
            for (int place = start; place < end; place++) {
                int gap = Math.abs(count * at(degrees, place) - FULL_CIRCLE * at(teeth, place));
                if (gap > count * at(doubts, place)) {
                    return false;
                }
            }
            return true;
        }
    }

    /** The claims, as sets by their numbers. */
    private static final class Claims {
        int count;
        private int withdrawn;
        private final int[] near;
        // With those on which they hang in turn: a second way to the same answer, for isSound().
        private final int[] nearAndFar;

        Claims() {
            near = new int[CLAIMS];
            nearAndFar = new int[CLAIMS];
        }

        boolean isSetOfThem(int set) {
            return set >= 0 && set >> count == 0;
        }

        int addClaim(int on) {
            int number = count;
            int all = on;
            for (int ahead = 0; ahead < number; ahead++) {
                if (isIn(on, ahead)) {
                    all |= at(nearAndFar, ahead);
                }
            }
            put(near, number, on);
            put(nearAndFar, number, all);
            count++;
            return number;
        }

        void setWithdrawn(int claim, boolean is) {
            withdrawn = is ? withdrawn | 1 << claim : withdrawn & ~(1 << claim);
        }

        int hangsOn(int claim) {
            return at(near, claim);
        }

        boolean isWithdrawn(int claim) {
            return isIn(withdrawn, claim);
        }

        boolean isStanding(int claim) {
            return isIn(standingWithout(withdrawn), claim);
        }

        int countStanding() {
            return Integer.bitCount(standingWithout(withdrawn));
        }

        int fallingWith(int claim) {
            return countStanding() - Integer.bitCount(standingWithout(withdrawn | 1 << claim));
        }

        boolean areConsistent() {
            int standing = standingWithout(withdrawn);
            for (int claim = 0; claim < count; claim++) {
                boolean isFree = ((at(nearAndFar, claim) | 1 << claim) & withdrawn) == 0;
                if (isIn(standing, claim) != isFree) {
                    return false;
                }
            }
            return true;
        }

        // A claim hangs on earlier ones only, so one walk by rising numbers settles all.
        private int standingWithout(int taken) {
            int standing = 0;
            for (int claim = 0; claim < count; claim++) {
                if (!isIn(taken, claim) && (at(near, claim) & ~standing) == 0) {
                    standing |= 1 << claim;
                }
            }
            return standing;
        }
    }

    /** Looks for the train of a rate; one object serves all calls, so that a search makes no objects. */
    private static final class TrainSearch {
        int pairs;
        int a;
        int b;
        int c;
        int d;

        TrainSearch() {
            forget();
        }

        void seek(int upper, int lower) {
            forget();
            int common = (int) commonDivisor(upper, lower);
            if (common <= 0) {
                return;
            }
            int p = upper / common;
            int q = lower / common;
            seekOnePair(p, q);
            if (pairs == NONE) {
                seekTwoPairs(p, q);
            }
        }

        private void forget() {
            pairs = NONE;
            a = NONE;
            b = NONE;
            c = NONE;
            d = NONE;
        }

        private void seekOnePair(int p, int q) {
            for (int times = 1; times <= MOST_TRAIN_TEETH && pairs == NONE; times++) {
                if (isTrainWheel(times * p) && isTrainWheel(times * q)) {
                    pairs = 1;
                    a = times * p;
                    b = times * q;
                }
            }
        }

        // a * c and b * d are p and q, each as many times; for each of these products the pair with
        // the fewest teeth is one alone, but for its order.
        private void seekTwoPairs(int p, int q) {
            int greater = Math.max(p, q);
            for (int times = 1; times <= MOST_TRAIN_PRODUCT && times * greater <= MOST_TRAIN_PRODUCT; times++) {
                int nextA = lesserFactor(times * p);
                int nextB = lesserFactor(times * q);
                if (nextA > 0 && nextB > 0) {
                    offer(nextA, nextB, times * p / nextA, times * q / nextB);
                }
            }
        }

        private void offer(int nextA, int nextB, int nextC, int nextD) {
            int fewer = a + b + c + d - (nextA + nextB + nextC + nextD);
            boolean isEarlier = nextA < a
                    || nextA == a && nextB < b
                    || nextA == a && nextB == b && nextC < c;
            if (pairs == NONE || fewer > 0 || fewer == 0 && isEarlier) {
                pairs = 2;
                a = nextA;
                b = nextB;
                c = nextC;
                d = nextD;
            }
        }

        private static boolean isTrainWheel(int teethOfIt) {
            return isWithin(teethOfIt, LEAST_TRAIN_TEETH, MOST_TRAIN_TEETH);
        }

        /** The lesser one of the two wheels with that product and the fewest teeth, or NONE. */
        private static int lesserFactor(int product) {
            int found = NONE;
            for (int factor = LEAST_TRAIN_TEETH; factor <= MOST_TRAIN_TEETH && factor * factor <= product; factor++) {
                if (product % factor == 0 && product / factor <= MOST_TRAIN_TEETH) {
                    found = factor;
                }
            }
            return found;
        }
    }
}
