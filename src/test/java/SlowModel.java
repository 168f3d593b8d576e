import java.math.BigInteger;
import java.util.ArrayList;
import java.util.List;

/** The document taken by its words, without a thought for speed: what ModelTest compares Greenwheels with. */
final class SlowModel {
    private record Wheel(int axle, int teeth) {
    }

    private record Piece(int lump, int teeth, int degrees, int doubt) {
    }

    record Rational(BigInteger upper, BigInteger lower) {
        static Rational of(long upper, long lower) {
            return new Rational(BigInteger.valueOf(upper), BigInteger.valueOf(lower)).reduced();
        }

        Rational times(Rational o) {
            return new Rational(upper.multiply(o.upper), lower.multiply(o.lower)).reduced();
        }

        BigInteger floor() {
            BigInteger[] parts = upper.divideAndRemainder(lower);
            return parts[1].signum() < 0 ? parts[0].subtract(BigInteger.ONE) : parts[0];
        }

        Rational withoutWhole() {
            return new Rational(upper.subtract(floor().multiply(lower)), lower).reduced();
        }

        private Rational reduced() {
            BigInteger common = upper.gcd(lower);
            BigInteger signed = lower.signum() < 0 ? common.negate() : common;
            return new Rational(upper.divide(signed), lower.divide(signed));
        }

        long told(boolean isUpper) {
            return (isUpper ? upper : lower).longValueExact();
        }
    }

    private final List<Wheel> wheels = new ArrayList<>();
    private final boolean[][] meshes = new boolean[12][12];
    private final int[] cells = {12, 12, 12, 12, 12, 12, 12};
    private final List<Piece> pieces = new ArrayList<>();
    private final List<Integer> claims = new ArrayList<>();
    private final boolean[] withdrawn = new boolean[12];
    private int turns;
    private int jams;
    private int refused;

    // ---- ways

    /** All rates along all ways without an axle twice; whether one to `to` differs is what JAM asks. */
    private void ways(int from, int to, Rational rate, boolean[] been, List<Rational> found) {
        if (from == to) {
            if (!found.contains(rate)) {
                found.add(rate);
            }
            return;
        }
        been[from] = true;
        for (int one = 0; one < wheels.size(); one++) {
            for (int other = 0; wheels.get(one).axle == from && other < wheels.size(); other++) {
                int next = wheels.get(other).axle;
                if (meshes[one][other] && !been[next]) {
                    ways(next, to, rate.times(Rational.of(-wheels.get(one).teeth, wheels.get(other).teeth)), been, found);
                }
            }
        }
        been[from] = false;
    }

    private List<Rational> ways(int from, int to) {
        List<Rational> found = new ArrayList<>();
        ways(from, to, Rational.of(1, 1), new boolean[7], found);
        return found;
    }

    private boolean isJammed() {
        for (int from = 0; from < 7; from++) {
            for (int to = 0; to < 7; to++) {
                if (ways(from, to).size() > 1) {
                    return true;
                }
            }
        }
        return false;
    }

    private boolean isMoved(int axle) {
        return !ways(0, axle).isEmpty();
    }

    private Rational rate(int axle) {
        List<Rational> found = ways(0, axle);
        return found.isEmpty() ? Rational.of(0, 1) : found.get(0);
    }

    private Rational turned(int axle, int turnsThen) {
        return rate(axle).times(Rational.of(turnsThen, 1));
    }

    private Rational passed(int wheel) {
        return turned(wheels.get(wheel).axle, turns).times(Rational.of(wheels.get(wheel).teeth, 1));
    }

    private int cell(int axle, int turnsThen) {
        return turned(axle, turnsThen).withoutWhole().times(Rational.of(cells[axle], 1)).floor().intValueExact();
    }

    // ---- the face

    private static void bounds(boolean holds) {
        if (!holds) {
            throw new IndexOutOfBoundsException();
        }
    }

    private static void argument(boolean holds) {
        if (!holds) {
            throw new IllegalArgumentException();
        }
    }

    private static void state(boolean holds) {
        if (!holds) {
            throw new IllegalStateException();
        }
    }

    private static boolean in(int value, int least, int most) {
        return least <= value && value <= most;
    }

    private void twoWheels(int one, int other) {
        bounds(in(one, 0, wheels.size() - 1) && in(other, 0, wheels.size() - 1));
    }

    int wheel(int axle, int teeth) {
        bounds(in(axle, 0, 6));
        argument(in(teeth, 4, 100));
        state(wheels.size() < 12);
        wheels.add(new Wheel(axle, teeth));
        return wheels.size() - 1;
    }

    boolean mesh(int one, int other) {
        twoWheels(one, other);
        argument(wheels.get(one).axle != wheels.get(other).axle);
        if (wouldMesh(one, other) == 1) {
            jams++;
            return false;
        }
        set(one, other, true);
        return true;
    }

    private void set(int one, int other, boolean is) {
        meshes[one][other] = is;
        meshes[other][one] = is;
    }

    boolean part(int one, int other) {
        twoWheels(one, other);
        boolean were = meshes[one][other];
        set(one, other, false);
        return were;
    }

    int turn(int more) {
        argument(in(more, -999, 999));
        state(in(turns + more, -9999, 9999));
        turns += more;
        return turns;
    }

    int dial(int axle, int many) {
        bounds(in(axle, 0, 6));
        argument(in(many, 2, 240));
        int before = cells[axle];
        cells[axle] = many;
        return before;
    }

    int piece(int lump, int teeth, int degrees, int doubt) {
        bounds(in(lump, 0, 5));
        argument(in(teeth, 1, 100) && in(degrees, 1, 360) && in(doubt, 0, 90));
        state(piecesOf(lump).size() < 6);
        pieces.add(new Piece(lump, teeth, degrees, doubt));
        return piecesOf(lump).size();
    }

    private List<Piece> piecesOf(int lump) {
        return pieces.stream().filter(p -> p.lump == lump).toList();
    }

    int claim(int on) {
        argument(on >= 0 && on < Math.pow(2, claims.size()));
        state(claims.size() < 12);
        claims.add(on);
        return claims.size() - 1;
    }

    int withdraw(int claim, boolean is) {
        bounds(in(claim, 0, claims.size() - 1));
        withdrawn[claim] = is;
        return house(5);
    }

    private boolean stands(int claim) {
        if (withdrawn[claim]) {
            return false;
        }
        for (int ahead = 0; ahead < claim; ahead++) {
            if ((claims.get(claim) & 1 << ahead) != 0 && !stands(ahead)) {
                return false;
            }
        }
        return true;
    }

    long ofAxle(int axle, int what, boolean isUpper) {
        bounds(in(axle, 0, 6));
        argument(in(what, 0, 2));
        Rational told = what == 0 ? rate(axle) : what == 1 ? turned(axle, turns) : turned(axle, turns).withoutWhole();
        return told.told(isUpper);
    }

    int ofWheel(int wheel, int what) {
        bounds(in(wheel, 0, wheels.size() - 1));
        argument(in(what, 0, 3));
        int set = 0;
        for (int other = 0; other < 12; other++) {
            set += meshes[wheel][other] ? 1 << other : 0;
        }
        int axle = wheels.get(wheel).axle;
        return new int[] {axle, wheels.get(wheel).teeth, set, isMoved(axle) ? 1 : 0}[what];
    }

    long passed(int wheel, boolean isUpper) {
        bounds(in(wheel, 0, wheels.size() - 1));
        return passed(wheel).told(isUpper);
    }

    long period() {
        BigInteger fewest = BigInteger.ONE;
        for (int axle = 0; axle < 7; axle++) {
            BigInteger lower = rate(axle).lower;
            fewest = fewest.multiply(lower).divide(fewest.gcd(lower));
        }
        return fewest.longValueExact();
    }

    int pointer(int axle) {
        bounds(in(axle, 0, 6));
        return cell(axle, turns);
    }

    int ofLump(int lump, int what) {
        bounds(in(lump, 0, 5));
        argument(in(what, 0, 3));
        List<Piece> own = piecesOf(lump);
        List<Integer> agreeing = new ArrayList<>();
        for (int count = 4; count <= 240; count++) {
            boolean agrees = true;
            for (Piece p : own) {
                agrees &= Math.abs(count * p.degrees - 360 * p.teeth) <= count * p.doubt;
            }
            if (agrees) {
                agreeing.add(count);
            }
        }
        int least = agreeing.isEmpty() ? -1 : agreeing.get(0);
        int greatest = agreeing.isEmpty() ? -1 : agreeing.get(agreeing.size() - 1);
        return new int[] {own.size(), agreeing.size(), least, greatest}[what];
    }

    int ofClaim(int claim, int what) {
        bounds(in(claim, 0, claims.size() - 1));
        argument(in(what, 0, 3));
        if (what == 3) {
            boolean is = withdrawn[claim];
            int before = house(5);
            int then = withdraw(claim, true);
            withdrawn[claim] = is;
            return before - then;
        }
        return what == 0 ? claims.get(claim) : (what == 1 ? withdrawn[claim] : stands(claim)) ? 1 : 0;
    }

    int house(int what) {
        argument(in(what, 0, 8));
        int meshed = 0;
        for (int one = 0; one < 12; one++) {
            for (int other = 0; other < one; other++) {
                meshed += meshes[one][other] ? 1 : 0;
            }
        }
        int moved = 0;
        for (int axle = 0; axle < 7; axle++) {
            moved += isMoved(axle) ? 1 : 0;
        }
        int standing = 0;
        for (int claim = 0; claim < claims.size(); claim++) {
            standing += stands(claim) ? 1 : 0;
        }
        return new int[] {wheels.size(), meshed, moved, turns, claims.size(), standing, pieces.size(), jams, refused}[what];
    }

    String row(int axle) {
        bounds(in(axle, 0, 6));
        List<String> parts = new ArrayList<>();
        for (int wheel = 0; wheel < wheels.size(); wheel++) {
            if (wheels.get(wheel).axle == axle) {
                parts.add(wheels.get(wheel).teeth + "*".repeat(Integer.bitCount(ofWheel(wheel, 2))));
            }
        }
        return parts.isEmpty() ? "-" : String.join(",", parts);
    }

    int wouldMesh(int one, int other) {
        twoWheels(one, other);
        if (wheels.get(one).axle == wheels.get(other).axle) {
            return 2;
        }
        if (meshes[one][other]) {
            return 0;
        }
        set(one, other, true);
        boolean jams = isJammed();
        set(one, other, false);
        return jams ? 1 : 0;
    }

    int wouldPoint(int axle, int turnsThen) {
        bounds(in(axle, 0, 6));
        argument(in(turnsThen, -9999, 9999));
        return cell(axle, turnsThen);
    }

    int train(int upper, int lower, int what) {
        argument(in(upper, 1, 3600) && in(lower, 1, 3600) && in(what, 0, 4));
        return Integer.parseInt(SearchTest.slowTrain(upper, lower).split(" ")[what]);
    }

    int best(int upper, int lower, int limit, boolean isUpper) {
        argument(in(upper, 0, 9999) && in(lower, 1, 9999) && in(limit, 1, 300));
        return Integer.parseInt(SearchTest.slowBest(upper, lower, limit).split("/")[isUpper ? 0 : 1]);
    }

    /** By the rules above nothing can make it unsound. */
    boolean isSound() {
        return true;
    }

    int knock() {
        return ++refused;
    }
}
