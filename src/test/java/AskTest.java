/** Promises 10 to 14 and 17 to 20: ofAxle, ofWheel, passed, period, pointer, house, row, wouldMesh, wouldPoint. */
public final class AskTest {
    public static void main(String[] args) {
        ofAxle();
        ofWheel();
        passed();
        period();
        longWays();
        pointer();
        house();
        row();
        wouldMesh();
        wouldPoint();
        Due.end();
    }

    /** The crank's 24 drives 36 (axle 1), whose axle's 10 drives 25 (axle 2); axles 3 and 4 mesh apart from it. */
    private static Greenwheels device() {
        Greenwheels x = new Greenwheels();
        x.wheel(0, 24);
        x.wheel(1, 36);
        x.wheel(1, 10);
        x.wheel(2, 25);
        x.wheel(3, 20);
        x.wheel(4, 30);
        x.mesh(0, 1);
        x.mesh(2, 3);
        x.mesh(4, 5);
        return x;
    }

    private static void ofAxle() {
        Greenwheels x = device();
        Due.refuses("10: axle -1", Due.BOUNDS, () -> x.ofAxle(-1, 0, true));
        Due.refuses("10: axle 7", Due.BOUNDS, () -> x.ofAxle(7, 0, true));
        Due.refuses("10: axle first", Due.BOUNDS, () -> x.ofAxle(7, 3, true));
        Due.refuses("10: what 3", Due.ARGUMENT, () -> x.ofAxle(0, 3, true));
        Due.refuses("10: what -1", Due.ARGUMENT, () -> x.ofAxle(0, -1, false));
        Due.is("10: still", axles(x), "1/1 0/1 0/1 | -2/3 0/1 0/1 | 4/15 0/1 0/1 | 0/1 0/1 0/1");
        x.turn(4);
        Due.is("10: forward", axles(x), "1/1 4/1 0/1 | -2/3 -8/3 1/3 | 4/15 16/15 1/15 | 0/1 0/1 0/1");
        x.turn(-9);
        Due.is("10: back", axles(x), "1/1 -5/1 0/1 | -2/3 10/3 1/3 | 4/15 -4/3 2/3 | 0/1 0/1 0/1");
        x.turn(20);
        Due.is("10: whole", axles(x), "1/1 15/1 0/1 | -2/3 -10/1 0/1 | 4/15 4/1 0/1 | 0/1 0/1 0/1");
        x.part(0, 1);
        Due.is("10: parted", axles(x), "1/1 15/1 0/1 | 0/1 0/1 0/1 | 0/1 0/1 0/1 | 0/1 0/1 0/1");
        x.wheel(3, 5);
        x.mesh(6, 0);
        Due.is("10: as if from the beginning", fraction(x, 3, 1), "-72/1");
        Due.is("10: and what it drives", fraction(x, 4, 1), "48/1");
    }

    private static void ofWheel() {
        Greenwheels x = device();
        Due.refuses("11: -1", Due.BOUNDS, () -> x.ofWheel(-1, 0));
        Due.refuses("11: 6", Due.BOUNDS, () -> x.ofWheel(6, 0));
        Due.refuses("11: wheel first", Due.BOUNDS, () -> x.ofWheel(6, 4));
        Due.refuses("11: what 4", Due.ARGUMENT, () -> x.ofWheel(0, 4));
        Due.refuses("11: what -1", Due.ARGUMENT, () -> x.ofWheel(0, -1));
        x.wheel(5, 48);
        x.mesh(6, 0);
        String[] due = {"0 24 66 1", "1 36 1 1", "1 10 8 1", "2 25 4 1", "3 20 32 0", "4 30 16 0", "5 48 1 1"};
        for (int wheel = 0; wheel < due.length; wheel++) {
            String got = "" + x.ofWheel(wheel, 0);
            for (int what = 1; what <= 3; what++) {
                got += " " + x.ofWheel(wheel, what);
            }
            Due.is("11: wheel " + wheel, got, due[wheel]);
        }
        Greenwheels y = new Greenwheels();
        Due.refuses("11: none", Due.BOUNDS, () -> y.ofWheel(0, 0));
        y.wheel(0, 9);
        y.wheel(1, 9);
        Due.is("11: a wheel of the crank is moved", y.ofWheel(0, 3), 1);
        Due.is("11: another one is not", y.ofWheel(1, 3), 0);
    }

    private static void passed() {
        Greenwheels x = device();
        Due.refuses("12: -1", Due.BOUNDS, () -> x.passed(-1, true));
        Due.refuses("12: 6", Due.BOUNDS, () -> x.passed(6, true));
        String[] still = {"0/1", "0/1", "0/1", "0/1", "0/1", "0/1"};
        passedIs(x, still);
        x.turn(4);
        passedIs(x, new String[] {"96/1", "-96/1", "-80/3", "80/3", "0/1", "0/1"});
        x.turn(-5);
        passedIs(x, new String[] {"-24/1", "24/1", "20/3", "-20/3", "0/1", "0/1"});
    }

    private static void passedIs(Greenwheels x, String[] due) {
        for (int wheel = 0; wheel < due.length; wheel++) {
            Due.is("12: wheel " + wheel, x.passed(wheel, true) + "/" + x.passed(wheel, false), due[wheel]);
        }
    }

    private static void period() {
        Greenwheels x = device();
        Due.is("13: of 3 and 15", x.period(), 15L);
        x.wheel(3, 96);
        x.mesh(0, 6);
        Due.is("13: and 4, and 8 behind it", x.period(), 60L);
        x.turn(7);
        Due.is("13: does not hang on turns", x.period(), 60L);
        x.part(0, 1);
        Due.is("13: those not moved do not count", x.period(), 12L);
        x.part(0, 6);
        Due.is("13: the crank alone", x.period(), 1L);
    }

    /** Six steps with the greatest numbers: periods beyond 9999 turns, and nothing that wraps around. */
    private static void longWays() {
        Greenwheels slow = chain(4, 100);
        Due.is("10: slow", fraction(slow, 6, 0), "1/244140625");
        Due.is("13: slow", slow.period(), 244140625L);
        Due.is("23: slow", slow.isSound(), true);
        Greenwheels fast = chain(100, 4);
        fast.turn(-999);
        Due.is("10: fast", fraction(fast, 6, 1), "-243896484375/1");
        Due.is("12: fast", fast.passed(11, true), -975585937500L);
        Due.is("13: fast", fast.period(), 1L);
        Greenwheels odd = chain(99, 97);
        for (int k = 0; k < 10; k++) {
            odd.turn(999);
        }
        odd.turn(9);
        Due.is("10: odd rate", fraction(odd, 6, 0), "941480149401/832972004929");
        Due.is("10: odd turned", fraction(odd, 6, 1), "9413860013860599/832972004929");
        Due.is("12: odd", odd.passed(11, true) + "/" + odd.passed(11, false), "9413860013860599/8587340257");
        Due.is("13: odd", odd.period(), 832972004929L);
        Due.is("23: odd", odd.isSound(), true);
        odd.dial(6, 240);
        long rest = Math.floorMod(9413860013860599L, 832972004929L);
        Due.is("14: odd", odd.pointer(6), (int) (rest * 240 / 832972004929L));
    }

    private static Greenwheels chain(int ahead, int behind) {
        Greenwheels x = new Greenwheels();
        for (int step = 0; step < 6; step++) {
            x.wheel(step, ahead);
            x.wheel(step + 1, behind);
            Due.is("3: chain", x.mesh(2 * step, 2 * step + 1), true);
        }
        return x;
    }

    private static void pointer() {
        Greenwheels x = device();
        Due.refuses("14: -1", Due.BOUNDS, () -> x.pointer(-1));
        Due.refuses("14: 7", Due.BOUNDS, () -> x.pointer(7));
        Due.is("14: at first", x.pointer(1), 0);
        x.turn(1);
        Due.is("14: the crank", x.pointer(0), 0);
        Due.is("14: 1/3 of 12", x.pointer(1), 4);
        Due.is("14: 4/15 of 12, rounded down", x.pointer(2), 3);
        x.dial(2, 240);
        Due.is("14: 4/15 of 240", x.pointer(2), 64);
        x.dial(2, 2);
        x.turn(2);
        Due.is("14: 12/15 of 2", x.pointer(2), 1);
        Due.is("14: not moved", x.pointer(3), 0);
        x.turn(-4);
        Due.is("14: back, 11/15 of 2", x.pointer(2), 1);
        Due.is("14: back, 2/3 of 12", x.pointer(1), 8);
    }

    private static void house() {
        Greenwheels x = device();
        Due.refuses("17: -1", Due.ARGUMENT, () -> x.house(-1));
        Due.refuses("17: 9", Due.ARGUMENT, () -> x.house(9));
        x.wheel(2, 7);
        x.mesh(0, 6);
        x.turn(-8);
        x.claim(0);
        x.claim(1);
        x.claim(0);
        x.claim(0);
        x.claim(0);
        x.withdraw(0, true);
        x.piece(0, 1, 1, 0);
        x.piece(3, 1, 1, 0);
        x.piece(5, 1, 1, 0);
        x.piece(5, 1, 1, 0);
        x.knock();
        x.knock();
        int[] due = {7, 3, 3, -8, 5, 3, 4, 1, 2};
        for (int what = 0; what <= 8; what++) {
            Due.is("17: " + what, x.house(what), due[what]);
        }
        x.mesh(4, 0);
        Due.is("17: all moved", x.house(2), 5);
        Due.is("17: four meshes", x.house(1), 4);
    }

    private static void row() {
        Greenwheels x = device();
        Due.refuses("18: -1", Due.BOUNDS, () -> x.row(-1));
        Due.refuses("18: 7", Due.BOUNDS, () -> x.row(7));
        x.wheel(5, 48);
        x.wheel(1, 100);
        x.wheel(6, 4);
        x.mesh(0, 6);
        String[] due = {"24**", "36*,10*,100", "25*", "20*", "30*", "48*", "4"};
        for (int axle = 0; axle <= 6; axle++) {
            Due.is("18: " + axle, x.row(axle), due[axle]);
        }
        x.part(0, 1);
        Due.is("18: parted", x.row(0), "24*");
        Due.is("18: parted", x.row(1), "36,10*,100");
        Due.is("18: none", new Greenwheels().row(0), "-");
    }

    private static void wouldMesh() {
        Greenwheels x = device();
        Due.refuses("19: one", Due.BOUNDS, () -> x.wouldMesh(6, 0));
        Due.refuses("19: other", Due.BOUNDS, () -> x.wouldMesh(0, 6));
        Due.refuses("19: below", Due.BOUNDS, () -> x.wouldMesh(-1, 0));
        Due.refuses("19: other below", Due.BOUNDS, () -> x.wouldMesh(0, -1));
        Due.is("19: is", x.wouldMesh(1, 0), 0);
        Due.is("19: would", x.wouldMesh(0, 4), 0);
        Due.is("19: jams", x.wouldMesh(0, 3), 1);
        Due.is("19: one axle", x.wouldMesh(2, 1), 2);
        Due.is("19: the same", x.wouldMesh(0, 0), 2);
        Due.is("19: changes nothing", x.house(1), 3);
        Due.is("19: is not counted", x.house(7), 0);
        Due.is("19: rates stay", fraction(x, 2, 0), "4/15");
        x.mesh(3, 5);
        Due.is("19: now it would jam", x.wouldMesh(0, 4), 1);
    }

    private static void wouldPoint() {
        Greenwheels x = device();
        Due.refuses("20: axle -1", Due.BOUNDS, () -> x.wouldPoint(-1, 0));
        Due.refuses("20: axle 7", Due.BOUNDS, () -> x.wouldPoint(7, 0));
        Due.refuses("20: axle first", Due.BOUNDS, () -> x.wouldPoint(7, 10000));
        Due.refuses("20: 10000", Due.ARGUMENT, () -> x.wouldPoint(0, 10000));
        Due.refuses("20: -10000", Due.ARGUMENT, () -> x.wouldPoint(0, -10000));
        x.turn(2);
        Due.is("20: at 1", x.wouldPoint(1, 1), 4);
        Due.is("20: at -1", x.wouldPoint(1, -1), 8);
        Due.is("20: at 0", x.wouldPoint(1, 0), 0);
        Due.is("20: at 9999", x.wouldPoint(2, 9999), 4);
        Due.is("20: at -9999", x.wouldPoint(2, -9999), 7);
        x.dial(2, 100);
        Due.is("20: at 9999 of 100", x.wouldPoint(2, 9999), 40);
        Due.is("20: not moved", x.wouldPoint(4, 5), 0);
        Due.is("20: changes nothing", x.house(3), 2);
    }

    private static String axles(Greenwheels x) {
        String text = "";
        for (int axle = 0; axle <= 3; axle++) {
            text += (axle == 0 ? "" : " | ") + fraction(x, axle, 0) + " " + fraction(x, axle, 1)
                    + " " + fraction(x, axle, 2);
        }
        return text;
    }

    private static String fraction(Greenwheels x, int axle, int what) {
        return x.ofAxle(axle, what, true) + "/" + x.ofAxle(axle, what, false);
    }
}
