/** The longest ways with the largest numbers, turns below 0, and how fractions are told (section 1, promises 10 to 14). */
final class NumberBounds {
    private static final String HEAD = "1. Wheels and meshes";

    private NumberBounds() {
    }

    static void all() {
        aFractionIsTold();
        rateAlongTheLongestWay();
        turned();
        standsAt();
        passed();
        period();
        pointer();
    }

    static String fraction(Greenwheels x, int axle, int what) {
        return x.ofAxle(axle, what, true) + "/" + x.ofAxle(axle, what, false);
    }

    private static String passed(Greenwheels x, int wheel) {
        return x.passed(wheel, true) + "/" + x.passed(wheel, false);
    }

    private static Scene forward(int ahead, int behind) {
        return Scene.chain(ahead, behind).then(Scene.turned(1));
    }

    private static Scene back(int ahead, int behind) {
        return Scene.chain(ahead, behind).then(Scene.turned(-1));
    }

    private static void aFractionIsTold() {
        Sentence s = Sentence.of("Description", "A FRACTION is told as its upper and its lower number,"
                + " with no divisor together, the lower one above 0 (0 as 0 and 1).");
        Greenwheels x = Scene.BACK.then(y -> y.wheel(0, 96)).then(y -> y.wheel(1, 36)).then(y -> y.mesh(0, 1)).made();
        s.is("rate of 96 and 36", fraction(x, 1, 0), "-8/3");
        s.is("turned by 9999 = 3 * 3333", fraction(x, 1, 1), "26664/1");
        s.is("0", fraction(x, 1, 2), "0/1");
        s.is("passed", passed(x, 1), "959904/1");
        s.is("passed, below 0", passed(x, 0), "-959904/1");
        s.is("0 of an axle that is not moved", fraction(x, 6, 0) + fraction(x, 6, 1) + fraction(x, 6, 2), "0/10/10/1");
        x.turn(2);
        s.is("below 0 the upper one is", fraction(x, 1, 0), "-8/3");
        s.is("9997 turns back", fraction(x, 1, 1) + " " + fraction(x, 1, 2), "79976/3 2/3");
        Greenwheels still = Scene.chain(97, 89).made();
        for (int axle = 0; axle <= 6; axle++) {
            s.is("0 without turns " + axle, fraction(still, axle, 1) + " " + fraction(still, axle, 2), "0/1 0/1");
        }
        s.is("0 passed without turns", passed(still, 11), "0/1");
    }

    private static void rateAlongTheLongestWay() {
        Sentence s = Sentence.of(HEAD, "A WAY: AXLES, each one with the next one by two WHEELS in MESH."
                + " RATE of an AXLE by another one along a WAY: for each step of it the TEETH of the WHEEL on the AXLE ahead,"
                + " divided by those of the WHEEL on the next one, and turned to the opposite sign; all of these multiplied.");
        s.is("the largest upper number", fraction(Scene.chain(100, 97).made(), 6, 0), "1000000000000/832972004929");
        s.is("five steps", fraction(Scene.chain(100, 97).made(), 5, 0), "-10000000000/8587340257");
        s.is("the largest lower number", fraction(Scene.chain(99, 100).made(), 6, 0), "941480149401/1000000000000");
        s.is("the fastest", fraction(Scene.chain(100, 4).made(), 6, 0), "244140625/1");
        s.is("the slowest", fraction(Scene.chain(4, 100).made(), 6, 0), "1/244140625");
        s.is("one to one", fraction(Scene.chain(100, 100).made(), 6, 0), "1/1");
        s.is("one to minus one", fraction(Scene.chain(4, 4).made(), 5, 0), "-1/1");
        s.is("no step", fraction(Scene.chain(100, 97).made(), 0, 0), "1/1");
        s.is("one step", fraction(Scene.chain(100, 97).made(), 1, 0), "-100/97");
        Greenwheels there = Scene.NEW.made();
        there.wheel(0, 10);
        for (int axle = 1; axle <= 6; axle++) {
            there.wheel(axle, 20 + axle);
            there.mesh(axle - 1, axle);
        }
        s.is("wheels between count nothing but the sign", fraction(there, 6, 0) + " " + fraction(there, 5, 0), "5/13 -2/5");
    }

    private static void turned() {
        Sentence s = Sentence.of(HEAD, "TURNED of an AXLE: RATE * TURNS.");
        s.is("the largest", fraction(forward(100, 97).made(), 6, 1), "9999000000000000/832972004929");
        s.is("the largest back", fraction(back(100, 97).made(), 6, 1), "-9999000000000000/832972004929");
        s.is("five steps", fraction(forward(100, 97).made(), 5, 1), "-99990000000000/8587340257");
        s.is("five steps back", fraction(back(100, 97).made(), 5, 1), "99990000000000/8587340257");
        s.is("the largest lower number", fraction(back(99, 100).made(), 6, 1), "-9413860013860599/1000000000000");
        s.is("the largest whole one", fraction(forward(100, 4).made(), 6, 1), "2441162109375/1");
        s.is("the least whole one", fraction(back(100, 4).made(), 6, 1), "-2441162109375/1");
        s.is("the smallest", fraction(Scene.chain(4, 100).then(x -> x.turn(-1)).made(), 6, 1), "-1/244140625");
        s.is("the crank's", fraction(Scene.FORWARD.made(), 0, 1) + " " + fraction(Scene.BACK.made(), 0, 1), "9999/1 -9999/1");
    }

    private static void standsAt() {
        Sentence s = Sentence.of(HEAD, "It STANDS AT the part of TURNED above the greatest whole number"
                + " that is not above it (a FRACTION of 0 or more and less than 1).");
        int[] turns = {0, 1, -1, 2, -2, 3, -3, 4, -4, 5, -5, 9, -9, 10, -10, 11, -11};
        String[] of10 = {"0/1", "9/10", "1/10", "4/5", "1/5", "7/10", "3/10", "3/5", "2/5", "1/2", "1/2",
            "1/10", "9/10", "0/1", "0/1", "9/10", "1/10"};
        for (int k = 0; k < turns.length; k++) {
            int many = turns[k];
            Greenwheels x = Scene.NEW.then(y -> y.wheel(0, 10)).then(y -> y.wheel(1, 100))
                    .then(y -> y.mesh(0, 1)).then(y -> y.turn(many)).made();
            s.is("a tenth back each turn, " + many + " turns", fraction(x, 1, 2), of10[k]);
            s.is("the crank turns by whole ones, " + many, fraction(x, 0, 2), "0/1");
        }
        s.is("forward", fraction(forward(100, 97).made(), 6, 2), "4052832284/832972004929");
        s.is("back", fraction(back(100, 97).made(), 6, 2), "828919172645/832972004929");
        s.is("five steps", fraction(forward(100, 97).made(), 5, 2), "989952508/8587340257");
        s.is("five steps back", fraction(back(100, 97).made(), 5, 2), "7597387749/8587340257");
        s.is("the largest lower number", fraction(forward(99, 100).made(), 6, 2), "860013860599/1000000000000");
        s.is("the largest lower number back", fraction(back(99, 100).made(), 6, 2), "139986139401/1000000000000");
        s.is("whole ones", fraction(back(100, 4).made(), 6, 2), "0/1");
        Scene slow = Scene.chain(4, 100);
        s.is("just above 0", fraction(slow.then(x -> x.turn(1)).made(), 6, 2), "1/244140625");
        s.is("just below 1", fraction(slow.then(x -> x.turn(-1)).made(), 6, 2), "244140624/244140625");
        s.is("just below 1 forward", fraction(slow.then(x -> x.turn(1)).made(), 5, 2), "9765624/9765625");
    }

    private static void passed() {
        Sentence s = Sentence.of(HEAD, "PASSED of a WHEEL: TURNED of its AXLE, * TEETH.");
        s.is("the largest", passed(forward(100, 97).made(), 11), "9999000000000000/8587340257");
        s.is("the largest back", passed(back(100, 97).made(), 11), "-9999000000000000/8587340257");
        s.is("in mesh with it", passed(forward(100, 97).made(), 10), "-9999000000000000/8587340257");
        s.is("the largest lower number", passed(forward(99, 100).made(), 11), "9413860013860599/10000000000");
        s.is("the largest whole one", passed(forward(100, 4).made(), 11), "9764648437500/1");
        s.is("the least whole one", passed(back(100, 4).made(), 11), "-9764648437500/1");
        s.is("the smallest", passed(Scene.chain(4, 100).then(x -> x.turn(-1)).made(), 11), "-4/9765625");
        s.is("on the crank", passed(forward(100, 97).made(), 0) + " " + passed(back(4, 97).made(), 0), "999900/1 -39996/1");
        Greenwheels x = Scene.FORWARD.made();
        x.wheel(6, 100);
        s.is("not moved", passed(x, 0), "0/1");
        Greenwheels free = Scene.FORWARD.made();
        for (int axle = 0; axle < 5; axle++) {
            free.wheel(axle, 100);
            free.wheel(axle + 1, 97);
            free.mesh(2 * axle, 2 * axle + 1);
        }
        free.wheel(5, 100);
        s.is("a wheel of 100 teeth behind five steps", passed(free, 10), "-9999000000000000/8587340257");
    }

    private static void period() {
        Sentence s = Sentence.of(HEAD, "PERIOD: the fewest TURNS above 0 (they can be more than 9999)"
                + " behind which each AXLE that is MOVED would STAND AT 0.");
        s.is("the crank alone", Scene.NEW.made().period(), 1L);
        s.is("whole rates", Scene.chain(100, 4).made().period(), 1L);
        s.is("the largest", Scene.chain(99, 100).made().period(), 1000000000000L);
        s.is("of odd rates", Scene.chain(100, 97).made().period(), 832972004929L);
        s.is("does not hang on turns", back(100, 97).made().period(), 832972004929L);
        s.is("of six axles by the crank", star(new int[] {100, 99, 97, 91, 89, 83}).period(), 645529985100L);
        s.is("with divisors together", star(new int[] {100, 98, 96, 90, 75, 64}).period(), 705600L);
        s.is("with more divisors together", star(new int[] {100, 80, 50, 16, 25, 10}).period(), 400L);
        Greenwheels beyond = Scene.NEW.made();
        beyond.wheel(0, 99);
        beyond.wheel(1, 100);
        beyond.wheel(1, 99);
        beyond.wheel(2, 100);
        beyond.mesh(0, 1);
        beyond.mesh(2, 3);
        s.is("one more than 9999", beyond.period(), 10000L);
        beyond.part(2, 3);
        s.is("an axle that is not moved does not count", beyond.period(), 100L);
        for (int turns : new int[] {9900, 9900 / 2, 9900 / 3, 9900 / 5, 9900 / 11, 9899, 9901}) {
            Greenwheels x = star(new int[] {100, 99, 50, 33, 79, 20});
            s.is("before", x.period(), 9900L);
            turnTo(x, turns);
            s.is("all stand at 0 behind " + turns, areAllAt0(x), turns == 9900);
            turnTo(x, -turns);
            s.is("all stand at 0 behind as many back", areAllAt0(x), turns == 9900);
        }
    }

    /** The crank's wheel of 79 teeth drives six axles. */
    private static Greenwheels star(int[] teeth) {
        Greenwheels x = new Greenwheels();
        x.wheel(0, 79);
        for (int k = 0; k < teeth.length; k++) {
            x.wheel(k + 1, teeth[k]);
            x.mesh(0, k + 1);
        }
        return x;
    }

    private static void turnTo(Greenwheels x, int turns) {
        for (int k = 0; k < 30 && x.house(3) != turns; k++) {
            x.turn(Math.max(-999, Math.min(999, turns - x.house(3))));
        }
        Due.is("turned to", x.house(3), turns);
    }

    private static boolean areAllAt0(Greenwheels x) {
        boolean all = true;
        for (int axle = 0; axle <= 6; axle++) {
            all &= fraction(x, axle, 2).equals("0/1");
        }
        return all;
    }

    private static void pointer() {
        Sentence s = Sentence.of(HEAD, "its POINTER is in the CELL (from 0 on) that is STANDS AT * CELLS, rounded down.");
        // CELLS, TURNS, and the CELL that is due for an axle which goes 1/12 back with each turn.
        int[][] twelfths = {{12, 0, 0}, {12, 1, 11}, {12, -1, 1}, {12, 12, 0}, {12, -12, 0}, {12, 13, 11}, {12, 11, 1},
            {2, 5, 1}, {2, 6, 1}, {2, 7, 0}, {2, -5, 0}, {2, -6, 1}, {2, -7, 1}, {240, 1, 220}, {240, -1, 20},
            {239, 1, 219}, {239, -1, 19}, {11, -1, 0}, {13, -1, 1}, {11, 1, 10}, {24, -1, 2}, {23, -1, 1}, {25, -1, 2}};
        for (int[] row : twelfths) {
            Greenwheels x = Scene.NEW.then(y -> y.wheel(0, 8)).then(y -> y.wheel(6, 96)).then(y -> y.mesh(0, 1)).made();
            x.dial(6, row[0]);
            String told = row[0] + " cells, " + row[1] + " turns";
            s.is(told + ", would", x.wouldPoint(6, row[1]), row[2]);
            x.turn(row[1]);
            s.is(told, x.pointer(6), row[2]);
            s.is("the crank's stays in the first", x.pointer(0), 0);
        }
        Greenwheels slow = Scene.chain(4, 100).then(x -> x.dial(6, 240)).then(x -> x.turn(-1)).made();
        s.is("just below 1 is the last cell", slow.pointer(6), 239);
        s.is("just above 0 is the first one", slow.wouldPoint(6, 1), 0);
        slow.dial(6, 2);
        s.is("the last one of 2", slow.pointer(6), 1);
        s.is("still the last one", slow.wouldPoint(6, -9999), 1);
        // The cells of axle 6 for 9999, -9999, 1 and -1 turns, of 240 and of 12.
        longWay(s, 100, 97, new int[] {1, 238, 48, 191}, new int[] {0, 11, 2, 9});
        longWay(s, 99, 100, new int[] {206, 33, 225, 14}, new int[] {10, 1, 11, 0});
        longWay(s, 99, 97, new int[] {127, 112, 31, 208}, new int[] {6, 5, 1, 10});
        longWay(s, 100, 4, new int[] {0, 0, 0, 0}, new int[] {0, 0, 0, 0});
        s.is("not moved", Scene.FORWARD.made().pointer(6), 0);
    }

    private static void longWay(Sentence s, int ahead, int behind, int[] of240, int[] of12) {
        int[] turns = {9999, -9999, 1, -1};
        for (int k = 0; k < turns.length; k++) {
            Greenwheels x = Scene.chain(ahead, behind).made();
            turnTo(x, turns[k]);
            s.is(ahead + " to " + behind + ", " + turns[k] + " turns, of 12", x.pointer(6), of12[k]);
            x.dial(6, 240);
            s.is(ahead + " to " + behind + ", " + turns[k] + " turns, of 240", x.pointer(6), of240[k]);
            s.is("would", x.wouldPoint(6, turns[k]), of240[k]);
        }
    }
}
