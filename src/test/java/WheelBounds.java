import java.util.ArrayList;
import java.util.List;

/** What section 1 of the document and promises 1 to 6 say of wheels, meshes, turns and dials. */
final class WheelBounds {
    private static final String HEAD = "1. Wheels and meshes";

    private WheelBounds() {
    }

    static void all() {
        createsAHallWithoutWheels();
        axlesAre0To6();
        wheelsAtMost12();
        allWheelsOfAnAxleTurnWithIt();
        twoWheelsOfDifferentAxles();
        waysThatWouldJam();
        anAxleIsMoved();
        wheel();
        mesh();
        part();
        turns();
        turn();
        dial();
    }

    private static void createsAHallWithoutWheels() {
        Sentence s = Sentence.of("Promise 1:", "Creates a hall without WHEELS.");
        Greenwheels x = new Greenwheels();
        int[] house = {0, 0, 1, 0, 0, 0, 0, 0, 0};
        for (int what = 0; what <= 8; what++) {
            s.is("house " + what, x.house(what), house[what]);
        }
        for (int axle = 0; axle <= 6; axle++) {
            s.is("row " + axle, x.row(axle), "-");
        }
        s.refuses("ofWheel of 0", Due.BOUNDS, Scene.NEW, y -> y.ofWheel(0, 0));
        s.is("the first number", x.wheel(6, 4), 0);
        s.is("another hall is without it", new Greenwheels().house(0), 0);
    }

    private static void axlesAre0To6() {
        Sentence s = Sentence.of(HEAD, "AXLES are 0 to 6; the AXLE 0 is the CRANK.");
        for (int axle = 0; axle <= 6; axle++) {
            Greenwheels x = Scene.FORWARD.made();
            s.is("a wheel on " + axle, x.wheel(axle, 10), 0);
            s.is("stands there", x.ofWheel(0, 0), axle);
            s.is("and in its row", x.row(axle), "10");
            s.is("turned by the crank alone " + axle, NumberBounds.fraction(x, axle, 1), axle == 0 ? "9999/1" : "0/1");
        }
    }

    private static void wheelsAtMost12() {
        Sentence s = Sentence.of(HEAD, "WHEELS: at most 12, numbered from 0, each on an AXLE, with TEETH (4 to 100).");
        for (int way = 0; way < 3; way++) {
            Greenwheels x = new Greenwheels();
            for (int k = 0; k < 12; k++) {
                int axle = way == 0 ? k % 7 : way == 1 ? 0 : 6;
                int teeth = k % 2 == 0 ? 4 : 100;
                s.is("number", x.wheel(axle, teeth), k);
                s.is("its axle", x.ofWheel(k, 0), axle);
                s.is("its teeth", x.ofWheel(k, 1), teeth);
            }
            s.is("all of them", x.house(0), 12);
            Due.refuses("a 13th", Due.STATE, () -> x.wheel(3, 50));
            Due.refuses("its number", Due.BOUNDS, () -> x.ofWheel(12, 1));
            s.is("still all of them", x.house(0), 12);
        }
    }

    private static void allWheelsOfAnAxleTurnWithIt() {
        Sentence s = Sentence.of(HEAD, "All WHEELS of an AXLE turn with it.");
        Greenwheels x = new Greenwheels();
        x.wheel(6, 25);
        for (int k = 1; k < 11; k++) {
            x.wheel(6, k == 1 ? 4 : k == 2 ? 100 : 30 + k);
        }
        x.wheel(0, 100);
        x.mesh(11, 0);
        x.turn(3);
        for (int k = 0; k < 11; k++) {
            s.is("wheel " + k, x.passed(k, true) + "/" + x.passed(k, false), -12 * x.ofWheel(k, 1) + "/1");
            s.is("wheel is moved " + k, x.ofWheel(k, 3), 1);
        }
    }

    private static void twoWheelsOfDifferentAxles() {
        Sentence s = Sentence.of(HEAD, "Two WHEELS of different AXLES can be in MESH.");
        Greenwheels most = new Greenwheels();
        for (int k = 0; k < 12; k++) {
            most.wheel(k < 6 ? 0 : 6, 20);
        }
        for (int k = 0; k < 36; k++) {
            s.is("mesh " + k, most.mesh(k / 6, 6 + k % 6), true);
            s.is("so many", most.house(1), k + 1);
        }
        s.is("the set of the first", most.ofWheel(0, 2), 4032);
        s.is("the set of the last", most.ofWheel(11, 2), 63);
        s.is("the row", most.row(6), "20******,20******,20******,20******,20******,20******");
        Greenwheels first = oneWithEleven(0);
        s.is("the first with all others", first.ofWheel(0, 2), 4094);
        s.is("one of them", first.ofWheel(11, 2), 1);
        s.is("the row of one with all others", first.row(3), "40***********");
        Greenwheels last = oneWithEleven(11);
        s.is("the last with all others", last.ofWheel(11, 2), 2047);
        s.is("one of these", last.ofWheel(0, 2), 2048);
        s.is("eleven meshes", last.house(1), 11);
        Sentence sets = Sentence.of("Description", "A set is the sum of 2^k for the number k of each.");
        sets.is("none", Scene.NEW.then(x -> x.wheel(0, 4)).made().ofWheel(0, 2), 0);
        sets.is("of eleven", last.ofWheel(11, 2), 1 + 2 + 4 + 8 + 16 + 32 + 64 + 128 + 256 + 512 + 1024);
    }

    /** The wheel of that number is on axle 3 and meshes with all others, which are on other axles. */
    private static Greenwheels oneWithEleven(int number) {
        Greenwheels x = new Greenwheels();
        int[] axles = {0, 0, 1, 1, 2, 2, 4, 4, 5, 5, 6};
        for (int k = 0, others = 0; k < 12; k++) {
            x.wheel(k == number ? 3 : axles[others++], k == number ? 40 : 20);
        }
        for (int k = 0; k < 12; k++) {
            if (k != number) {
                x.mesh(number, k);
            }
        }
        return x;
    }

    private static void waysThatWouldJam() {
        Sentence s = Sentence.of(HEAD, "If WAYS from one AXLE to another one, MOVED or not (or by other WHEELS of these AXLES),"
                + " had different RATES, they would JAM: a MESH by which any would is not made.");
        for (int crank = 0; crank <= 1; crank++) {
            String moved = crank == 0 ? "moved: " : "not moved: ";
            s.is(moved + "six axles, the same rate", ring(crank, 97, 71), true);
            s.is(moved + "six axles, as much more", ring(crank, 98, 71), false);
            s.is(moved + "six axles, one tooth", ring(crank, 97, 72), false);
            s.is(moved + "six axles, turned round", ring(crank, 71, 97), false);
        }
        Greenwheels all = new Greenwheels();
        for (int axle = 0; axle <= 6; axle++) {
            all.wheel(axle, 50);
        }
        for (int axle = 0; axle < 6; axle++) {
            s.is("a way through all axles", all.mesh(axle, axle + 1), true);
        }
        s.is("seven in a ring turn against each other", all.mesh(6, 0), false);
        s.is("three, too", all.mesh(0, 2), false);
        s.is("six do not", all.mesh(0, 5), true);
        s.is("then others still do", all.mesh(6, 4), false);
        s.is("four do not", all.mesh(6, 3), true);
        Greenwheels beside = new Greenwheels();
        int[] teeth = {4, 100, 4, 100, 100, 5, 100, 99};
        for (int k = 0; k < 8; k++) {
            beside.wheel(5 + k % 2, teeth[k]);
        }
        s.is("the first wheels of both axles", beside.mesh(0, 1), true);
        s.is("other wheels of the same rate", beside.mesh(3, 2), true);
        s.is("one and another one", beside.mesh(2, 1), true);
        s.is("other wheels of the opposite rate", beside.mesh(4, 5), false);
        s.is("other wheels, one tooth less", beside.mesh(2, 7), false);
        s.is("jams", beside.house(7), 2);
        s.is("meshes", beside.house(1), 3);
        s.is("none is moved", beside.house(2), 1);
    }

    /** Six axles from first on in a way of rate 97 / 71; whether its ends may mesh by wheels with these teeth. */
    private static boolean ring(int first, int one, int other) {
        int[] teeth = {97, 89, 83, 79, 73, 71};
        Greenwheels x = new Greenwheels();
        for (int k = 0; k < 6; k++) {
            x.wheel(first + k, teeth[k]);
        }
        for (int k = 0; k < 5; k++) {
            x.mesh(k, k + 1);
        }
        x.wheel(first, one);
        x.wheel(first + 5, other);
        Due.is("wouldMesh of the ring", x.wouldMesh(6, 7), x.wouldMesh(7, 6));
        int would = x.wouldMesh(7, 6);
        boolean is = x.mesh(7, 6);
        Due.is("wouldMesh is what mesh comes to", would, is ? 0 : 1);
        return is;
    }

    private static void anAxleIsMoved() {
        Sentence s = Sentence.of(HEAD, "An AXLE is MOVED, if a WAY leads to it from the CRANK (the CRANK is)."
                + " RATE of an AXLE that is MOVED is that by the CRANK (1 of the CRANK); of others it is 0.");
        Greenwheels x = new Greenwheels();
        for (int axle = 6; axle >= 0; axle--) {
            x.wheel(axle, 19 + axle);
        }
        s.is("the crank, without a mesh", x.ofWheel(6, 3) + " " + NumberBounds.fraction(x, 0, 0), "1 1/1");
        for (int k = 0; k < 5; k++) {
            x.mesh(k, k + 1);
            s.is("no way from the crank", x.house(2), 1);
        }
        for (int axle = 1; axle <= 6; axle++) {
            s.is("not moved " + axle, x.ofWheel(6 - axle, 3) + " " + NumberBounds.fraction(x, axle, 0), "0 0/1");
        }
        x.mesh(5, 6);
        s.is("now all are", x.house(2), 7);
        for (int axle = 1; axle <= 6; axle++) {
            String rate = (axle % 2 == 0 ? "19/" : "-19/") + (19 + axle);
            s.is("moved " + axle, x.ofWheel(6 - axle, 3) + " " + NumberBounds.fraction(x, axle, 0), "1 " + rate);
        }
        x.part(3, 4);
        s.is("a way that ends", x.house(2), 3);
        s.is("is moved up to there", x.ofWheel(4, 3) + " " + x.ofWheel(3, 3), "1 0");
        s.is("the crank is, without any wheel", new Greenwheels().house(2), 1);
    }

    private static void wheel() {
        Sentence.of("Promise 2:", "Returns its number.")
                .is("the first", Scene.NEW.made().wheel(0, 4), 0)
                .is("the seventh", Scene.SOME.made().wheel(0, 100), 6);
        Sentence axle = Sentence.of("Promise 2:", "Throws IndexOutOfBoundsException if axle is not 0 to 6");
        Sentence teeth = Sentence.of("Promise 2:", "Throws IllegalArgumentException if teeth is not 4 to 100");
        for (Scene scene : List.of(Scene.NEW, Scene.SOME)) {
            axle.range("wheel(axle, 10)", scene, 0, 6, Due.BOUNDS, (x, a) -> x.wheel(a, 10));
            teeth.range("wheel(6, teeth)", scene, 4, 100, Due.ARGUMENT, (x, t) -> x.wheel(6, t));
        }
        Sentence full = Sentence.of("Promise 2:", "Throws IllegalStateException if there are 12");
        Greenwheels x = new Greenwheels();
        for (int k = 0; k < 12; k++) {
            full.is("there is room for " + k, x.wheel(k % 7, 50), k);
        }
        full.refuses("wheel(0, 4)", Due.STATE, Scene.FULL, y -> y.wheel(0, 4));
        full.refuses("wheel(6, 100)", Due.STATE, Scene.FULL, y -> y.wheel(6, 100));
    }

    private static void mesh() {
        Sentence is = Sentence.of("Promise 3:", "Returns whether they are in MESH now; false, if that would JAM"
                + " (that is counted, nothing else changes then).");
        Greenwheels x = Scene.SOME.made();
        is.is("they are already", x.mesh(3, 2), true);
        is.is("turned round, too", x.mesh(2, 3), true);
        is.is("that is no other mesh", x.house(1), 3);
        is.is("they are now", x.mesh(0, 4), true);
        is.is("would jam", x.mesh(4, 3), false);
        is.is("jams", x.house(7), 2);
        List<String> without = new ArrayList<>(Scene.SOME.answers());
        List<String> with = new ArrayList<>(Scene.SOME.then(y -> y.mesh(3, 0)).answers());
        without.removeIf(answer -> answer.startsWith("house 7") || answer.startsWith("digest"));
        with.removeIf(answer -> answer.startsWith("house 7") || answer.startsWith("digest"));
        is.is("nothing else changes", with, without);
        Greenwheels often = Scene.SOME.made();
        for (int k = 2; k <= 400; k++) {
            is.is("jams again", often.mesh(0, 3), false);
        }
        is.is("all of these are counted", often.house(7), 400);
        Sentence such = Sentence.of("Promise 3:", "Throws IndexOutOfBoundsException if there is no such WHEEL, of both");
        noSuchWheel(such, "mesh", (y, one, other) -> y.mesh(one, other));
        Sentence axle = Sentence.of("Promise 3:", "Throws IllegalArgumentException if both are on one AXLE");
        axle.refuses("mesh(1, 2)", Due.ARGUMENT, Scene.SOME, y -> y.mesh(1, 2));
        axle.refuses("mesh(2, 1)", Due.ARGUMENT, Scene.SOME, y -> y.mesh(2, 1));
        axle.refuses("mesh(0, 0)", Due.ARGUMENT, Scene.SOME, y -> y.mesh(0, 0));
        axle.refuses("mesh(11, 11)", Due.ARGUMENT, Scene.FULL, y -> y.mesh(11, 11));
        axle.refuses("mesh(9, 10)", Due.ARGUMENT, Scene.FULL, y -> y.mesh(9, 10));
    }

    interface OfTwo {
        Object on(Greenwheels x, int one, int other);
    }

    /** The wheels next to those that there are, on both sides and on either place, with none, some and all of them. */
    static void noSuchWheel(Sentence s, String call, OfTwo act) {
        for (Scene scene : List.of(Scene.NEW, Scene.SOME, Scene.FULL)) {
            int wheels = scene == Scene.NEW ? 0 : scene == Scene.SOME ? 6 : 12;
            int last = wheels - 1;
            for (int none : new int[] {-1, wheels, Integer.MIN_VALUE, Integer.MAX_VALUE}) {
                s.refuses(call + "(" + none + ", 0)", Due.BOUNDS, scene, x -> act.on(x, none, 0));
                s.refuses(call + "(0, " + none + ")", Due.BOUNDS, scene, x -> act.on(x, 0, none));
                s.refuses(call + "(" + none + ", the same)", Due.BOUNDS, scene, x -> act.on(x, none, none));
            }
            if (wheels > 0) {
                String first = Due.answer(() -> act.on(scene.made(), last, 0));
                String second = Due.answer(() -> act.on(scene.made(), 0, last));
                s.is(call + " of the first and the last", first + second, first.startsWith("throws") ? "no" : first + first);
            }
        }
    }

    private static void part() {
        Sentence s = Sentence.of("Promise 4:", "Returns whether they were in MESH.");
        Greenwheels x = Scene.FULL.made();
        s.is("the first two", x.part(0, 1), true);
        s.is("not any more", x.part(0, 1), false);
        s.is("the last two, turned round", x.part(11, 10), true);
        s.is("not any more", x.part(10, 11), false);
        s.is("on one axle", x.part(1, 2), false);
        s.is("a wheel and itself", x.part(4, 4), false);
        s.is("that jam", x.part(0, 11), false);
        s.is("four meshes stay", x.house(1), 4);
        Greenwheels twice = Scene.NEW.then(y -> y.wheel(0, 10)).then(y -> y.wheel(1, 10)).made();
        twice.mesh(0, 1);
        twice.mesh(1, 0);
        s.is("that were put in mesh twice", twice.part(0, 1), true);
        s.is("are parted by once", twice.house(1), 0);
        noSuchWheel(Sentence.of("Promise 4:", "Throws IndexOutOfBoundsException if there is no such WHEEL, of both"), "part",
                (y, one, other) -> y.part(one, other));
    }

    private static void turns() {
        Sentence s = Sentence.of(HEAD, "TURNS: how often the CRANK was turned, forward (above 0) or back (below 0), whole ones,"
                + " 0 at first; -9999 to 9999.");
        s.is("at first", Scene.NEW.made().house(3), 0);
        s.is("forward", Scene.FORWARD.made().house(3), 9999);
        s.is("back", Scene.BACK.made().house(3), -9999);
        Greenwheels x = Scene.NEW.made();
        s.is("one forward", x.turn(1), 1);
        s.is("one back", x.turn(-1), 0);
        s.is("and back", x.turn(-1), -1);
        Sentence stay = Sentence.of(HEAD,
                "(As MESHES or WHEELS change, TURNS stay: all is as if it had been so from the beginning.)");
        Greenwheels late = Scene.BACK.made();
        late.wheel(0, 7);
        late.wheel(6, 100);
        stay.is("a wheel has turned with the crank", late.passed(0, true), -69993L);
        late.mesh(1, 0);
        stay.is("meshed behind the turns", NumberBounds.fraction(late, 6, 1), "69993/100");
        stay.is("it stands", NumberBounds.fraction(late, 6, 2), "93/100");
        late.part(0, 1);
        stay.is("parted", NumberBounds.fraction(late, 6, 1) + " " + NumberBounds.fraction(late, 6, 2), "0/1 0/1");
        stay.is("turns stay", late.house(3), -9999);
        late.mesh(0, 1);
        stay.is("meshed again", NumberBounds.fraction(late, 6, 1), "69993/100");
    }

    private static void turn() {
        Sentence then = Sentence.of("Promise 5:", "turns: how often; below 0: back");
        then.is("forward", Scene.NEW.made().turn(999), 999);
        then.is("back", Scene.NEW.made().turn(-999), -999);
        then.is("not at all", Scene.BACK.made().turn(0), -9999);
        Sentence many = Sentence.of("Promise 5:", "Throws IllegalArgumentException if turns is not -999 to 999");
        for (Scene scene : List.of(Scene.NEW, Scene.SOME)) {
            many.range("turn", scene, -999, 999, Due.ARGUMENT, (x, turns) -> x.turn(turns));
        }
        Sentence far = Sentence.of("Promise 5:", "Throws IllegalStateException if TURNS would not be -9999 to 9999");
        for (int beyond : new int[] {1, 2, 998, 999}) {
            far.refuses("forward by " + beyond, Due.STATE, Scene.FORWARD, x -> x.turn(beyond));
            far.refuses("back by " + beyond, Due.STATE, Scene.BACK, x -> x.turn(-beyond));
        }
        far.is("not beyond the end", Scene.FORWARD.made().turn(0), 9999);
        far.is("from the end back", Scene.FORWARD.made().turn(-999), 9000);
        far.is("not beyond the other end", Scene.BACK.made().turn(0), -9999);
        far.is("from the other end forward", Scene.BACK.made().turn(999), -9000);
        Scene nearEnd = Scene.FORWARD.then(x -> x.turn(-998)).named("9001 turns");
        far.refuses("one too many", Due.STATE, nearEnd, x -> x.turn(999));
        far.is("the last that are allowed", nearEnd.made().turn(998), 9999);
        Scene nearOther = Scene.BACK.then(x -> x.turn(998)).named("-9001 turns");
        far.refuses("one too many back", Due.STATE, nearOther, x -> x.turn(-999));
        far.is("the last back that are allowed", nearOther.made().turn(-998), -9999);
    }

    private static void dial() {
        Sentence first = Sentence.of(HEAD, "A DIAL of an AXLE: CELLS (2 to 240; 12 at first)");
        for (int axle = 0; axle <= 6; axle++) {
            Greenwheels x = new Greenwheels();
            first.is("at first, axle " + axle, x.dial(axle, 240), 12);
            first.is("the most " + axle, x.dial(axle, 2), 240);
            first.is("the fewest " + axle, x.dial(axle, 12), 2);
            for (int other = 0; other <= 6; other++) {
                first.is("each axle its own " + axle + " " + other, x.dial(other, 7), 12);
            }
        }
        Sentence before = Sentence.of("Promise 6:", "Returns CELLS before.");
        Greenwheels x = Scene.SOME.made();
        before.is("told once", x.dial(2, 100), 100);
        before.is("the same again", x.dial(2, 3), 100);
        before.is("then", x.dial(2, 3), 3);
        Sentence axle = Sentence.of("Promise 6:", "Throws IndexOutOfBoundsException if axle is not 0 to 6");
        Sentence cells = Sentence.of("Promise 6:", "Throws IllegalArgumentException if cells is not 2 to 240");
        for (Scene scene : List.of(Scene.NEW, Scene.FULL)) {
            axle.range("dial(axle, 12)", scene, 0, 6, Due.BOUNDS, (y, a) -> y.dial(a, 12));
            cells.range("dial(0, cells)", scene, 2, 240, Due.ARGUMENT, (y, c) -> y.dial(0, c));
            cells.range("dial(6, cells)", scene, 2, 240, Due.ARGUMENT, (y, c) -> y.dial(6, c));
        }
    }
}
