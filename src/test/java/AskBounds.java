import java.util.List;

/** The bounds of promises 10 to 14 and 17 to 20: what is asked of axles, wheels and the house, and what would be. */
final class AskBounds {
    private static final List<Scene> SCENES = List.of(Scene.NEW, Scene.SOME, Scene.FULL);
    private static final String NO_AXLE = "Throws IndexOutOfBoundsException if axle is not 0 to 6";
    private static final String NO_WHEEL = "Throws IndexOutOfBoundsException if there is no such WHEEL";

    private AskBounds() {
    }

    static void all() {
        ofAxle();
        ofWheel();
        passed();
        pointer();
        house();
        row();
        wouldMesh();
        wouldPoint();
    }

    private static void ofAxle() {
        Sentence axle = Sentence.of("Promise 10:", NO_AXLE);
        Sentence what = Sentence.of("Promise 10:", "Throws IllegalArgumentException if what is not 0 to 2");
        for (Scene scene : SCENES) {
            axle.range("ofAxle(axle, 0, true)", scene, 0, 6, Due.BOUNDS, (x, a) -> x.ofAxle(a, 0, true));
            axle.range("ofAxle(axle, 2, false)", scene, 0, 6, Due.BOUNDS, (x, a) -> x.ofAxle(a, 2, false));
            what.range("ofAxle(0, what, true)", scene, 0, 2, Due.ARGUMENT, (x, w) -> x.ofAxle(0, w, true));
            what.range("ofAxle(6, what, false)", scene, 0, 2, Due.ARGUMENT, (x, w) -> x.ofAxle(6, w, false));
        }
    }

    /** The wheels next to those that there are, on both sides, with none, some and all of them. */
    private static void noSuchWheel(Sentence s, String call, Sentence.NumberAct act) {
        for (int none : new int[] {0, 1, 11, -1, Integer.MIN_VALUE, Integer.MAX_VALUE}) {
            s.refuses(call + " of " + none, Due.BOUNDS, Scene.NEW, x -> act.on(x, none));
        }
        s.range(call, Scene.SOME, 0, 5, Due.BOUNDS, act);
        s.range(call, Scene.FULL, 0, 11, Due.BOUNDS, act);
    }

    private static void ofWheel() {
        Sentence s = Sentence.of("Promise 11:", "2 the set of WHEELS with which it is in MESH, 3 1 if its AXLE is MOVED,"
                + " otherwise 0");
        Greenwheels x = Scene.FULL.made();
        s.is("the first wheel's", x.ofWheel(0, 2) + " " + x.ofWheel(0, 3), "2 1");
        s.is("the last one's", x.ofWheel(11, 2) + " " + x.ofWheel(11, 3), "1024 1");
        x.part(0, 1);
        s.is("without a mesh", x.ofWheel(0, 2) + " " + x.ofWheel(0, 3), "0 1");
        s.is("without a way", x.ofWheel(11, 2) + " " + x.ofWheel(11, 3), "1024 0");
        noSuchWheel(Sentence.of("Promise 11:", NO_WHEEL), "ofWheel", (y, wheel) -> y.ofWheel(wheel, 0));
        Sentence what = Sentence.of("Promise 11:", "Throws IllegalArgumentException if what is not 0 to 3");
        what.range("ofWheel(0, what)", Scene.SOME, 0, 3, Due.ARGUMENT, (y, w) -> y.ofWheel(0, w));
        what.range("ofWheel(11, what)", Scene.FULL, 0, 3, Due.ARGUMENT, (y, w) -> y.ofWheel(11, w));
    }

    private static void passed() {
        Sentence s = Sentence.of("Promise 12:", NO_WHEEL);
        noSuchWheel(s, "passed upper", (y, wheel) -> y.passed(wheel, true));
        noSuchWheel(s, "passed lower", (y, wheel) -> y.passed(wheel, false));
    }

    private static void pointer() {
        Sentence axle = Sentence.of("Promise 14:", NO_AXLE);
        for (Scene scene : SCENES) {
            axle.range("pointer", scene, 0, 6, Due.BOUNDS, (x, a) -> x.pointer(a));
        }
    }

    private static void house() {
        Sentence s = Sentence.of("Promise 17:", "0 WHEELS, 1 MESHES, 2 AXLES that are MOVED, 3 TURNS, 4 CLAIMS,"
                + " 5 those that STAND, 6 PIECES of all LUMPS, 7 how many MESHES were not made, as that would JAM, ever,"
                + " 8 how many were REFUSED");
        int[] none = {0, 0, 1, 0, 0, 0, 0, 0, 0};
        int[] full = {12, 6, 7, 9999, 12, 7, 36, 1, 1};
        for (int what = 0; what <= 8; what++) {
            s.is("of a new object " + what, Scene.NEW.made().house(what), none[what]);
            s.is("of all that there can be " + what, Scene.FULL.made().house(what), full[what]);
        }
        s.is("turns below 0", Scene.BACK.made().house(3), -9999);
        Greenwheels x = Scene.FULL.made();
        for (int wheel = 0; wheel < 12; wheel += 2) {
            x.part(wheel, wheel + 1);
        }
        s.is("no mesh any more", x.house(1), 0);
        s.is("the crank alone is moved", x.house(2), 1);
        s.is("what would have jammed stays counted", x.house(7), 1);
        s.is("now that meshes", x.mesh(0, 11), true);
        s.is("stays counted, ever", x.house(7), 1);
        x.withdraw(0, true);
        s.is("no claim stands", x.house(5), 0);
        Sentence what = Sentence.of("Promise 17:", "Throws IllegalArgumentException if what is not 0 to 8");
        for (Scene scene : SCENES) {
            what.range("house", scene, 0, 8, Due.ARGUMENT, (y, w) -> y.house(w));
        }
    }

    private static void row() {
        Sentence s = Sentence.of("Promise 18:", "Returns its row: WHEEL by WHEEL on it its TEETH, and behind that \"*\" for"
                + " each WHEEL with which it is in MESH; with \",\" between these WHEELS; \"-\" without WHEELS.");
        for (int axle = 0; axle <= 6; axle++) {
            s.is("without wheels " + axle, Scene.NEW.made().row(axle), "-");
            Greenwheels x = Scene.NEW.made();
            x.wheel(axle, 4);
            s.is("one wheel", x.row(axle), "4");
            x.wheel(axle, 100);
            s.is("two wheels", x.row(axle), "4,100");
            x.wheel((axle + 1) % 7, 50);
            x.mesh(2, 1);
            s.is("the last one in mesh", x.row(axle), "4,100*");
            x.wheel(axle, 4);
            s.is("one without a mesh behind that", x.row(axle), "4,100*,4");
            s.is("the other one's", x.row((axle + 1) % 7), "50*");
            s.is("still without wheels", x.row((axle + 2) % 7), "-");
        }
        Greenwheels all = Scene.NEW.made();
        for (int k = 0; k < 12; k++) {
            all.wheel(6, k < 6 ? 100 - k : 4 + k);
        }
        s.is("all wheels", all.row(6), "100,99,98,97,96,95,10,11,12,13,14,15");
        Greenwheels mixed = Scene.NEW.made();
        for (int k = 0; k < 12; k++) {
            mixed.wheel(k % 2 == 0 ? 5 : 0, 20 + k);
        }
        Sentence.of("Description", "X by X is by rising numbers.")
                .is("wheel by wheel", mixed.row(5) + " " + mixed.row(0), "20,22,24,26,28,30 21,23,25,27,29,31");
        Sentence axle = Sentence.of("Promise 18:", NO_AXLE);
        for (Scene scene : SCENES) {
            axle.range("row", scene, 0, 6, Due.BOUNDS, (x, a) -> x.row(a));
        }
    }

    private static void wouldMesh() {
        Sentence s = Sentence.of("Promise 19:", "Returns what mesh() would come to: 0 they would be in MESH (or are),"
                + " 1 it would JAM, 2 both are on one AXLE.");
        for (Scene scene : List.of(Scene.SOME, Scene.FULL)) {
            int wheels = scene == Scene.SOME ? 6 : 12;
            for (int one = 0; one < wheels; one++) {
                for (int other = 0; other < wheels; other++) {
                    int first = one;
                    int second = other;
                    String comesTo = Due.answer(() -> scene.made().mesh(first, second));
                    int due = comesTo.equals("true") ? 0 : comesTo.equals("false") ? 1 : 2;
                    s.is(one + " and " + other + " on " + scene.name, scene.made().wouldMesh(one, other), due);
                }
            }
        }
        Greenwheels x = Scene.SOME.made();
        s.is("are", x.wouldMesh(3, 2), 0);
        s.is("would be", x.wouldMesh(5, 0), 0);
        s.is("would jam", x.wouldMesh(3, 0), 1);
        s.is("on one axle", x.wouldMesh(2, 1), 2);
        s.is("a wheel and itself", x.wouldMesh(5, 5), 2);
        s.is("it was not counted", x.house(7), 1);
        s.is("nor made", x.house(1), 3);
        WheelBounds.noSuchWheel(
                Sentence.of("Promise 19:", "Throws IndexOutOfBoundsException if there is no such WHEEL, of both"), "wouldMesh",
                (y, one, other) -> y.wouldMesh(one, other));
    }

    private static void wouldPoint() {
        Sentence s = Sentence.of("Promise 20:", "Returns the CELL in which its POINTER would be at these.");
        for (int axle = 0; axle <= 6; axle++) {
            for (Scene end : List.of(Scene.FORWARD, Scene.BACK)) {
                Greenwheels x = Scene.chain(99, 100).made();
                x.dial(axle, 239);
                int turns = end == Scene.FORWARD ? 9999 : -9999;
                int would = x.wouldPoint(axle, turns);
                s.is("turns stay", x.house(3), 0);
                for (Scene.Act act : Scene.turned(turns < 0 ? -1 : 1)) {
                    act.on(x);
                }
                s.is("axle " + axle + " at " + turns, would, x.pointer(axle));
                s.is("axle " + axle + " at 0 then", x.wouldPoint(axle, 0), 0);
            }
        }
        Sentence axle = Sentence.of("Promise 20:", NO_AXLE);
        Sentence turns = Sentence.of("Promise 20:", "Throws IllegalArgumentException if turns is not -9999 to 9999");
        for (Scene scene : SCENES) {
            axle.range("wouldPoint(axle, 0)", scene, 0, 6, Due.BOUNDS, (x, a) -> x.wouldPoint(a, 0));
            turns.range("wouldPoint(0, turns)", scene, -9999, 9999, Due.ARGUMENT, (x, t) -> x.wouldPoint(0, t));
            turns.range("wouldPoint(6, turns)", scene, -9999, 9999, Due.ARGUMENT, (x, t) -> x.wouldPoint(6, t));
        }
    }
}
