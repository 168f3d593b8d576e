/** Promises 1 to 6: a new object, wheel, mesh, part, turn, dial. */
public final class WheelTest {
    public static void main(String[] args) {
        newObject();
        wheel();
        mesh();
        meshJams();
        part();
        turn();
        dial();
        Due.end();
    }

    private static void newObject() {
        Greenwheels x = new Greenwheels();
        for (int what = 0; what <= 8; what++) {
            Due.is("1: house " + what, x.house(what), what == 2 ? 1 : 0);
        }
        for (int axle = 0; axle <= 6; axle++) {
            Due.is("1: row " + axle, x.row(axle), "-");
            Due.is("1: rate upper " + axle, x.ofAxle(axle, 0, true), axle == 0 ? 1L : 0L);
            Due.is("1: rate lower " + axle, x.ofAxle(axle, 0, false), 1L);
            Due.is("1: pointer " + axle, x.pointer(axle), 0);
            Due.is("1: cells " + axle, x.dial(axle, 20), 12);
        }
        for (int lump = 0; lump <= 5; lump++) {
            Due.is("1: pieces " + lump, x.ofLump(lump, 0), 0);
            Due.is("1: agree " + lump, x.ofLump(lump, 1), 237);
        }
        Due.is("1: period", x.period(), 1L);
        Due.is("1: sound", x.isSound(), true);
        Greenwheels y = new Greenwheels();
        x.wheel(0, 10);
        Due.is("1: objects do not share", y.house(0), 0);
    }

    private static void wheel() {
        Greenwheels x = new Greenwheels();
        Due.refuses("2: axle -1", Due.BOUNDS, () -> x.wheel(-1, 10));
        Due.refuses("2: axle 7", Due.BOUNDS, () -> x.wheel(7, 10));
        Due.refuses("2: axle ahead of teeth", Due.BOUNDS, () -> x.wheel(7, 3));
        Due.refuses("2: far axle", Due.BOUNDS, () -> x.wheel(Integer.MIN_VALUE, 10));
        Due.refuses("2: teeth 3", Due.ARGUMENT, () -> x.wheel(0, 3));
        Due.refuses("2: teeth 101", Due.ARGUMENT, () -> x.wheel(0, 101));
        Due.refuses("2: far teeth", Due.ARGUMENT, () -> x.wheel(0, Integer.MAX_VALUE));
        Due.is("2: nothing changed", x.house(0), 0);
        int[] axles = {0, 6, 3, 0, 1, 2, 3, 4, 5, 6, 0, 1};
        int[] teeth = {4, 100, 5, 99, 50, 51, 52, 53, 54, 55, 56, 57};
        for (int k = 0; k < 12; k++) {
            Due.is("2: number " + k, x.wheel(axles[k], teeth[k]), k);
            Due.is("2: wheels", x.house(0), k + 1);
        }
        for (int k = 0; k < 12; k++) {
            Due.is("2: axle of " + k, x.ofWheel(k, 0), axles[k]);
            Due.is("2: teeth of " + k, x.ofWheel(k, 1), teeth[k]);
            Due.is("2: meshes of " + k, x.ofWheel(k, 2), 0);
        }
        Due.refuses("2: a 13th", Due.STATE, () -> x.wheel(0, 10));
        Due.refuses("2: a 13th with wrong teeth", Due.ARGUMENT, () -> x.wheel(0, 3));
        Due.refuses("2: a 13th on no axle", Due.BOUNDS, () -> x.wheel(7, 10));
        Due.is("2: still 12", x.house(0), 12);
        Due.is("2: not counted as jam", x.house(7), 0);
    }

    private static void mesh() {
        Greenwheels x = new Greenwheels();
        Due.refuses("3: no wheels", Due.BOUNDS, () -> x.mesh(0, 0));
        x.wheel(0, 20);
        x.wheel(1, 40);
        x.wheel(1, 30);
        Due.refuses("3: one is none", Due.BOUNDS, () -> x.mesh(-1, 0));
        Due.refuses("3: one is none above", Due.BOUNDS, () -> x.mesh(3, 0));
        Due.refuses("3: other is none", Due.BOUNDS, () -> x.mesh(0, 3));
        Due.refuses("3: other is none below", Due.BOUNDS, () -> x.mesh(0, -1));
        Due.refuses("3: one axle", Due.ARGUMENT, () -> x.mesh(1, 2));
        Due.refuses("3: the same wheel", Due.ARGUMENT, () -> x.mesh(0, 0));
        Due.is("3: none yet", x.house(1), 0);
        Due.is("3: meshes", x.mesh(1, 0), true);
        Due.is("3: of 0", x.ofWheel(0, 2), 2);
        Due.is("3: of 1", x.ofWheel(1, 2), 1);
        Due.is("3: of 2", x.ofWheel(2, 2), 0);
        Due.is("3: one mesh", x.house(1), 1);
        Due.is("3: again", x.mesh(1, 0), true);
        Due.is("3: again turned", x.mesh(0, 1), true);
        Due.is("3: still one mesh", x.house(1), 1);
        Due.is("3: rate", x.ofAxle(1, 0, true) + "/" + x.ofAxle(1, 0, false), "-1/2");
        Due.is("3: no jams", x.house(7), 0);
    }

    private static void meshJams() {
        Greenwheels x = new Greenwheels();
        x.wheel(3, 20);
        x.wheel(4, 40);
        x.wheel(3, 30);
        x.wheel(4, 60);
        x.wheel(4, 61);
        x.wheel(5, 20);
        Due.is("3: away from the crank", x.mesh(0, 1), true);
        Due.is("3: other wheels, same rate", x.mesh(2, 3), true);
        Due.is("3: other wheels, other rate", x.mesh(2, 4), false);
        Due.is("3: jam counted", x.house(7), 1);
        Due.is("3: jam meshes nothing", x.ofWheel(4, 2), 0);
        Due.is("3: jam meshes nothing here", x.ofWheel(2, 2), 8);
        Due.is("3: two meshes", x.house(1), 2);
        Due.is("3: third axle", x.mesh(1, 5), true);
        Due.is("3: three in a ring turn against each other", x.mesh(5, 0), false);
        Due.is("3: jams again", x.house(7), 2);
        Due.is("3: the same jam again", x.mesh(0, 5), false);
        Due.is("3: is counted again", x.house(7), 3);
        Due.is("3: none of these is moved", x.house(2), 1);
        Due.is("3: parted", x.part(0, 1), true);
        Due.is("3: still a way", x.mesh(5, 0), false);
        Due.is("3: parted too", x.part(3, 2), true);
        Due.is("3: no way any more", x.mesh(5, 0), true);
        Due.is("3: jams stay", x.house(7), 4);
    }

    private static void part() {
        Greenwheels x = new Greenwheels();
        Due.refuses("4: no wheels", Due.BOUNDS, () -> x.part(0, 0));
        x.wheel(0, 20);
        x.wheel(1, 40);
        x.wheel(2, 10);
        x.mesh(0, 1);
        x.mesh(1, 2);
        Due.refuses("4: one", Due.BOUNDS, () -> x.part(3, 0));
        Due.refuses("4: other", Due.BOUNDS, () -> x.part(0, 3));
        Due.refuses("4: below", Due.BOUNDS, () -> x.part(-1, 0));
        Due.refuses("4: other below", Due.BOUNDS, () -> x.part(0, -1));
        Due.is("4: the same", x.part(0, 0), false);
        Due.is("4: not in mesh", x.part(0, 2), false);
        Due.is("4: two meshes", x.house(1), 2);
        Due.is("4: three moved", x.house(2), 3);
        Due.is("4: parts", x.part(1, 0), true);
        Due.is("4: one mesh", x.house(1), 1);
        Due.is("4: of 0", x.ofWheel(0, 2), 0);
        Due.is("4: of 1", x.ofWheel(1, 2), 4);
        Due.is("4: one moved", x.house(2), 1);
        Due.is("4: rate", x.ofAxle(2, 0, true) + "/" + x.ofAxle(2, 0, false), "0/1");
        Due.is("4: again", x.part(1, 0), false);
    }

    private static void turn() {
        Greenwheels x = new Greenwheels();
        Due.refuses("5: 1000", Due.ARGUMENT, () -> x.turn(1000));
        Due.refuses("5: -1000", Due.ARGUMENT, () -> x.turn(-1000));
        Due.refuses("5: far", Due.ARGUMENT, () -> x.turn(Integer.MIN_VALUE));
        Due.is("5: 0", x.turn(0), 0);
        Due.is("5: 7", x.turn(7), 7);
        Due.is("5: -10", x.turn(-10), -3);
        for (int k = 1; k <= 10; k++) {
            Due.is("5: on", x.turn(999), -3 + 999 * k);
        }
        Due.refuses("5: beyond", Due.STATE, () -> x.turn(13));
        Due.refuses("5: argument first", Due.ARGUMENT, () -> x.turn(1000));
        Due.is("5: unchanged", x.house(3), 9987);
        Due.is("5: up to the edge", x.turn(12), 9999);
        Due.refuses("5: one more", Due.STATE, () -> x.turn(1));
        Due.is("5: none more", x.turn(0), 9999);
        for (int k = 1; k <= 20; k++) {
            Due.is("5: back", x.turn(-999), 9999 - 999 * k);
        }
        Due.is("5: to the other edge", x.turn(-18), -9999);
        Due.refuses("5: one less", Due.STATE, () -> x.turn(-1));
        Due.is("5: house", x.house(3), -9999);
    }

    private static void dial() {
        Greenwheels x = new Greenwheels();
        Due.refuses("6: axle -1", Due.BOUNDS, () -> x.dial(-1, 12));
        Due.refuses("6: axle 7", Due.BOUNDS, () -> x.dial(7, 12));
        Due.refuses("6: axle first", Due.BOUNDS, () -> x.dial(7, 1));
        Due.refuses("6: 1 cell", Due.ARGUMENT, () -> x.dial(0, 1));
        Due.refuses("6: 241 cells", Due.ARGUMENT, () -> x.dial(0, 241));
        Due.is("6: first", x.dial(6, 2), 12);
        Due.is("6: then", x.dial(6, 240), 2);
        Due.is("6: then", x.dial(6, 235), 240);
        Due.is("6: another", x.dial(0, 3), 12);
        Due.is("6: not moved by the other", x.dial(6, 12), 235);
    }
}
