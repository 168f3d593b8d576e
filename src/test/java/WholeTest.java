import java.util.ArrayList;
import java.util.List;

/** Promises 23 to 25: isSound, knock, digest. */
public final class WholeTest {
    public static void main(String[] args) {
        isSound();
        knock();
        digest();
        failingChangesNothing();
        Due.end();
    }

    private static void isSound() {
        Greenwheels x = new Greenwheels();
        Due.is("23: new", x.isSound(), true);
        for (int axle = 0; axle < 6; axle++) {
            x.wheel(axle, 97 - axle);
            x.wheel(axle + 1, 89 + axle);
            x.mesh(2 * axle, 2 * axle + 1);
            Due.is("23: meshed", x.isSound(), true);
        }
        x.turn(-777);
        Due.is("23: turned", x.isSound(), true);
        x.mesh(0, 11);
        Due.is("23: jammed", x.isSound(), true);
        x.part(4, 5);
        Due.is("23: parted", x.isSound(), true);
        for (int k = 0; k < 12; k++) {
            x.claim(k == 0 ? 0 : 1 << (k - 1) | k % 4);
            x.withdraw(k, k % 5 == 2);
            Due.is("23: claims", x.isSound(), true);
        }
        x.withdraw(2, false);
        Due.is("23: taken back", x.isSound(), true);
    }

    private static void knock() {
        Greenwheels x = new Greenwheels();
        for (int k = 1; k <= 5; k++) {
            Due.is("24: knock", x.knock(), k);
            Due.is("24: counted", x.house(8), k);
        }
        Due.is("24: nothing else", x.house(7), 0);
        Due.is("24: another object", new Greenwheels().knock(), 1);
    }

    private static void digest() {
        Greenwheels x = new Greenwheels();
        Due.is("25: new", x.digest(), digestOf(x));
        x.wheel(0, 24);
        x.wheel(1, 36);
        x.wheel(1, 10);
        x.wheel(5, 25);
        x.wheel(6, 99);
        x.mesh(0, 1);
        x.mesh(2, 3);
        x.turn(-5);
        x.dial(5, 200);
        Due.is("25: wheels", x.digest(), digestOf(x));
        x.mesh(0, 3);
        x.knock();
        x.piece(2, 10, 60, 2);
        x.claim(0);
        x.claim(1);
        x.withdraw(0, true);
        long d = x.digest();
        Due.is("25: all", d, digestOf(x));
        Due.is("25: again", x.digest(), d);
        x.dial(5, 12);
        Due.is("25: a dial counts", x.digest() != d, true);
    }

    private static void failingChangesNothing() {
        Greenwheels x = new Greenwheels();
        x.wheel(0, 10);
        x.wheel(0, 20);
        x.claim(0);
        long d = x.digest();
        Due.refuses("wheel", Due.ARGUMENT, () -> x.wheel(0, 0));
        Due.refuses("mesh", Due.ARGUMENT, () -> x.mesh(0, 1));
        Due.refuses("mesh", Due.BOUNDS, () -> x.mesh(0, 2));
        Due.refuses("turn", Due.ARGUMENT, () -> x.turn(5000));
        Due.refuses("dial", Due.ARGUMENT, () -> x.dial(0, 0));
        Due.refuses("piece", Due.ARGUMENT, () -> x.piece(0, 10, 10, 100));
        Due.refuses("claim", Due.ARGUMENT, () -> x.claim(2));
        Due.refuses("withdraw", Due.BOUNDS, () -> x.withdraw(1, true));
        Due.is("nothing changed", x.digest(), d);
    }

    /** As promise 25 has it, from the answers of the object. */
    static long digestOf(Greenwheels x) {
        long d = 5087;
        for (long v : numbersOf(x)) {
            d = d * 31 + v;
        }
        return d;
    }

    /** The numbers of which promise 25 makes the checksum, one behind the other. */
    static List<Long> numbersOf(Greenwheels x) {
        List<Long> numbers = new ArrayList<>();
        for (int what = 0; what <= 8; what++) {
            numbers.add((long) x.house(what));
        }
        for (int axle = 0; axle <= 6; axle++) {
            for (int what = 0; what <= 2; what++) {
                numbers.add(x.ofAxle(axle, what, true));
                numbers.add(x.ofAxle(axle, what, false));
            }
            numbers.add((long) x.pointer(axle));
        }
        for (int wheel = 0; wheel < x.house(0); wheel++) {
            for (int what = 0; what <= 3; what++) {
                numbers.add((long) x.ofWheel(wheel, what));
            }
            numbers.add(x.passed(wheel, true));
            numbers.add(x.passed(wheel, false));
        }
        numbers.add(x.period());
        for (int k = 0; k < 6 * 4; k++) {
            numbers.add((long) x.ofLump(k / 4, k % 4));
        }
        for (int k = 0; k < x.house(4) * 4; k++) {
            numbers.add((long) x.ofClaim(k / 4, k % 4));
        }
        numbers.add(x.isSound() ? 1L : 0L);
        return numbers;
    }
}
