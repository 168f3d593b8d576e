import java.lang.reflect.Array;
import java.lang.reflect.Constructor;
import java.lang.reflect.Field;

/**
 * Promise 23 where something is not sound. No run of calls comes to such a state, so this test alone reaches inside the
 * object and spoils what it holds: isSound() has to tell it, and nothing may be thrown.
 */
public final class SoundTest {
    public static void main(String[] args) throws ReflectiveOperationException {
        eachMeshCounts();
        passedDiffers();
        nothingPassed();
        periodIsNone();
        periodIsTooShort();
        claims();
        Due.end();
    }

    private static void eachMeshCounts() throws ReflectiveOperationException {
        for (int one = 0; one < 12; one++) {
            for (int other = one + 1; other < 12; other += 2) {
                Greenwheels x = new Greenwheels();
                for (int wheel = 0; wheel < 12; wheel++) {
                    x.wheel(wheel % 2, 50);
                }
                x.mesh(one, other);
                x.turn(1);
                String mesh = "of the mesh of " + one + " and " + other;
                Due.is("sound " + mesh, x.isSound(), true);
                set(x, "gearing", "teeth", other, 51);
                Due.is("PASSED is not the same " + mesh, x.isSound(), false);
                Due.is("digest has it " + mesh, x.digest(), WholeTest.digestOf(x));
            }
        }
    }

    private static void passedDiffers() throws ReflectiveOperationException {
        Due.is("21 and -21", spoiled(42).isSound(), true);
        Due.is("21 and -21/2", spoiled(21).isSound(), false);
        Due.is("21 and -43/2", spoiled(43).isSound(), false);
        Due.is("21 and -22", spoiled(44).isSound(), false);
        Greenwheels x = spoiled(42);
        set(x, "gearing", "byCrank", 1, fraction(1, 2));
        Due.is("21 and 21, of the same sign", x.isSound(), false);
    }

    /** Two wheels of 21 and 42 teeth in mesh, the second of which has other teeth then. */
    private static Greenwheels spoiled(int teeth) throws ReflectiveOperationException {
        Greenwheels x = new Greenwheels();
        x.wheel(0, 21);
        x.wheel(1, 42);
        x.mesh(0, 1);
        x.turn(1);
        set(x, "gearing", "teeth", 1, teeth);
        return x;
    }

    private static void nothingPassed() throws ReflectiveOperationException {
        Greenwheels x = spoiled(43);
        x.turn(-1);
        Due.is("0 and 0", x.isSound(), true);
    }

    private static void periodIsNone() throws ReflectiveOperationException {
        for (int axle = 0; axle <= 6; axle++) {
            Greenwheels x = new Greenwheels();
            set(x, "gearing", "byCrank", axle, fraction(1, 0));
            Due.is("a rate without a lower number, of " + axle, x.isSound(), false);
            Due.is("its period", x.period(), 0L);
            Due.is("its pointer", x.pointer(axle), 0);
            Due.is("its digest", x.digest(), WholeTest.digestOf(x));
        }
    }

    private static void periodIsTooShort() throws ReflectiveOperationException {
        for (int axle = 0; axle < 6; axle++) {
            Greenwheels x = new Greenwheels();
            set(x, "gearing", "byCrank", axle, fraction(1, (1L << 32) + 15));
            Due.is("a long period, of " + axle, x.isSound(), true);
            // Their product wraps around to a number above 0 that neither divides.
            set(x, "gearing", "byCrank", axle + 1, fraction(1, (1L << 32) + 17));
            Due.is("it is above 0", x.period() > 0, true);
            Due.is("a period beyond a long, of " + axle, x.isSound(), false);
        }
    }

    private static void claims() throws ReflectiveOperationException {
        for (int claim = 1; claim < 12; claim++) {
            Greenwheels x = new Greenwheels();
            for (int k = 0; k < 12; k++) {
                x.claim(k == claim ? 1 : 0);
            }
            x.withdraw(0, true);
            Due.is("sound with the claim " + claim, x.isSound(), true);
            set(x, "claims", "nearAndFar", claim, 0);
            Due.is("does not stand, and hangs on none that is withdrawn: " + claim, x.isSound(), false);
            x.withdraw(0, false);
            Due.is("stands: " + claim, x.isSound(), true);
            x.withdraw(claim, true);
            Due.is("is withdrawn: " + claim, x.isSound(), true);
            set(x, "claims", "near", 0, 1 << claim);
            Due.is("hangs on one that is withdrawn: 0 on " + claim, x.isSound(), false);
        }
    }

    private static void set(Greenwheels x, String part, String row, int index, Object value)
            throws ReflectiveOperationException {
        Object holder = field(Greenwheels.class, part).get(x);
        Array.set(field(holder.getClass(), row).get(holder), index, value);
    }

    private static Field field(Class<?> where, String name) throws NoSuchFieldException {
        Field field = where.getDeclaredField(name);
        field.setAccessible(true);
        return field;
    }

    private static Object fraction(long upper, long lower) throws ReflectiveOperationException {
        Constructor<?> made = Class.forName("Greenwheels$Fraction").getDeclaredConstructor(long.class, long.class);
        made.setAccessible(true);
        return made.newInstance(upper, lower);
    }
}
