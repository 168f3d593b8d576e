import java.math.BigInteger;
import java.util.ArrayList;
import java.util.List;

/** The bounds of promises 23 to 25, and what the document says of all calls together. */
final class WholeBounds {
    private static final List<Scene> SCENES = List.of(Scene.NEW, Scene.SOME, Scene.FULL, Scene.FORWARD, Scene.BACK);
    private static final int CALLS = 512;

    private WholeBounds() {
    }

    static void all() {
        isSound();
        knock();
        anObjectIsUsedFor512Calls();
        digestStarts();
        digestWrapsAround();
        aRefusedCallChangesNothing();
        theExceptionThatIsNamedFirst();
        whatIsAskedChangesNothing();
    }

    private static void isSound() {
        Sentence meshes = Sentence.of("Promise 23:", "of each two WHEELS in MESH PASSED is the same, but for its sign");
        Sentence period = Sentence.of("Promise 23:",
                "with PERIOD for TURNS each AXLE that is MOVED would STAND AT 0");
        Sentence claims = Sentence.of("Promise 23:",
                "each CLAIM STANDS just if neither it nor any on which it hangs, near or far, is WITHDRAWN.");
        for (Scene scene : SCENES) {
            meshes.is(scene.name, scene.made().isSound(), true);
        }
        for (int sign = -1; sign <= 1; sign += 2) {
            Greenwheels x = Scene.chain(100, 97).then(Scene.turned(sign)).made();
            for (int wheel = 0; wheel < 12; wheel += 2) {
                meshes.is("upper, of " + wheel, x.passed(wheel, true), -x.passed(wheel + 1, true));
                meshes.is("lower, of " + wheel, x.passed(wheel, false), x.passed(wheel + 1, false));
            }
            meshes.is("the longest way", x.isSound(), true);
        }
        period.is("the largest", Scene.chain(99, 100).made().isSound(), true);
        period.is("RATE * PERIOD is more than a long holds", Scene.chain(100, 97).made().isSound(), true);
        period.is("the least", Scene.chain(100, 4).made().isSound(), true);
        period.is("no axle but the crank", Scene.NEW.made().isSound(), true);
        Greenwheels chain = new Greenwheels();
        for (int k = 0; k < 12; k++) {
            chain.claim(k == 0 ? 0 : 1 << (k - 1));
            claims.is("a chain of " + (k + 1), chain.isSound(), true);
        }
        chain.withdraw(0, true);
        claims.is("the far end of all, withdrawn", chain.ofClaim(11, 2) + " " + chain.isSound(), "0 true");
        chain.withdraw(0, false);
        chain.withdraw(11, true);
        claims.is("itself, withdrawn", chain.ofClaim(11, 2) + " " + chain.house(5) + " " + chain.isSound(), "0 11 true");
    }

    private static void knock() {
        Sentence s = Sentence.of("Promise 24:", "Returns how many were REFUSED ever, with this.");
        Greenwheels x = Scene.NEW.made();
        for (int k = 1; k <= 500; k++) {
            s.is("of a new object", x.knock(), k);
        }
        s.is("counted", x.house(8), 500);
        s.is("of one that knocked once", Scene.FULL.made().knock(), 2);
        s.is("another object's do not count", Scene.NEW.made().knock(), 1);
        Greenwheels refusing = Scene.NEW.made();
        Due.refuses("a wheel beside all axles", Due.BOUNDS, () -> refusing.wheel(7, 10));
        s.is("calls that throw do not count", refusing.knock(), 1);
    }

    private static void anObjectIsUsedFor512Calls() {
        Sentence s = Sentence.of("What it is", "An object is used for at most 512 calls after it has been made;");
        Greenwheels knocking = Scene.NEW.made();
        for (int k = 1; k < CALLS; k++) {
            knocking.knock();
        }
        s.is("the last one answers", knocking.house(8), CALLS - 1);
        Greenwheels x = Scene.FULL.made();
        String digest = "" + x.digest();
        for (int k = Scene.FULL.calls() + 1; k < CALLS - 1; k++) {
            x.best(9998, 299, 300, k % 2 == 0);
        }
        s.is("the last but one", x.isSound(), true);
        s.is("the last one is as the first", "" + x.digest(), digest);
    }

    private static void digestStarts() {
        Sentence start = Sentence.of("Promise 25:", "A number d starts with 5087; for each of the following numbers v,"
                + " d becomes d * 31 + v,");
        start.is("a new object", Scene.NEW.made().digest(), -558892646805880634L);
        Sentence numbers = Sentence.of("Promise 25:", "house() of 0 to 8; AXLE by AXLE ofAxle() of 0 to 2, each upper,"
                + " then lower number, then pointer() of it; WHEEL by WHEEL ofWheel() of 0 to 3, passed() upper, then lower"
                + " number; period(); LUMP by LUMP ofLump() of 0 to 3; CLAIM by CLAIM ofClaim() of 0 to 3; 1 if isSound(),"
                + " otherwise 0.");
        numbers.is("with no wheels and claims", WholeTest.numbersOf(Scene.NEW.made()).size(), 9 + 7 * 7 + 1 + 6 * 4 + 1);
        numbers.is("with all", WholeTest.numbersOf(Scene.FULL.made()).size(), 9 + 7 * 7 + 12 * 6 + 1 + 6 * 4 + 12 * 4 + 1);
        for (Scene scene : SCENES) {
            numbers.is(scene.name, scene.made().digest(), WholeTest.digestOf(scene.made()));
        }
    }

    private static void digestWrapsAround() {
        Sentence s = Sentence.of("Promise 25:", "which wraps around as a 64-bit integer:");
        BigInteger wrap = BigInteger.ONE.shiftLeft(64);
        boolean hasBelow0 = false;
        boolean hasAbove0 = false;
        List<Scene> scenes = new ArrayList<>(SCENES);
        scenes.add(Scene.chain(100, 97).then(Scene.turned(-1)).named("the largest numbers below 0"));
        scenes.add(Scene.chain(99, 100).then(Scene.turned(1)).named("the largest lower numbers"));
        for (int knocks = 1; knocks <= 4; knocks++) {
            scenes.add(scenes.get(scenes.size() - 1).then(x -> x.knock()));
        }
        for (Scene scene : scenes) {
            long d = scene.made().digest();
            BigInteger endless = endlessDigest(scene.made());
            s.is("wraps on " + scene.name, endless.bitLength() > 64, true);
            s.is("what is left over on " + scene.name, BigInteger.valueOf(d).mod(wrap), endless.mod(wrap));
            hasBelow0 |= d < 0;
            hasAbove0 |= d > 0;
        }
        s.is("some fall below 0, some above", hasBelow0 && hasAbove0, true);
    }

    /** The checksum with no bound on its size. */
    private static BigInteger endlessDigest(Greenwheels x) {
        BigInteger d = BigInteger.valueOf(5087);
        for (long v : WholeTest.numbersOf(x)) {
            d = d.multiply(BigInteger.valueOf(31)).add(BigInteger.valueOf(v));
        }
        return d;
    }

    /** One call after the other that is refused; each one, and all of them together, leave all answers as they were. */
    private static void aRefusedCallChangesNothing() {
        Sentence s = Sentence.of("2. Pieces", "A method that throws an exception changes nothing.");
        List<Scene.Act> refused = List.of(x -> x.wheel(7, 10), x -> x.wheel(0, 3), x -> x.mesh(0, 12), x -> x.mesh(-1, 0),
                x -> x.part(0, 12), x -> x.turn(1000), x -> x.turn(-1000), x -> x.dial(7, 100), x -> x.dial(0, 241),
                x -> x.piece(6, 10, 60, 2), x -> x.piece(0, 101, 60, 2), x -> x.piece(0, 10, 361, 2),
                x -> x.piece(0, 10, 60, 91), x -> x.claim(4096), x -> x.claim(-1), x -> x.withdraw(12, true),
                x -> x.ofAxle(0, 3, true), x -> x.ofWheel(12, 0), x -> x.passed(12, true), x -> x.pointer(7),
                x -> x.ofLump(0, 4), x -> x.ofClaim(12, 0), x -> x.house(9), x -> x.row(7), x -> x.wouldMesh(12, 0),
                x -> x.wouldPoint(0, 10000), x -> x.train(0, 1, 0), x -> x.best(1, 0, 1, true));
        for (Scene scene : SCENES) {
            Greenwheels all = scene.made();
            for (int k = 0; k < refused.size(); k++) {
                Scene.Act act = refused.get(k);
                Greenwheels x = scene.made();
                s.is("call " + k + " throws on " + scene.name, Due.answer(() -> act.on(x)).startsWith("throws"), true);
                s.is("behind call " + k + " on " + scene.name, Answers.of(x, scene.calls() + 1), scene.answers());
                Due.answer(() -> act.on(all));
            }
            s.is("behind all of them on " + scene.name, Answers.of(all, scene.calls() + refused.size()), scene.answers());
        }
        for (Scene.Act act : List.<Scene.Act>of(x -> x.wheel(0, 10), x -> x.turn(1), x -> x.piece(0, 10, 60, 2), x -> x.claim(0),
                x -> x.mesh(1, 2))) {
            Greenwheels x = Scene.FULL.made();
            s.is("throws with all there can be", Due.answer(() -> act.on(x)).startsWith("throws"), true);
            s.is("behind that", Answers.of(x, Scene.FULL.calls() + 1), Scene.FULL.answers());
        }
    }

    private static void theExceptionThatIsNamedFirst() {
        Sentence s = Sentence.of("2. Pieces", "If several exceptions apply, the one that is named first is thrown.");
        for (Scene scene : List.of(Scene.NEW, Scene.SOME, Scene.FULL)) {
            s.refuses("wheel: axle ahead of teeth and room", Due.BOUNDS, scene, x -> x.wheel(7, 3));
            s.refuses("wheel: axle ahead of room", Due.BOUNDS, scene, x -> x.wheel(-1, 50));
            s.refuses("mesh: no such wheel ahead of one axle", Due.BOUNDS, scene, x -> x.mesh(12, 12));
            s.refuses("mesh: no such wheel ahead of one axle", Due.BOUNDS, scene, x -> x.mesh(-1, -1));
            s.refuses("dial: axle ahead of cells", Due.BOUNDS, scene, x -> x.dial(7, 1));
            s.refuses("dial: axle ahead of cells", Due.BOUNDS, scene, x -> x.dial(-1, 241));
            s.refuses("piece: lump ahead of all", Due.BOUNDS, scene, x -> x.piece(6, 0, 0, -1));
            s.refuses("piece: lump ahead of all", Due.BOUNDS, scene, x -> x.piece(-1, 101, 361, 91));
            s.refuses("ofAxle: axle ahead of what", Due.BOUNDS, scene, x -> x.ofAxle(7, 3, true));
            s.refuses("ofWheel: wheel ahead of what", Due.BOUNDS, scene, x -> x.ofWheel(12, 4));
            s.refuses("ofLump: lump ahead of what", Due.BOUNDS, scene, x -> x.ofLump(6, 4));
            s.refuses("ofClaim: claim ahead of what", Due.BOUNDS, scene, x -> x.ofClaim(12, 4));
            s.refuses("wouldPoint: axle ahead of turns", Due.BOUNDS, scene, x -> x.wouldPoint(7, 10000));
        }
        s.refuses("wheel: teeth ahead of room", Due.ARGUMENT, Scene.FULL, x -> x.wheel(0, 3));
        s.refuses("wheel: teeth ahead of room", Due.ARGUMENT, Scene.FULL, x -> x.wheel(6, 101));
        s.refuses("turn: too many at once ahead of too far", Due.ARGUMENT, Scene.FORWARD, x -> x.turn(1000));
        s.refuses("turn: too many at once ahead of too far", Due.ARGUMENT, Scene.BACK, x -> x.turn(-1000));
        s.refuses("turn: by far", Due.ARGUMENT, Scene.FORWARD, x -> x.turn(Integer.MAX_VALUE));
        s.refuses("turn: by far back", Due.ARGUMENT, Scene.BACK, x -> x.turn(Integer.MIN_VALUE));
        s.refuses("piece: teeth ahead of room", Due.ARGUMENT, Scene.FULL, x -> x.piece(0, 0, 60, 2));
        s.refuses("piece: degrees ahead of room", Due.ARGUMENT, Scene.FULL, x -> x.piece(5, 10, 361, 2));
        s.refuses("piece: doubt ahead of room", Due.ARGUMENT, Scene.FULL, x -> x.piece(5, 10, 60, -1));
        s.refuses("claim: no set ahead of room", Due.ARGUMENT, Scene.FULL, x -> x.claim(4096));
        s.refuses("claim: no set ahead of room", Due.ARGUMENT, Scene.FULL, x -> x.claim(-1));
    }

    private static void whatIsAskedChangesNothing() {
        Sentence s = Sentence.of("2. Pieces", "What is asked changes nothing (knock() counts).");
        for (Scene scene : SCENES) {
            for (int family = 0; family < 5; family++) {
                Greenwheels x = scene.made();
                int calls = asked(x, family);
                s.is("asking " + family + " on " + scene.name, Answers.of(x, scene.calls() + calls), scene.answers());
            }
            s.is("knock() on " + scene.name, butRefused(scene.then(x -> x.knock())), butRefused(scene));
        }
    }

    /** Asks some, what is allowed and what is not; returns how many calls that were. */
    private static int asked(Greenwheels x, int family) {
        List<Due.Call> calls = new ArrayList<>();
        for (int k = 0; k < 7; k++) {
            int number = k;
            switch (family) {
                case 0:
                    calls.add(() -> x.ofAxle(number, 1, true));
                    calls.add(() -> x.pointer(number));
                    calls.add(() -> x.row(number));
                    calls.add(() -> x.wouldPoint(number, number % 2 == 0 ? 9999 : -9999));
                    break;
                case 1:
                    calls.add(() -> x.ofWheel(number, 2));
                    calls.add(() -> x.passed(number, true));
                    calls.add(() -> x.wouldMesh(number, 11));
                    calls.add(() -> x.wouldMesh(0, number));
                    break;
                case 2:
                    calls.add(() -> x.ofLump(number, 3));
                    calls.add(() -> x.ofClaim(number, 3));
                    calls.add(() -> x.ofClaim(number + 5, 2));
                    break;
                case 3:
                    calls.add(() -> x.train(number, 7, 4));
                    calls.add(() -> x.best(number, 7, 300, true));
                    calls.add(() -> x.house(number + 2));
                    break;
                default:
                    calls.add(x::period);
                    calls.add(x::isSound);
                    calls.add(x::digest);
                    break;
            }
        }
        calls.forEach(Due::answer);
        return calls.size();
    }

    private static List<String> butRefused(Scene scene) {
        List<String> answers = new ArrayList<>(scene.answers());
        answers.removeIf(answer -> answer.startsWith("house 8") || answer.startsWith("digest") || answer.startsWith("knock"));
        return answers;
    }
}
