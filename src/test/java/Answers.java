import java.util.ArrayList;
import java.util.List;

/** All that an object answers, call by call, and behind that what some calls do that change it: twins answer alike. */
final class Answers {
    private static final int CALLS = 512;

    private final List<String> told = new ArrayList<>();

    private Answers() {
    }

    /** callsBefore is how many calls the object has served: with those that are made here 512 is the most. */
    static List<String> of(Greenwheels x, int callsBefore) {
        Answers answers = new Answers();
        answers.whole(x);
        answers.axles(x);
        answers.wheels(x);
        answers.lumpsAndClaims(x);
        answers.changing(x);
        Due.is("calls of one object stay within 512", callsBefore + answers.told.size() <= CALLS, true);
        return answers.told;
    }

    private void tell(String call, Due.Call asked) {
        told.add(call + " " + Due.answer(asked));
    }

    private void whole(Greenwheels x) {
        for (int k = 0; k <= 8; k++) {
            int what = k;
            tell("house " + what, () -> x.house(what));
        }
        tell("period", x::period);
        tell("isSound", x::isSound);
        tell("digest", x::digest);
        tell("train", () -> x.train(235, 19, 4));
        tell("best", () -> x.best(355, 113, 112, true));
    }

    private void axles(Greenwheels x) {
        for (int k = 0; k <= 6; k++) {
            int axle = k;
            for (int what = 0; what <= 2; what++) {
                int asked = what;
                tell("ofAxle upper " + axle + " " + what, () -> x.ofAxle(axle, asked, true));
                tell("ofAxle lower " + axle + " " + what, () -> x.ofAxle(axle, asked, false));
            }
            tell("pointer " + axle, () -> x.pointer(axle));
            tell("wouldPoint " + axle, () -> x.wouldPoint(axle, -1));
            tell("row " + axle, () -> x.row(axle));
        }
    }

    private void wheels(Greenwheels x) {
        for (int k = 0; k < 12; k++) {
            int wheel = k;
            for (int what = 0; what <= 3; what++) {
                int asked = what;
                tell("ofWheel " + wheel + " " + what, () -> x.ofWheel(wheel, asked));
            }
            tell("passed upper " + wheel, () -> x.passed(wheel, true));
            tell("passed lower " + wheel, () -> x.passed(wheel, false));
            for (int other = 0; other < 12; other++) {
                int second = other;
                tell("wouldMesh " + wheel + " " + other, () -> x.wouldMesh(wheel, second));
            }
        }
    }

    private void lumpsAndClaims(Greenwheels x) {
        for (int k = 0; k < 12; k++) {
            int number = k;
            for (int what = 0; what <= 3; what++) {
                int asked = what;
                tell("ofClaim " + number + " " + what, () -> x.ofClaim(number, asked));
                if (number < 6) {
                    tell("ofLump " + number + " " + what, () -> x.ofLump(number, asked));
                }
            }
        }
    }

    // CELLS are told by dial() alone, and what is kept unseen might show in what is done next.
    private void changing(Greenwheels x) {
        for (int k = 0; k <= 6; k++) {
            int axle = k;
            tell("dial " + axle, () -> x.dial(axle, 12));
        }
        tell("knock", x::knock);
        tell("turn", () -> x.turn(-1));
        tell("part", () -> x.part(0, 1));
        tell("mesh", () -> x.mesh(1, 0));
        tell("wheel", () -> x.wheel(6, 12));
        tell("claim", () -> x.claim(0));
        tell("withdraw", () -> x.withdraw(0, true));
        for (int k = 0; k < 6; k++) {
            int lump = k;
            tell("piece " + lump, () -> x.piece(lump, 10, 50, 5));
        }
        tell("digest then", x::digest);
    }
}
