import java.util.ArrayList;
import java.util.List;

/** Calls that bring a new object into a state; told as calls, so that as many twins as are wanted can be made. */
final class Scene {
    interface Act {
        Object on(Greenwheels x);
    }

    /** Nothing there yet. */
    static final Scene NEW = new Scene("a new object", List.of());
    /** Some of each, and room for more. */
    static final Scene SOME = NEW
            .then(x -> x.wheel(0, 24)).then(x -> x.wheel(1, 36)).then(x -> x.wheel(1, 10)).then(x -> x.wheel(2, 25))
            .then(x -> x.wheel(3, 20)).then(x -> x.wheel(4, 30))
            .then(x -> x.mesh(0, 1)).then(x -> x.mesh(2, 3)).then(x -> x.mesh(4, 5)).then(x -> x.mesh(0, 3))
            .then(x -> x.turn(-5)).then(x -> x.dial(2, 100)).then(x -> x.piece(0, 10, 60, 2))
            .then(x -> x.claim(0)).then(x -> x.claim(1)).then(x -> x.claim(0)).then(x -> x.withdraw(2, true))
            .then(x -> x.knock()).named("some of each");
    /** All that there can be, with TURNS of 9999. */
    static final Scene FULL = chain(100, 97).then(full()).named("all that there can be");
    static final Scene FORWARD = NEW.then(turned(1)).named("9999 turns");
    static final Scene BACK = NEW.then(turned(-1)).named("-9999 turns");

    final String name;
    private final List<Act> acts;
    private List<String> answers;

    private Scene(String name, List<Act> acts) {
        this.name = name;
        this.acts = acts;
    }

    Scene then(Act act) {
        return then(List.of(act));
    }

    Scene then(List<Act> more) {
        List<Act> all = new ArrayList<>(acts);
        all.addAll(more);
        return new Scene(name + " and on", all);
    }

    Scene named(String newName) {
        return new Scene(newName, acts);
    }

    int calls() {
        return acts.size();
    }

    Greenwheels made() {
        Greenwheels x = new Greenwheels();
        for (Act act : acts) {
            act.on(x);
        }
        return x;
    }

    /** All that an object in this state answers. */
    List<String> answers() {
        if (answers == null) {
            answers = Answers.of(made(), calls());
        }
        return answers;
    }

    /** The longest way: six steps through all axles, each from so many teeth to so many, with two wheels of its own. */
    static Scene chain(int ahead, int behind) {
        Scene scene = NEW;
        for (int k = 0; k < 6; k++) {
            int step = k;
            scene = scene.then(x -> x.wheel(step, ahead)).then(x -> x.wheel(step + 1, behind))
                    .then(x -> x.mesh(2 * step, 2 * step + 1));
        }
        return scene.named("a way of six steps, " + ahead + " to " + behind);
    }

    /** To 9999 TURNS (with 1) or to -9999 (with -1), by as few calls as that takes. */
    static List<Act> turned(int sign) {
        List<Act> turning = new ArrayList<>();
        for (int k = 0; k < 10; k++) {
            turning.add(x -> x.turn(sign * 999));
        }
        turning.add(x -> x.turn(sign * 9));
        return turning;
    }

    private static List<Act> full() {
        List<Act> more = new ArrayList<>(turned(1));
        for (int k = 0; k < 12; k++) {
            int number = k;
            more.add(x -> x.claim((1 << number) - 1));
        }
        for (int k = 0; k < 36; k++) {
            int number = k;
            more.add(x -> x.piece(number % 6, 10 + number, 60 + number, 20));
        }
        more.add(x -> x.withdraw(7, true));
        more.add(x -> x.dial(6, 240));
        more.add(x -> x.mesh(0, 11));
        more.add(x -> x.knock());
        return more;
    }
}
