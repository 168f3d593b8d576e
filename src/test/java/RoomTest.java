import com.sun.management.ThreadMXBean;
import java.lang.management.ManagementFactory;
import java.util.ArrayList;
import java.util.List;

/**
 * The room of one run, some 600,000 objects and 7.3 million fields and elements, told by bytes: an object takes 16 of
 * them or more, a field or an element one or more, so a run that takes fewer than 7.3 million bytes is within both.
 */
public final class RoomTest {
    private static final long ROOM = 7_300_000;
    private static final int CALLS = 512;
    private static final int TRIES = 5;
    private static final ThreadMXBean COUNTER = (ThreadMXBean) ManagementFactory.getThreadMXBean();

    public static void main(String[] args) {
        for (Scene scene : List.of(Scene.NEW, Scene.FULL, Scene.chain(99, 100), mostMeshes(), allAxles())) {
            long making = bytesOf(() -> scene.made());
            long dearest = 0;
            for (Scene.Act call : calls()) {
                dearest = Math.max(dearest, dearest(scene.made(), call));
            }
            long all = making + CALLS * dearest;
            System.out.println(scene.name + ": " + making + " bytes, its dearest call " + dearest);
            Due.is("bytes are counted on " + scene.name, making > 0 && dearest > 0, true);
            Due.is(scene.name + " is within the room with " + all + " bytes", all < ROOM, true);
        }
        Due.end();
    }

    /** The most that it takes; the first call is left out, as the machine links it then. */
    private static long dearest(Greenwheels x, Scene.Act call) {
        answered(x, call);
        long most = 0;
        for (int k = 0; k < TRIES; k++) {
            most = Math.max(most, bytesOf(() -> answered(x, call)));
        }
        return most;
    }

    private static long bytesOf(Runnable run) {
        long before = COUNTER.getThreadAllocatedBytes(Thread.currentThread().getId());
        run.run();
        return COUNTER.getThreadAllocatedBytes(Thread.currentThread().getId()) - before;
    }

    private static void answered(Greenwheels x, Scene.Act call) {
        try {
            call.on(x);
        } catch (IndexOutOfBoundsException | IllegalArgumentException | IllegalStateException e) {
            // What a refused call takes counts, too.
        }
    }

    private static List<Scene.Act> calls() {
        return List.of(x -> x.wheel(6, 100), x -> x.wheel(7, 100), x -> x.mesh(0, 11), x -> x.mesh(0, 1), x -> x.mesh(10, 11),
                x -> x.part(0, 1) ? x.mesh(0, 1) : 0, x -> x.turn(-1), x -> x.turn(1000), x -> x.dial(6, 240),
                x -> x.piece(5, 100, 360, 90), x -> x.claim(0), x -> x.withdraw(0, true), x -> x.ofAxle(6, 2, true),
                x -> x.ofWheel(11, 2), x -> x.passed(11, false), x -> x.period(), x -> x.pointer(6), x -> x.ofLump(5, 3),
                x -> x.ofClaim(0, 3), x -> x.house(2), x -> x.row(0), x -> x.row(1), x -> x.wouldMesh(0, 11),
                x -> x.wouldPoint(6, -9999), x -> x.train(37, 1, 0), x -> x.train(3481, 3600, 4),
                x -> x.best(9998, 9999, 300, true), x -> x.isSound(), x -> x.knock(), x -> x.digest());
    }

    /** Six wheels on each of two axles, each one in mesh with all six of the other axle: no device has more meshes. */
    private static Scene mostMeshes() {
        return meshed(2, "36 meshes");
    }

    private static Scene allAxles() {
        return meshed(7, "wheels on all axles");
    }

    /** Twelve wheels of 50 teeth on so many axles, in turn, and each mesh among them that does not jam. */
    private static Scene meshed(int axles, String name) {
        List<Scene.Act> acts = new ArrayList<>();
        for (int k = 0; k < 12; k++) {
            int axle = k % axles;
            acts.add(x -> x.wheel(axle, 50));
        }
        for (int k = 0; k < 144; k++) {
            int one = k / 12;
            int other = k % 12;
            if (one < other && one % axles != other % axles) {
                acts.add(x -> x.mesh(one, other));
            }
        }
        return Scene.NEW.then(acts).then(Scene.turned(-1)).named(name);
    }
}
