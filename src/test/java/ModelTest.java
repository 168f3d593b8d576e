/** Long runs of all calls, the same ones each time, on Greenwheels and on SlowModel: the answers have to be alike. */
public final class ModelTest {
    private static final int RUNS = 240;
    private static final int CALLS = 512;
    // Few and kindred counts let many meshes close rings without a jam.
    private static final int[][] PALETTES = {
        {20, 40}, {10, 20, 40, 80}, {12, 18, 24, 36, 54}, {97, 89, 83, 99, 100, 4}, {50}, {4, 100}, {},
    };

    private static long seed = 20261119;
    private static int[] palette;
    private static int axles;
    private static int flavour;

    public static void main(String[] args) {
        int meshedWell = 0;
        for (int run = 0; run < RUNS; run++) {
            palette = PALETTES[run % PALETTES.length];
            axles = 2 + run % 6;
            flavour = run % 4;
            meshedWell = Math.max(meshedWell, oneRun(run));
        }
        Due.is("some run closes rings", meshedWell > 7, true);
        Due.end();
    }

    private static int oneRun(int run) {
        Greenwheels x = new Greenwheels();
        SlowModel m = new SlowModel();
        int mostMeshes = 0;
        for (int call = 0; call < CALLS; call++) {
            oneCall("run " + run + " call " + call + ": ", x, m);
            if (call % 64 == 63) {
                Due.is("run " + run + " digest", x.digest(), WholeTest.digestOf(x));
                everything("run " + run + " after " + call + ": ", x, m);
            }
            mostMeshes = Math.max(mostMeshes, x.house(1));
        }
        return mostMeshes;
    }

    private static void same(String where, Due.Call got, Due.Call want) {
        Due.is(where, Due.answer(got), Due.answer(want));
    }

    private static void oneCall(String at, Greenwheels x, SlowModel m) {
        int kind = below(flavour == 0 ? 8 : 24);
        switch (kind) {
            case 0, 8 -> {
                int a = askew(0, axles - 1), t = teeth();
                same(at + "wheel(" + a + ", " + t + ")", () -> x.wheel(a, t), () -> m.wheel(a, t));
            }
            case 1, 2, 9, 10 -> {
                int a = askew(0, 11), b = askew(0, 11);
                same(at + "wouldMesh(" + a + ", " + b + ")", () -> x.wouldMesh(a, b), () -> m.wouldMesh(a, b));
                same(at + "mesh(" + a + ", " + b + ")", () -> x.mesh(a, b), () -> m.mesh(a, b));
            }
            case 3 -> {
                int a = askew(0, 11), b = askew(0, 11);
                same(at + "part(" + a + ", " + b + ")", () -> x.part(a, b), () -> m.part(a, b));
            }
            case 4 -> {
                int t = askew(-999, 999);
                same(at + "turn(" + t + ")", () -> x.turn(t), () -> m.turn(t));
            }
            case 5 -> {
                int a = askew(0, 6), c = askew(2, 240);
                same(at + "dial(" + a + ", " + c + ")", () -> x.dial(a, c), () -> m.dial(a, c));
            }
            case 6, 7 -> axleCalls(at, x, m);
            case 11, 12 -> {
                int l = askew(0, 5), d = askew(1, 360), b = askew(0, 1 + below(90));
                int t = below(4) == 0 ? askew(1, 100) : Math.min(100, 1 + d * (4 + below(237)) / 360);
                same(at + "piece(" + l + ", " + t + ", " + d + ", " + b + ")",
                        () -> x.piece(l, t, d, b), () -> m.piece(l, t, d, b));
            }
            case 13 -> {
                int on = askew(0, (1 << below(13)) - 1) & next();
                same(at + "claim(" + on + ")", () -> x.claim(on), () -> m.claim(on));
            }
            case 14, 15 -> {
                int c = askew(0, 11);
                boolean is = below(2) == 0;
                same(at + "withdraw(" + c + ", " + is + ")", () -> x.withdraw(c, is), () -> m.withdraw(c, is));
            }
            case 16, 17 -> {
                int p = askew(0, 9999), q = askew(1, 9999), l = askew(1, 300);
                boolean is = below(2) == 0;
                same(at + "best(" + p + ", " + q + ", " + l + ")", () -> x.best(p, q, l, is), () -> m.best(p, q, l, is));
            }
            case 18 -> {
                int p = below(2) == 0 ? askew(1, 3600) : (1 + below(60)) * (1 + below(60));
                int q = below(2) == 0 ? askew(1, 3600) : (1 + below(60)) * (1 + below(60)), w = askew(0, 4);
                same(at + "train(" + p + ", " + q + ", " + w + ")", () -> x.train(p, q, w), () -> m.train(p, q, w));
            }
            case 19 -> same(at + "knock()", x::knock, m::knock);
            case 20 -> same(at + "isSound()", x::isSound, m::isSound);
            case 21 -> {
                int w = askew(0, 8);
                same(at + "house(" + w + ")", () -> x.house(w), () -> m.house(w));
            }
            case 22 -> {
                int c = askew(0, 11), w = askew(0, 3), l = askew(0, 5);
                same(at + "ofClaim(" + c + ", " + w + ")", () -> x.ofClaim(c, w), () -> m.ofClaim(c, w));
                same(at + "ofLump(" + l + ", " + w + ")", () -> x.ofLump(l, w), () -> m.ofLump(l, w));
            }
            default -> {
                int c = askew(0, 11), w = askew(0, 3);
                boolean is = below(2) == 0;
                same(at + "ofWheel(" + c + ", " + w + ")", () -> x.ofWheel(c, w), () -> m.ofWheel(c, w));
                same(at + "passed(" + c + ", " + is + ")", () -> x.passed(c, is), () -> m.passed(c, is));
            }
        }
    }

    private static void axleCalls(String at, Greenwheels x, SlowModel m) {
        int a = askew(0, 6), w = askew(0, 2), t = askew(-9999, 9999);
        boolean is = below(2) == 0;
        same(at + "ofAxle(" + a + ", " + w + ", " + is + ")", () -> x.ofAxle(a, w, is), () -> m.ofAxle(a, w, is));
        same(at + "pointer(" + a + ")", () -> x.pointer(a), () -> m.pointer(a));
        same(at + "wouldPoint(" + a + ", " + t + ")", () -> x.wouldPoint(a, t), () -> m.wouldPoint(a, t));
        same(at + "row(" + a + ")", () -> x.row(a), () -> m.row(a));
        same(at + "period()", x::period, m::period);
    }

    private static void everything(String at, Greenwheels x, SlowModel m) {
        for (int k = 0; k <= 12; k++) {
            int n = k;
            same(at + "house " + n, () -> x.house(n), () -> m.house(n));
            same(at + "row " + n, () -> x.row(n), () -> m.row(n));
            same(at + "pointer " + n, () -> x.pointer(n), () -> m.pointer(n));
            for (int what = 0; what <= 3; what++) {
                int w = what;
                same(at + "ofAxle " + n + " " + w, () -> x.ofAxle(n, w, true), () -> m.ofAxle(n, w, true));
                same(at + "ofAxle " + n + " " + w, () -> x.ofAxle(n, w, false), () -> m.ofAxle(n, w, false));
                same(at + "ofWheel " + n + " " + w, () -> x.ofWheel(n, w), () -> m.ofWheel(n, w));
                same(at + "ofLump " + n + " " + w, () -> x.ofLump(n, w), () -> m.ofLump(n, w));
                same(at + "ofClaim " + n + " " + w, () -> x.ofClaim(n, w), () -> m.ofClaim(n, w));
            }
            same(at + "passed " + n, () -> x.passed(n, true), () -> m.passed(n, true));
            same(at + "passed " + n, () -> x.passed(n, false), () -> m.passed(n, false));
        }
        same(at + "period", x::period, m::period);
        same(at + "isSound", x::isSound, m::isSound);
    }

    // ---- numbers that are the same in each test

    private static int next() {
        seed = seed * 6364136223846793005L + 1442695040888963407L;
        return (int) (seed >>> 33);
    }

    private static int below(int bound) {
        return next() % bound;
    }

    /** Within the bounds mostly; at times on their edges, just beyond, or far away. */
    private static int askew(int least, int most) {
        int chance = below(60);
        if (chance < 6) {
            return new int[] {least, most, least - 1, most + 1, Integer.MIN_VALUE, Integer.MAX_VALUE}[chance];
        }
        return least + below(most - least + 1);
    }

    private static int teeth() {
        return palette.length == 0 || below(20) == 0 ? askew(4, 100) : palette[below(palette.length)];
    }
}
