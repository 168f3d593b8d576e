import java.math.BigInteger;

/** Promises 21 and 22: train and best, by hand and against plain searches through all there is. */
public final class SearchTest {
    private static final Greenwheels X = new Greenwheels();

    public static void main(String[] args) {
        trainRefuses();
        trainByHand();
        trainAgainstAll();
        trainOfAllWheels();
        bestRefuses();
        bestByHand();
        bestAgainstAll();
        Due.is("21, 22: nothing changed", X.digest(), new Greenwheels().digest());
        Due.end();
    }

    private static void trainRefuses() {
        Due.refuses("21: upper 0", Due.ARGUMENT, () -> X.train(0, 1, 0));
        Due.refuses("21: upper 3601", Due.ARGUMENT, () -> X.train(3601, 1, 0));
        Due.refuses("21: lower 0", Due.ARGUMENT, () -> X.train(1, 0, 0));
        Due.refuses("21: lower 3601", Due.ARGUMENT, () -> X.train(1, 3601, 0));
        Due.refuses("21: below", Due.ARGUMENT, () -> X.train(-1, -1, 0));
        Due.refuses("21: what -1", Due.ARGUMENT, () -> X.train(1, 1, -1));
        Due.refuses("21: what 5", Due.ARGUMENT, () -> X.train(1, 1, 5));
    }

    private static void trainByHand() {
        Due.is("21: 1/1", train(1, 1), "1 10 10 -1 -1");
        Due.is("21: 2/3", train(2, 3), "1 10 15 -1 -1");
        Due.is("21: not reduced", train(3600, 1800), "1 20 10 -1 -1");
        Due.is("21: 60/59", train(60, 59), "1 60 59 -1 -1");
        Due.is("21: 6/1", train(6, 1), "1 60 10 -1 -1");
        Due.is("21: 1/6", train(1, 6), "1 10 60 -1 -1");
        Due.is("21: 7/1", train(7, 1), "2 25 10 28 10");
        Due.is("21: 235/19", train(235, 19), "2 47 10 50 19");
        Due.is("21: 36/1", train(36, 1), "2 60 10 60 10");
        Due.is("21: 1/36", train(1, 36), "2 10 60 10 60");
        Due.is("21: 37/1", train(37, 1), "-1 -1 -1 -1 -1");
        Due.is("21: 61/60", train(61, 60), "-1 -1 -1 -1 -1");
        Due.is("21: 3600/3481", train(3600, 3481), "2 60 59 60 59");
        Due.is("21: 3599/3600", train(3599, 3600), "-1 -1 -1 -1 -1");
    }

    private static void trainAgainstAll() {
        int[] uppers = {1, 2, 5, 7, 12, 13, 19, 22, 49, 60, 64, 77, 99, 100, 121, 128, 169, 235, 254, 360, 720, 1001,
            1024, 1771, 2209, 2401, 3364, 3481, 3540, 3599, 3600};
        for (int p : uppers) {
            for (int q : uppers) {
                Due.is("21: " + p + "/" + q, train(p, q), slowTrain(p, q));
            }
        }
    }

    /** Each rate that four wheels can come to has its train, and with two pairs it is the first one of the fewest teeth. */
    private static void trainOfAllWheels() {
        int[] fewest = new int[4096 * 4096];
        int[] wheels = new int[4096 * 4096];
        for (int k = 0; k < 51 * 51 * 51 * 51; k++) {
            int a = 10 + k / (51 * 51 * 51);
            int b = 10 + k / (51 * 51) % 51;
            int c = 10 + k / 51 % 51;
            int d = 10 + k % 51;
            int common = BigInteger.valueOf(a * c).gcd(BigInteger.valueOf(b * d)).intValue();
            int rate = a * c / common * 4096 + b * d / common;
            if (fewest[rate] == 0 || a + b + c + d < fewest[rate]) {
                fewest[rate] = a + b + c + d;
                wheels[rate] = ((a * 64 + b) * 64 + c) * 64 + d;
            }
        }
        int wrong = 0;
        for (int rate = 0; rate < fewest.length; rate++) {
            int p = rate / 4096;
            int q = rate % 4096;
            int pairs = fewest[rate] == 0 ? -1 : X.train(p, q, 0);
            if (fewest[rate] != 0 && pairs == -1) {
                wrong++;
            }
            if (pairs == 2) {
                int found = ((X.train(p, q, 1) * 64 + X.train(p, q, 2)) * 64 + X.train(p, q, 3)) * 64 + X.train(p, q, 4);
                wrong += found == wheels[rate] ? 0 : 1;
            }
        }
        Due.is("21: rates of four wheels with a wrong train", wrong, 0);
    }

    private static String train(int p, int q) {
        String text = "" + X.train(p, q, 0);
        for (int what = 1; what <= 4; what++) {
            text += " " + X.train(p, q, what);
        }
        return text;
    }

    /** All wheels in the order of a, b, c: the first one with the fewest teeth stays. */
    static String slowTrain(int p, int q) {
        for (int sum = 20; sum <= 120; sum++) {
            for (int a = 10; a <= 60; a++) {
                int b = sum - a;
                if (b >= 10 && b <= 60 && a * q == b * p) {
                    return "1 " + a + " " + b + " -1 -1";
                }
            }
        }
        int fewest = Integer.MAX_VALUE;
        String found = "-1 -1 -1 -1 -1";
        for (int a = 10; a <= 60; a++) {
            for (int b = 10; b <= 60; b++) {
                for (int c = 10; c <= 60; c++) {
                    int upper = a * c * q;
                    int d = upper / (b * p);
                    if (d >= 10 && d <= 60 && d * b * p == upper && a + b + c + d < fewest) {
                        fewest = a + b + c + d;
                        found = "2 " + a + " " + b + " " + c + " " + d;
                    }
                }
            }
        }
        return found;
    }

    private static void bestRefuses() {
        Due.refuses("22: upper -1", Due.ARGUMENT, () -> X.best(-1, 1, 1, true));
        Due.refuses("22: upper 10000", Due.ARGUMENT, () -> X.best(10000, 1, 1, true));
        Due.refuses("22: lower 0", Due.ARGUMENT, () -> X.best(1, 0, 1, true));
        Due.refuses("22: lower 10000", Due.ARGUMENT, () -> X.best(1, 10000, 1, true));
        Due.refuses("22: limit 0", Due.ARGUMENT, () -> X.best(1, 1, 0, true));
        Due.refuses("22: limit 301", Due.ARGUMENT, () -> X.best(1, 1, 301, true));
    }

    private static void bestByHand() {
        Due.is("22: pi to 100", best(355, 113, 100), "311/99");
        Due.is("22: pi to 112", best(355, 113, 112), "333/106");
        Due.is("22: pi to 113", best(355, 113, 113), "355/113");
        Due.is("22: pi to 300", best(355, 113, 300), "355/113");
        Due.is("22: not reduced", best(50, 100, 300), "1/2");
        Due.is("22: of two the least x", best(1, 2, 1), "0/1");
        Due.is("22: 3/2 to 1", best(3, 2, 1), "1/1");
        Due.is("22: 0", best(0, 7, 9), "0/1");
        Due.is("22: small", best(1, 9999, 300), "0/1");
        Due.is("22: half of 1/300", best(1, 600, 300), "0/1");
        Due.is("22: a little above", best(1, 599, 300), "1/300");
        Due.is("22: large", best(9999, 1, 300), "9999/1");
        Due.is("22: large", best(9999, 2, 1), "4999/1");
        Due.is("22: of two the least y", best(5, 12, 3), "1/2");
    }

    private static void bestAgainstAll() {
        int[] uppers = {0, 1, 2, 3, 7, 50, 113, 254, 355, 1000, 4999, 5001, 9998, 9999};
        int[] lowers = {1, 2, 3, 8, 19, 97, 113, 600, 601, 5000, 9973, 9999};
        int[] limits = {1, 2, 3, 4, 5, 17, 99, 299, 300};
        for (int p : uppers) {
            for (int q : lowers) {
                for (int limit : limits) {
                    Due.is("22: " + p + "/" + q + " to " + limit, best(p, q, limit), slowBest(p, q, limit));
                }
            }
        }
    }

    private static String best(int p, int q, int limit) {
        return X.best(p, q, limit, true) + "/" + X.best(p, q, limit, false);
    }

    static String slowBest(int p, int q, int limit) {
        long x = 0;
        long y = 1;
        for (long nextY = 1; nextY <= limit; nextY++) {
            long middle = p * nextY / q;
            for (long nextX = Math.max(0, middle - 3); nextX <= middle + 3; nextX++) {
                if (Math.abs(nextX * q - p * nextY) * y < Math.abs(x * q - p * y) * nextY) {
                    x = nextX;
                    y = nextY;
                }
            }
        }
        return x + "/" + y;
    }
}
