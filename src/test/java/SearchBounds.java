import java.util.List;

/** What section 2 of the document and promises 21 and 22 say of trains and best fractions. */
final class SearchBounds {
    private static final String HEAD = "2. Pieces";

    private SearchBounds() {
    }

    static void all() {
        withOnePair();
        ofSeveral();
        train();
        bestFraction();
        best();
    }

    private static String train(int p, int q) {
        Greenwheels x = Scene.NEW.made();
        String text = "" + x.train(p, q, 0);
        for (int what = 1; what <= 4; what++) {
            text += " " + x.train(p, q, what);
        }
        return text;
    }

    private static void withOnePair() {
        Sentence s = Sentence.of(HEAD, "A TRAIN for a rate of p / q: first with one pair of WHEELS, of a and b TEETH"
                + " (10 to 60 each), so that a / b is that rate; if there is none, with two pairs, a and b, c and d"
                + " (10 to 60 each, too), so that (a / b) * (c / d) is.");
        s.is("60 and 10", train(6, 1), "1 60 10 -1 -1");
        s.is("10 and 60", train(1, 6), "1 10 60 -1 -1");
        s.is("60 and 59", train(60, 59), "1 60 59 -1 -1");
        s.is("59 and 60", train(59, 60), "1 59 60 -1 -1");
        s.is("59 and 10", train(59, 10), "1 59 10 -1 -1");
        s.is("10 and 59", train(10, 59), "1 10 59 -1 -1");
        s.is("11 and 10", train(11, 10), "1 11 10 -1 -1");
        s.is("no 9", train(59, 9), "2 16 12 59 12");
        s.is("no 9 ahead", train(9, 59), "2 12 16 12 59");
        s.is("no 61", train(61, 10), "-1 -1 -1 -1 -1");
        s.is("no 61 behind", train(10, 61), "-1 -1 -1 -1 -1");
        s.is("61 has no two pairs either", train(61, 60), "-1 -1 -1 -1 -1");
        s.is("7 / 1 has no one pair", train(7, 1), "2 25 10 28 10");
        s.is("1 / 7 has none", train(1, 7), "2 10 25 10 28");
        s.is("the greatest rate", train(36, 1), "2 60 10 60 10");
        s.is("the least rate", train(1, 36), "2 10 60 10 60");
        s.is("more than the greatest", train(37, 1), "-1 -1 -1 -1 -1");
        s.is("less than the least", train(1, 37), "-1 -1 -1 -1 -1");
        s.is("the largest numbers that serve", train(3600, 3481), "2 60 59 60 59");
        s.is("turned round", train(3481, 3600), "2 59 60 59 60");
        s.is("the largest ones that do not", train(3599, 3600), "-1 -1 -1 -1 -1");
        s.is("a divisor together", train(3600, 3600), "1 10 10 -1 -1");
        s.is("a large divisor together", train(3540, 3481), "1 60 59 -1 -1");
        s.is("a divisor together, two pairs", train(3600, 100), "2 60 10 60 10");
        s.is("3600 / 1", train(3600, 1), "-1 -1 -1 -1 -1");
        s.is("1 / 3600", train(1, 3600), "-1 -1 -1 -1 -1");
    }

    private static void ofSeveral() {
        Sentence s = Sentence.of(HEAD, "Of several that with the fewest TEETH in all, then with the least a,"
                + " then with the least b, then with the least c (then d follows).");
        s.is("one pair: 10 and 10 of all alike", train(1, 1), "1 10 10 -1 -1");
        s.is("one pair: 10 and 15, not 20 and 30", train(2, 3), "1 10 15 -1 -1");
        s.is("one pair: 9 would be fewer", train(9, 10), "1 18 20 -1 -1");
        s.is("one pair comes first, with more teeth, too", train(11, 2), "1 55 10 -1 -1");
        s.is("the least a: 25 and 28, not 28 and 25", train(7, 1), "2 25 10 28 10");
        s.is("the least b: 10 and 19, not 19 and 10", train(235, 19), "2 47 10 50 19");
        s.is("the least of both", train(13, 100), "2 10 25 13 40");
        s.is("the fewest in all, not the least a", train(11, 1), "2 25 10 44 10");
        s.is("c is not the least", train(53, 5), "2 20 10 53 10");
        s.is("a and c alike", train(121, 81), SearchTest.slowTrain(121, 81));
    }

    private static void train() {
        Sentence s = Sentence.of("Promise 21:", "Returns that; NONE without a TRAIN, or without such a WHEEL in it.");
        for (int what = 0; what <= 4; what++) {
            s.is("no train " + what, Scene.NEW.made().train(3600, 1, what), -1);
            s.is("no train behind one " + what, behindOne(37, what), -1);
            s.is("one pair behind two " + what, behindOne(1, what), new int[] {1, 10, 10, -1, -1}[what]);
        }
        Sentence refused = Sentence.of("Promise 21:",
                "Throws IllegalArgumentException if upper or lower is not 1 to 3600, or what not 0 to 4");
        for (Scene scene : List.of(Scene.NEW, Scene.FULL)) {
            refused.range("train(upper, 3481, 4)", scene, 1, 3600, Due.ARGUMENT, (x, p) -> x.train(p, 3481, 4));
            refused.range("train(3600, lower, 4)", scene, 1, 3600, Due.ARGUMENT, (x, q) -> x.train(3600, q, 4));
            refused.range("train(36, 1, what)", scene, 0, 4, Due.ARGUMENT, (x, w) -> x.train(36, 1, w));
            refused.refuses("train(0, 0, 5)", Due.ARGUMENT, scene, x -> x.train(0, 0, 5));
        }
    }

    private static int behindOne(int p, int what) {
        Greenwheels x = Scene.NEW.made();
        x.train(36, 1, 4);
        return x.train(p, 1, what);
    }

    private static String best(int p, int q, int limit) {
        Greenwheels x = Scene.NEW.made();
        return x.best(p, q, limit, true) + "/" + x.best(p, q, limit, false);
    }

    private static void bestFraction() {
        Sentence s = Sentence.of(HEAD, "The BEST FRACTION of p / q up to a LIMIT: of all x / y with x of 0 or more and y of"
                + " 1 to LIMIT that which differs least from p / q; of several that with the least y, then with the least x.");
        s.is("x of 0", best(0, 1, 1), "0/1");
        s.is("x of 0, the least y", best(0, 9999, 300), "0/1");
        s.is("x of 0 is nearer", best(1, 9999, 300), "0/1");
        s.is("y of 1", best(9999, 1, 1), "9999/1");
        s.is("y of 1 up to 300", best(9999, 1, 300), "9999/1");
        s.is("y of the limit", best(1, 300, 300), "1/300");
        s.is("y beyond the limit", best(1, 300, 299), "1/299");
        s.is("near 1, at the limit", best(299, 300, 300), "299/300");
        s.is("near 1, beyond the limit", best(299, 300, 299), "298/299");
        s.is("above 1, at the limit", best(301, 300, 300), "301/300");
        s.is("the limit of pi", best(355, 113, 113), "355/113");
        s.is("one below it", best(355, 113, 112), "333/106");
        s.is("large, at the limit", best(9998, 299, 299), "9998/299");
        s.is("large, beyond the limit", best(9998, 299, 298), "6487/194");
        s.is("large", best(9999, 301, 300), "6212/187");
        s.is("a divisor together", best(9999, 9999, 300), "1/1");
        s.is("a divisor together that counts", best(9999, 300, 300), "3333/100");
        s.is("the largest numbers that differ", best(9998, 9999, 300), "1/1");
        s.is("just below a half", best(4999, 9999, 300), "1/2");
        s.is("of two the least y: 0 / 1 and 1 / 300", best(1, 600, 300), "0/1");
        s.is("a little nearer to 1 / 300", best(1, 599, 300), "1/300");
        s.is("a little nearer to 0", best(1, 601, 300), "0/1");
        s.is("of two the least y: 1 / 2 and 1 / 3", best(5, 12, 3), "1/2");
        s.is("of two the least y: 1 / 3 and 1 / 4", best(7, 24, 4), "1/3");
        s.is("of two with the same y the least x", best(1, 2, 1), "0/1");
        s.is("of 1 and 2", best(3, 2, 1), "1/1");
        s.is("of 4999 and 5000", best(9999, 2, 1), "4999/1");
        s.is("no two at the next limit", best(9999, 2, 2), "9999/2");
    }

    private static void best() {
        Sentence refused = Sentence.of("Promise 22:", "Throws IllegalArgumentException if upper is not 0 to 9999,"
                + " lower not 1 to 9999, or limit not 1 to 300");
        for (Scene scene : List.of(Scene.NEW, Scene.FULL)) {
            refused.range("best(upper, 9999, 300)", scene, 0, 9999, Due.ARGUMENT, (x, p) -> x.best(p, 9999, 300, true));
            refused.range("best(0, lower, 1)", scene, 1, 9999, Due.ARGUMENT, (x, q) -> x.best(0, q, 1, false));
            refused.range("best(9999, 1, limit)", scene, 1, 300, Due.ARGUMENT, (x, l) -> x.best(9999, 1, l, true));
            refused.refuses("best(-1, 0, 0)", Due.ARGUMENT, scene, x -> x.best(-1, 0, 0, false));
        }
    }
}
