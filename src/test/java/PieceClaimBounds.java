import java.util.List;

/** What section 2 of the document and promises 7 to 9, 15 and 16 say of lumps, pieces and claims. */
final class PieceClaimBounds {
    private static final String HEAD = "2. Pieces";

    private PieceClaimBounds() {
    }

    static void all() {
        lumpsAre0To5();
        aCountAgreesWithAPiece();
        aCountAgreesWithALump();
        piece();
        ofLump();
        claimsAtMost12();
        aClaimStands();
        claim();
        withdraw();
        ofClaim();
    }

    private static void lumpsAre0To5() {
        Sentence s = Sentence.of(HEAD, "LUMPS are 0 to 5, each with at most 6 PIECES.");
        Greenwheels x = new Greenwheels();
        for (int lump = 5; lump >= 0; lump--) {
            for (int k = 1; k <= 6; k++) {
                s.is("pieces of lump " + lump, x.piece(lump, k, 20, lump), k);
                s.is("of it", x.ofLump(lump, 0), k);
            }
            s.is("all so far", x.house(6), 6 * (6 - lump));
        }
        for (int k = 0; k <= 5; k++) {
            int lump = k;
            Due.refuses("a 7th of " + k, Due.STATE, () -> x.piece(lump, 1, 1, 0));
        }
        s.is("all there can be", x.house(6), 36);
    }

    private static void aCountAgreesWithAPiece() {
        Sentence s = Sentence.of(HEAD, "A COUNT of TEETH (4 to 240) AGREES with a PIECE, if COUNT * DEGREES"
                + " and 360 * the TEETH that are seen differ by no more than COUNT * DOUBT.");
        s.is("the least count, exactly", agreeing(1, 90, 0), "1 4 4");
        s.is("3 is none", agreeing(1, 120, 0), "0 -1 -1");
        s.is("the greatest count, exactly", agreeing(100, 150, 0), "1 240 240");
        s.is("240 of 2", agreeing(2, 3, 0), "1 240 240");
        s.is("360 is none", agreeing(1, 1, 0), "0 -1 -1");
        s.is("no whole count", agreeing(7, 360, 0), "1 7 7");
        s.is("no whole count", agreeing(7, 359, 0), "0 -1 -1");
        s.is("exactly that much more, exactly that much less", agreeing(10, 50, 5), "15 66 80");
        s.is("the doubt reaches 80 just so", agreeing(10, 45, 0), "1 80 80");
        s.is("more than 80 by a doubt of as many degrees", agreeing(10, 46, 1), "4 77 80");
        s.is("less than 60 by a doubt of as many degrees", agreeing(10, 59, 1), "3 60 62");
        s.is("a doubt as large as the degrees", agreeing(1, 1, 1), "61 180 240");
        s.is("a doubt larger than they", agreeing(1, 1, 2), "121 120 240");
        s.is("the largest doubt, the fewest degrees", agreeing(1, 1, 90), "237 4 240");
        s.is("with 2 teeth", agreeing(2, 1, 90), "233 8 240");
        s.is("with all teeth", agreeing(100, 1, 90), "0 -1 -1");
        s.is("all teeth, all degrees, all doubt", agreeing(100, 360, 90), "54 80 133");
        s.is("all teeth, all degrees, no doubt", agreeing(100, 360, 0), "1 100 100");
        s.is("one tooth, all degrees, all doubt", agreeing(1, 360, 90), "0 -1 -1");
        s.is("three teeth, all degrees, all doubt", agreeing(3, 360, 90), "1 4 4");
        s.is("all teeth, 60 degrees, 90 doubt", agreeing(100, 60, 90), "1 240 240");
        s.is("all teeth, 59 degrees, 90 doubt", agreeing(100, 59, 90), "0 -1 -1");
    }

    private static String agreeing(int teeth, int degrees, int doubt) {
        Greenwheels x = Scene.NEW.made();
        x.piece(5, teeth, degrees, doubt);
        return told(x, 5);
    }

    private static String told(Greenwheels x, int lump) {
        return x.ofLump(lump, 1) + " " + x.ofLump(lump, 2) + " " + x.ofLump(lump, 3);
    }

    private static void aCountAgreesWithALump() {
        Sentence s = Sentence.of(HEAD,
                "It AGREES with a LUMP, if it does with all its PIECES (with no PIECES each COUNT does).");
        int[][] pieces = {{1, 2, 1}, {10, 20, 3}, {20, 40, 4}, {30, 60, 4}, {40, 80, 3}, {50, 100, 0}};
        String[] due = {"121 120 240", "55 157 211", "37 164 200", "24 169 192", "14 174 187", "1 180 180"};
        for (int lump = 0; lump <= 5; lump++) {
            Greenwheels x = new Greenwheels();
            Greenwheels turnedRound = new Greenwheels();
            s.is("with no pieces " + lump, told(x, lump), "237 4 240");
            for (int k = 0; k < 6; k++) {
                x.piece(lump, pieces[k][0], pieces[k][1], pieces[k][2]);
                s.is("with " + (k + 1) + " pieces of lump " + lump, told(x, lump), due[k]);
                int[] back = pieces[5 - k];
                turnedRound.piece(lump, back[0], back[1], back[2]);
                s.is("the narrowest first", told(turnedRound, lump), "1 180 180");
            }
            s.is("each lump has its own", told(x, (lump + 1) % 6), "237 4 240");
        }
        Greenwheels x = new Greenwheels();
        x.piece(0, 50, 100, 0);
        x.piece(0, 50, 99, 0);
        s.is("with none of both", told(x, 0), "0 -1 -1");
    }

    private static void piece() {
        Sentence many = Sentence.of("Promise 7:", "Returns how many PIECES of that LUMP there are then.");
        Greenwheels x = Scene.SOME.made();
        many.is("the second", x.piece(0, 1, 1, 0), 2);
        many.is("the first of the last lump", x.piece(5, 100, 360, 90), 1);
        Sentence lump = Sentence.of("Promise 7:", "Throws IndexOutOfBoundsException if lump is not 0 to 5");
        Sentence teeth = Sentence.of("Promise 7:", "Throws IllegalArgumentException if teeth is not 1 to 100,"
                + " degrees not 1 to 360, or doubt not 0 to 90");
        for (Scene scene : List.of(Scene.NEW, Scene.SOME)) {
            lump.range("piece(lump, 10, 60, 2)", scene, 0, 5, Due.BOUNDS, (y, l) -> y.piece(l, 10, 60, 2));
            teeth.range("piece(5, teeth, 60, 2)", scene, 1, 100, Due.ARGUMENT, (y, t) -> y.piece(5, t, 60, 2));
            teeth.range("piece(0, 10, degrees, 2)", scene, 1, 360, Due.ARGUMENT, (y, d) -> y.piece(0, 10, d, 2));
            teeth.range("piece(3, 10, 60, doubt)", scene, 0, 90, Due.ARGUMENT, (y, d) -> y.piece(3, 10, 60, d));
        }
        Sentence full = Sentence.of("Promise 7:", "Throws IllegalStateException if that LUMP has 6");
        Scene six = Scene.NEW.named("a lump of six");
        for (int k = 1; k <= 6; k++) {
            full.is("there is room for " + k, six.made().piece(2, 1, 90, 0), k);
            six = six.then(y -> y.piece(2, 1, 90, 0));
        }
        full.refuses("a 7th", Due.STATE, six, y -> y.piece(2, 1, 90, 0));
        full.refuses("a 7th that would take all away", Due.STATE, six, y -> y.piece(2, 100, 1, 0));
        full.is("another lump has room", six.made().piece(3, 1, 90, 0), 1);
        for (int k = 0; k <= 5; k++) {
            int which = k;
            full.refuses("of lump " + k, Due.STATE, Scene.FULL, y -> y.piece(which, 1, 1, 0));
        }
    }

    private static void ofLump() {
        Sentence s = Sentence.of("Promise 15:", "0 PIECES, 1 how many COUNTS AGREE, 2 the least of them,"
                + " 3 the greatest one (2 and 3: NONE without any)");
        Greenwheels x = Scene.NEW.made();
        s.is("no pieces", x.ofLump(0, 0) + " " + told(x, 0), "0 237 4 240");
        x.piece(0, 1, 1, 0);
        s.is("without any", x.ofLump(0, 0) + " " + told(x, 0), "1 0 -1 -1");
        x.piece(0, 1, 90, 90);
        s.is("without any, still", x.ofLump(0, 0) + " " + told(x, 0), "2 0 -1 -1");
        x.piece(5, 1, 90, 0);
        s.is("one alone", x.ofLump(5, 0) + " " + told(x, 5), "1 1 4 4");
        Sentence.of("Description", "NONE is -1.").is("the least of none", x.ofLump(0, 2), -1)
                .is("no train", x.train(37, 1, 0), -1);
        Sentence lump = Sentence.of("Promise 15:", "Throws IndexOutOfBoundsException if lump is not 0 to 5");
        Sentence what = Sentence.of("Promise 15:", "Throws IllegalArgumentException if what is not 0 to 3");
        for (Scene scene : List.of(Scene.NEW, Scene.FULL)) {
            lump.range("ofLump(lump, 3)", scene, 0, 5, Due.BOUNDS, (y, l) -> y.ofLump(l, 3));
            what.range("ofLump(0, what)", scene, 0, 3, Due.ARGUMENT, (y, w) -> y.ofLump(0, w));
            what.range("ofLump(5, what)", scene, 0, 3, Due.ARGUMENT, (y, w) -> y.ofLump(5, w));
        }
    }

    private static void claimsAtMost12() {
        Sentence s = Sentence.of(HEAD, "CLAIMS: at most 12, numbered from 0, each hanging on a set of those"
                + " that were made ahead of it; WITHDRAWN, or not (not at first).");
        Greenwheels none = new Greenwheels();
        Greenwheels all = new Greenwheels();
        for (int k = 0; k < 12; k++) {
            s.is("number, on none", none.claim(0), k);
            s.is("number, on all ahead", all.claim((1 << k) - 1), k);
            s.is("not withdrawn at first", all.ofClaim(k, 1) + " " + none.ofClaim(k, 1), "0 0");
            s.is("on none", none.ofClaim(k, 0), 0);
            s.is("on all ahead", all.ofClaim(k, 0), (1 << k) - 1);
        }
        s.is("all of them", none.house(4) + " " + all.house(4), "12 12");
        Due.refuses("a 13th", Due.STATE, () -> none.claim(0));
        Due.refuses("a 13th on all", Due.STATE, () -> all.claim(4095));
        s.is("still all of them", none.house(4) + " " + all.house(4), "12 12");
    }

    private static void aClaimStands() {
        Sentence s = Sentence.of(HEAD, "A CLAIM STANDS, if it is not WITHDRAWN, and all on which it hangs STAND.");
        Greenwheels chain = new Greenwheels();
        for (int k = 0; k < 12; k++) {
            chain.claim(k == 0 ? 0 : 1 << (k - 1));
        }
        s.is("a chain", chain.house(5), 12);
        for (int k = 11; k >= 0; k--) {
            s.is("withdrawn from " + k + " on", chain.withdraw(k, true), k);
        }
        s.is("the far end taken back", chain.withdraw(0, false), 1);
        s.is("another one behind a gap", chain.withdraw(2, false), 1);
        s.is("the gap", chain.withdraw(1, false), 3);
        Greenwheels one = new Greenwheels();
        one.claim(0);
        one.claim(0);
        one.claim(3);
        one.withdraw(1, true);
        s.is("all on which it hangs, not one of them", one.ofClaim(2, 2), 0);
        one.withdraw(2, true);
        one.withdraw(1, false);
        s.is("itself", one.ofClaim(2, 2), 0);
        s.is("on none", one.ofClaim(0, 2), 1);
    }

    private static void claim() {
        Sentence number = Sentence.of("Promise 8:", "Returns its number.");
        number.is("the first", Scene.NEW.made().claim(0), 0);
        number.is("the fourth", Scene.SOME.made().claim(7), 3);
        Sentence set = Sentence.of("Promise 8:", "Throws IllegalArgumentException if on is no set of CLAIMS that there are");
        Scene scene = Scene.NEW;
        for (int k = 0; k <= 12; k++) {
            int beyond = 1 << k;
            Scene now = scene.named(k + " claims");
            for (int no : new int[] {-1, -beyond, beyond, beyond | beyond - 1, 1 << 30, Integer.MIN_VALUE, Integer.MAX_VALUE}) {
                set.refuses("claim(" + no + ")", Due.ARGUMENT, now, x -> x.claim(no));
            }
            if (k < 12) {
                set.is("none of " + k, now.made().claim(0), k);
                set.is("all of " + k, now.made().claim(beyond - 1), k);
            }
            scene = now.then(x -> x.claim(beyond - 1));
        }
        Sentence full = Sentence.of("Promise 8:", "Throws IllegalStateException if there are 12");
        full.refuses("claim(0)", Due.STATE, Scene.FULL, x -> x.claim(0));
        full.refuses("claim(2048)", Due.STATE, Scene.FULL, x -> x.claim(2048));
        full.refuses("claim(4095)", Due.STATE, Scene.FULL, x -> x.claim(4095));
    }

    private static void withdraw() {
        Sentence s = Sentence.of("Promise 9:", "Returns how many CLAIMS STAND then.");
        Greenwheels x = Scene.NEW.made();
        x.claim(0);
        s.is("the only one", x.withdraw(0, true), 0);
        s.is("again", x.withdraw(0, true), 0);
        s.is("taken back", x.withdraw(0, false), 1);
        s.is("again", x.withdraw(0, false), 1);
        for (int k = 1; k < 12; k++) {
            x.claim(1);
        }
        s.is("the last of 12", x.withdraw(11, true), 11);
        s.is("on which all hang", x.withdraw(0, true), 0);
        s.is("taken back", x.withdraw(11, false), 0);
        s.is("all", x.withdraw(0, false), 12);
        noSuchClaim(Sentence.of("Promise 9:", "Throws IndexOutOfBoundsException if there is no such CLAIM"), "withdraw",
                (y, claim) -> y.withdraw(claim, true));
    }

    /** The claims next to those that there are, on both sides, with none, some and all of them. */
    private static void noSuchClaim(Sentence s, String call, Sentence.NumberAct act) {
        for (int none : new int[] {0, 1, -1, Integer.MIN_VALUE, Integer.MAX_VALUE}) {
            s.refuses(call + " of " + none, Due.BOUNDS, Scene.NEW, x -> act.on(x, none));
        }
        s.range(call, Scene.SOME, 0, 2, Due.BOUNDS, act);
        s.range(call, Scene.FULL, 0, 11, Due.BOUNDS, act);
    }

    private static void ofClaim() {
        Sentence is = Sentence.of("Promise 16:", "1 1 if it is WITHDRAWN, otherwise 0, 2 1 if it STANDS, otherwise 0");
        Greenwheels two = Scene.NEW.then(y -> y.claim(0)).then(y -> y.claim(1)).made();
        is.is("both stand", isWithdrawnStands(two), "0 1, 0 1");
        two.withdraw(1, true);
        is.is("the second one is withdrawn", isWithdrawnStands(two), "0 1, 1 0");
        two.withdraw(0, true);
        is.is("both are withdrawn", isWithdrawnStands(two), "1 0, 1 0");
        two.withdraw(1, false);
        is.is("the first one is withdrawn", isWithdrawnStands(two), "1 0, 0 0");
        Sentence s = Sentence.of("Promise 16:", "3 how many CLAIMS that STAND would not, if it was WITHDRAWN"
                + " (it, too, if it STANDS)");
        Greenwheels x = new Greenwheels();
        for (int k = 0; k < 12; k++) {
            x.claim(k == 0 ? 0 : 1);
        }
        s.is("all of them", x.ofClaim(0, 3), 12);
        s.is("the last one alone", x.ofClaim(11, 3), 1);
        x.withdraw(11, true);
        s.is("it does not stand", x.ofClaim(11, 3), 0);
        s.is("one fewer", x.ofClaim(0, 3), 11);
        x.withdraw(0, true);
        s.is("none stands", x.ofClaim(0, 3) + " " + x.ofClaim(5, 3), "0 0");
        s.is("asking withdraws none", x.ofClaim(5, 1), 0);
        noSuchClaim(Sentence.of("Promise 16:", "Throws IndexOutOfBoundsException if there is no such CLAIM"), "ofClaim",
                (y, claim) -> y.ofClaim(claim, 3));
        Sentence what = Sentence.of("Promise 16:", "Throws IllegalArgumentException if what is not 0 to 3");
        what.range("ofClaim(0, what)", Scene.SOME, 0, 3, Due.ARGUMENT, (y, w) -> y.ofClaim(0, w));
        what.range("ofClaim(11, what)", Scene.FULL, 0, 3, Due.ARGUMENT, (y, w) -> y.ofClaim(11, w));
    }

    private static String isWithdrawnStands(Greenwheels x) {
        return x.ofClaim(0, 1) + " " + x.ofClaim(0, 2) + ", " + x.ofClaim(1, 1) + " " + x.ofClaim(1, 2);
    }
}
