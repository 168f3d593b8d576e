/** Promises 7 to 9, 15 and 16: piece, claim, withdraw, ofLump, ofClaim. */
public final class PieceClaimTest {
    public static void main(String[] args) {
        piece();
        pieceAgrees();
        ofLump();
        claim();
        withdraw();
        ofClaim();
        Due.end();
    }

    private static void piece() {
        Greenwheels x = new Greenwheels();
        Due.refuses("7: lump -1", Due.BOUNDS, () -> x.piece(-1, 1, 1, 0));
        Due.refuses("7: lump 6", Due.BOUNDS, () -> x.piece(6, 1, 1, 0));
        Due.refuses("7: lump first", Due.BOUNDS, () -> x.piece(6, 0, 0, -1));
        Due.refuses("7: teeth 0", Due.ARGUMENT, () -> x.piece(0, 0, 1, 0));
        Due.refuses("7: teeth 101", Due.ARGUMENT, () -> x.piece(0, 101, 1, 0));
        Due.refuses("7: degrees 0", Due.ARGUMENT, () -> x.piece(0, 1, 0, 0));
        Due.refuses("7: degrees 361", Due.ARGUMENT, () -> x.piece(0, 1, 361, 0));
        Due.refuses("7: doubt -1", Due.ARGUMENT, () -> x.piece(0, 1, 1, -1));
        Due.refuses("7: doubt 91", Due.ARGUMENT, () -> x.piece(0, 1, 1, 91));
        Due.is("7: nothing changed", x.house(6), 0);
        Due.is("7: edges", x.piece(0, 100, 360, 90), 1);
        Due.is("7: edges", x.piece(0, 1, 1, 0), 2);
        Due.is("7: another lump", x.piece(5, 50, 180, 3), 1);
        for (int k = 3; k <= 6; k++) {
            Due.is("7: number", x.piece(0, 10, 60, 5), k);
        }
        Due.refuses("7: a 7th", Due.STATE, () -> x.piece(0, 10, 60, 5));
        Due.refuses("7: argument first", Due.ARGUMENT, () -> x.piece(0, 10, 60, 91));
        Due.is("7: all", x.house(6), 7);
        Due.is("7: of the lump", x.ofLump(0, 0), 6);
        Due.is("7: elsewhere", x.piece(1, 10, 60, 5), 1);
        for (int lump = 1; lump < 6; lump++) {
            for (int k = x.ofLump(lump, 0); k < 6; k++) {
                x.piece(lump, 10, 60, 5);
            }
        }
        Due.is("7: all are full", x.house(6), 36);
    }

    private static void pieceAgrees() {
        Greenwheels x = new Greenwheels();
        // 60 teeth exactly; with doubt 2 from 3600/62 (59) up to 3600/58 (62).
        x.piece(0, 10, 60, 0);
        Due.is("7: exactly", lump(x, 0), "1 1 60 60");
        x.piece(1, 10, 60, 2);
        Due.is("7: with doubt", lump(x, 1), "1 4 59 62");
        // The edge belongs to it: 3600 / 50 is 72, 3600 / 45 is 80, with doubt 5 from 45 to 55 degrees: 66 to 80.
        x.piece(2, 10, 50, 5);
        Due.is("7: the edge counts", lump(x, 2), "1 15 66 80");
        x.piece(2, 10, 50, 90);
        Due.is("7: a wider one takes nothing away", lump(x, 2), "2 15 66 80");
        x.piece(2, 20, 100, 0);
        Due.is("7: both have to agree", lump(x, 2), "3 1 72 72");
        x.piece(2, 20, 99, 0);
        Due.is("7: none agrees", lump(x, 2), "4 0 -1 -1");
        x.piece(3, 100, 1, 90);
        Due.is("7: too many for any", lump(x, 3), "1 0 -1 -1");
        x.piece(4, 1, 90, 90);
        Due.is("7: all do", lump(x, 4), "1 237 4 240");
        x.piece(5, 1, 360, 86);
        Due.is("7: the least alone is too many", lump(x, 5), "1 0 -1 -1");
    }

    private static void ofLump() {
        Greenwheels x = new Greenwheels();
        Due.refuses("15: lump -1", Due.BOUNDS, () -> x.ofLump(-1, 0));
        Due.refuses("15: lump 6", Due.BOUNDS, () -> x.ofLump(6, 0));
        Due.refuses("15: lump first", Due.BOUNDS, () -> x.ofLump(6, 4));
        Due.refuses("15: what 4", Due.ARGUMENT, () -> x.ofLump(0, 4));
        Due.refuses("15: what -1", Due.ARGUMENT, () -> x.ofLump(0, -1));
        Due.is("15: without pieces", lump(x, 3), "0 237 4 240");
        x.piece(3, 2, 180, 0);
        Due.is("15: the least count", lump(x, 3), "1 1 4 4");
        x.piece(4, 100, 150, 0);
        Due.is("15: the greatest count", lump(x, 4), "1 1 240 240");
        x.piece(2, 1, 120, 0);
        Due.is("15: below the least", lump(x, 2), "1 0 -1 -1");
        Due.is("15: the other ones stay", lump(x, 5), "0 237 4 240");
    }

    private static void claim() {
        Greenwheels x = new Greenwheels();
        Due.refuses("8: none there", Due.ARGUMENT, () -> x.claim(1));
        Due.refuses("8: below 0", Due.ARGUMENT, () -> x.claim(-1));
        Due.refuses("8: far below", Due.ARGUMENT, () -> x.claim(Integer.MIN_VALUE));
        Due.is("8: nothing changed", x.house(4), 0);
        for (int k = 0; k < 12; k++) {
            int itself = 1 << k;
            Due.refuses("8: on itself " + k, Due.ARGUMENT, () -> x.claim(itself));
            Due.is("8: number", x.claim((1 << k) - 1), k);
            Due.is("8: count", x.house(4), k + 1);
        }
        Due.refuses("8: a 13th", Due.STATE, () -> x.claim(0));
        Due.refuses("8: a 13th on all", Due.STATE, () -> x.claim(4095));
        Due.refuses("8: a 13th on one that is not", Due.ARGUMENT, () -> x.claim(4096));
        Due.refuses("8: a 13th on far ones", Due.ARGUMENT, () -> x.claim(Integer.MAX_VALUE));
        Due.refuses("8: a 13th below 0", Due.ARGUMENT, () -> x.claim(-1));
        Due.is("8: all stand", x.house(5), 12);
        Due.is("8: on what", x.ofClaim(11, 0), 2047);
    }

    private static void withdraw() {
        Greenwheels x = new Greenwheels();
        Due.refuses("9: none", Due.BOUNDS, () -> x.withdraw(0, true));
        x.claim(0);
        x.claim(1);
        x.claim(2);
        x.claim(0);
        Due.refuses("9: above", Due.BOUNDS, () -> x.withdraw(4, true));
        Due.refuses("9: below", Due.BOUNDS, () -> x.withdraw(-1, false));
        Due.is("9: not withdrawn", x.withdraw(1, false), 4);
        Due.is("9: the last", x.withdraw(2, true), 3);
        Due.is("9: again", x.withdraw(2, true), 3);
        Due.is("9: the first", x.withdraw(0, true), 1);
        Due.is("9: back, but hanging on one", x.withdraw(2, false), 1);
        Due.is("9: all back", x.withdraw(0, false), 4);
        Due.is("9: near and far", x.withdraw(0, true), 1);
        Due.is("9: a new one on it", x.claim(1), 4);
        Due.is("9: does not stand", x.ofClaim(4, 2), 0);
        Due.is("9: back", x.withdraw(0, false), 5);
    }

    private static void ofClaim() {
        Greenwheels x = new Greenwheels();
        Due.refuses("16: none", Due.BOUNDS, () -> x.ofClaim(0, 0));
        x.claim(0);
        x.claim(0);
        x.claim(3);
        x.claim(4);
        Due.refuses("16: above", Due.BOUNDS, () -> x.ofClaim(4, 0));
        Due.refuses("16: below", Due.BOUNDS, () -> x.ofClaim(-1, 0));
        Due.refuses("16: claim first", Due.BOUNDS, () -> x.ofClaim(4, 4));
        Due.refuses("16: what 4", Due.ARGUMENT, () -> x.ofClaim(0, 4));
        Due.refuses("16: what -1", Due.ARGUMENT, () -> x.ofClaim(0, -1));
        Due.is("16: 0", claim(x, 0), "0 0 1 3");
        Due.is("16: 1", claim(x, 1), "0 0 1 3");
        Due.is("16: 2", claim(x, 2), "3 0 1 2");
        Due.is("16: 3", claim(x, 3), "4 0 1 1");
        x.withdraw(2, true);
        Due.is("16: 0 then", claim(x, 0), "0 0 1 1");
        Due.is("16: 2 then", claim(x, 2), "3 1 0 0");
        Due.is("16: 3 then", claim(x, 3), "4 0 0 0");
        Due.is("16: asking changes nothing", x.house(5), 2);
    }

    private static String lump(Greenwheels x, int lump) {
        return x.ofLump(lump, 0) + " " + x.ofLump(lump, 1) + " " + x.ofLump(lump, 2) + " " + x.ofLump(lump, 3);
    }

    private static String claim(Greenwheels x, int claim) {
        return x.ofClaim(claim, 0) + " " + x.ofClaim(claim, 1) + " " + x.ofClaim(claim, 2) + " " + x.ofClaim(claim, 3);
    }
}
