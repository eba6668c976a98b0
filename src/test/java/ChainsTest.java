/** Terms, CHAINS: which certificates may stand in one, how long it may be, and where the search ends. */
public final class ChainsTest extends Maker {
    private static final Due DUE = new Due("ChainsTest");

    public static void main(String[] args) {
        beginsWithAnAnchorAndEndsWithTheTarget();
        subjectIsTheIssuerBehind();
        noneIsThereTwice();
        copiesAreTwo();
        nothingBehindAnAnchor();
        greatestLength();
        lesserNumberFirst();
        fortyCandidatesAndNoMore();
        reasonOfTheFortieth();
        holdsAsTheFortieth();
        oneCertificateHolds();
        DUE.end();
    }

    private static void found(String what, CertificateVault x, int got, int candidates, int... chain) {
        DUE.is(what, got, chain.length);
        DUE.is(what + ", candidates()", x.candidates(), candidates);
        for (int k = 0; k < 6; k++) {
            DUE.is(what + ", chain(" + k + ")", x.chain(k), k < chain.length ? chain[k] : -1);
        }
    }

    private static void notFound(String what, CertificateVault x, int got, int candidates, int want) {
        DUE.is(what, got, want);
        DUE.is(what + ", candidates()", x.candidates(), candidates);
        for (int k = -1; k < 6; k++) {
            DUE.is(what + ", chain(" + k + ")", x.chain(k), -1);
        }
    }

    /** "A chain ends with the TARGET and begins with an anchor" */
    private static void beginsWithAnAnchorAndEndsWithTheTarget() {
        CertificateVault x = new CertificateVault();
        make(x, 1, "r>r", 0, 0, BASIC, 1);
        make(x, 1, "r>t", 1, 0);
        notFound("no anchor", x, x.validate(1, 5, 5, false), 0, 0);
        make(x, 0, "r>r", 0, 0);
        found("an anchor stored last", x, x.validate(1, 5, 5, false), 1, 2, 1);
        found("the anchor", x, x.validate(2, 5, 5, false), 1, 2);
        found("another of the same name", x, x.validate(0, 5, 5, false), 1, 2, 0);
    }

    /** "each certificate's subject is the issuer of the one behind it" */
    private static void subjectIsTheIssuerBehind() {
        String name = "abcdefgh";
        String[] others = {"abcdefg", "bcdefgh", "bbcdefgh", "abcdefgi", "abcdxfgh", "h", "a", "a.cdefgh", "abcdef.h"};
        for (String other : others) {
            CertificateVault x = new CertificateVault();
            make(x, 0, "r>" + other, 0, 0);
            make(x, 1, name + ">t", 1, 0);
            notFound(other + " before " + name, x, x.validate(1, 5, 5, false), 0, 0);
            make(x, 0, "r>" + name, 0, 0);
            found(name + " before " + name, x, x.validate(1, 5, 5, false), 1, 2, 1);
        }
        CertificateVault x = new CertificateVault();
        make(x, 0, "m>r", 0, 0);
        make(x, 1, "m>t", 1, 0);
        notFound("an equal issuer is no subject", x, x.validate(1, 5, 5, false), 0, 0);
    }

    /** "none is there twice" */
    private static void noneIsThereTwice() {
        CertificateVault x = new CertificateVault();
        make(x, 1, "x>x", 0, 0, BASIC, 1);
        make(x, 1, "x>t", 1, 0);
        for (int depth = 1; depth <= 5; depth++) {
            notFound("one that is its own issuer", x, x.validate(0, 5, depth, false), 0, 0);
            notFound("behind it", x, x.validate(1, 5, depth, false), 0, 0);
        }
        make(x, 0, "r>x", 2, 2);
        for (int depth = 3; depth <= 5; depth++) {
            notFound("an anchor of another key", x, x.validate(1, 5, depth, false), 2, -11);
        }
        notFound("the target before itself", x, x.validate(0, 5, 5, false), 1, -11);
    }

    private static void copiesAreTwo() {
        CertificateVault x = new CertificateVault();
        make(x, 0, "r>x", 0, 0);
        make(x, 1, "x>x", 0, 0, BASIC, 1);
        x.store(1);
        make(x, 1, "x>t", 1, 5);
        notFound("depth 2", x, x.validate(3, 5, 2, false), 1, -11);
        notFound("depth 3", x, x.validate(3, 5, 3, false), 3, -11);
        notFound("depth 4", x, x.validate(3, 5, 4, false), 5, -11);
        notFound("depth 5", x, x.validate(3, 5, 5, false), 5, -11);
    }

    /** "behind a chain's part that begins with an anchor nothing is looked for, it is a CANDIDATE" */
    private static void nothingBehindAnAnchor() {
        CertificateVault x = new CertificateVault();
        make(x, 0, "x>x", 0, 0, BASIC, 1);
        make(x, 0, "x>x", 0, 0, BASIC, 1);
        make(x, 1, "x>t", 1, 5);
        for (int depth = 2; depth <= 5; depth++) {
            notFound("two anchors", x, x.validate(2, 5, depth, false), 2, -11);
        }
        found("an anchor as the target", x, x.validate(1, 5, 5, false), 1, 1);
    }

    /** "if the part has less than the greatest length" */
    private static void greatestLength() {
        CertificateVault x = new CertificateVault();
        make(x, 0, "a>a", 0, 0);
        String[] names = {"a>b", "b>c", "c>d", "d>e", "e>f"};
        int[][] chains = {{0}, {0, 1}, {0, 1, 2}, {0, 1, 2, 3}, {0, 1, 2, 3, 4}};
        for (int k = 0; k < names.length; k++) {
            make(x, 1, names[k], 0, 0, BASIC, 1);
        }
        for (int target = 0; target < 5; target++) {
            found("at the greatest length", x, x.validate(target, 5, target + 1, false), 1, chains[target]);
            if (target > 0) {
                notFound("one less", x, x.validate(target, 5, target, false), 0, 0);
            }
        }
        notFound("a chain of six", x, x.validate(5, 5, 5, false), 0, 0);
        DUE.is("a depth of six", x.validate(5, 5, 6, false), -1);
    }

    /** "anchors first, then the others, of each the lesser number first, and with each it is gone on at once" */
    private static void lesserNumberFirst() {
        for (int good = 0; good < 4; good++) {
            CertificateVault x = new CertificateVault();
            for (int c = 0; c < 4; c++) {
                make(x, 0, "r>x", c == good ? 0 : 1, 0);
            }
            make(x, 1, "x>t", 2, 0);
            found("anchor " + good, x, x.validate(4, 5, 2, false), good + 1, good, 4);
        }
        for (int good = 0; good < 4; good++) {
            CertificateVault x = new CertificateVault();
            for (int c = 0; c < 4; c++) {
                make(x, 1, "r>x", c == good ? 0 : 1, 0, BASIC, 1);
            }
            make(x, 1, "x>t", 2, 0);
            make(x, 0, "r>r", 0, 0);
            make(x, 0, "r>x", 1, 0);
            found("other " + good, x, x.validate(4, 5, 3, false), good + 2, 5, good, 4);
        }
    }

    /** So many certificates of one pair of names, none of them signed well. */
    private static void several(CertificateVault x, int count, int kind, String names) {
        for (int k = 0; k < count; k++) {
            if (k == 0) {
                make(x, kind, names, 1, 0, BASIC, 1);
            } else {
                x.store(kind);
            }
        }
    }

    /** "after 40 candidates that don't hold the search ends" */
    private static void fortyCandidatesAndNoMore() {
        int[][] rows = {{3, 1, 3, 4, 39}, {4, 1, 3, 3, 40}, {3, 0, 4, 4, 40}, {5, 0, 3, 3, 40}};
        for (int[] row : rows) {
            CertificateVault x = new CertificateVault();
            several(x, row[0], 1, "y>x");
            several(x, row[1], 0, "s>y");
            several(x, row[2], 1, "z>y");
            several(x, row[3], 0, "s>z");
            make(x, 1, "x>t", 2, 5);
            int target = row[0] + row[1] + row[2] + row[3];
            notFound("of " + row[0] * (row[1] + row[2] * row[3]), x, x.validate(target, 5, 4, false), row[4], -11);
        }
    }

    /** Of fifty candidates number 40 is anchor 0, then 3, 6 and the target; 39 has 2, and 41 has 4 for the 3. */
    private static CertificateVault fifty(int late, int helper) {
        CertificateVault x = new CertificateVault();
        make(x, 0, "r>x", 0, 0);
        for (int c = 1; c <= 7; c++) {
            int key = c == 6 ? 5 : c == helper ? 2 : 1;
            int signer = c == 6 ? 2 : c == late || c == helper ? 0 : 4;
            make(x, 1, "x>x", key, signer, BASIC, 1, TO, c == late ? 4 : 1000);
        }
        make(x, 1, "x>t", 3, 5);
        return x;
    }

    /** "-10 - the reason of the last candidate" */
    private static void reasonOfTheFortieth() {
        for (int late = 1; late <= 5; late++) {
            CertificateVault x = fifty(late, 0);
            notFound("late " + late, x, x.validate(8, 5, 4, false), 40, late == 3 ? -12 : -11);
        }
    }

    /** "The first candidate that HOLDS is the answer": the fortieth still is, the next one is not looked at. */
    private static void holdsAsTheFortieth() {
        CertificateVault x = fifty(0, 2);
        found("number 39", x, x.validate(8, 5, 4, false), 39, 0, 2, 6, 8);
        CertificateVault y = fifty(0, 3);
        found("number 40", y, y.validate(8, 5, 4, false), 40, 0, 3, 6, 8);
        CertificateVault z = fifty(0, 4);
        notFound("number 41", z, z.validate(8, 5, 4, false), 40, -11);
    }

    /** "A CANDIDATE of one certificate holds." */
    private static void oneCertificateHolds() {
        CertificateVault x = new CertificateVault();
        make(x, 0, "q>r", 0, 5, FROM, 60, TO, 70, BASIC, 0, USAGE, 4, ALLOWED, name("z"), BARRED, name("r"), STRANGE, 2, SERIAL, 3);
        make(x, 0, "q>q", 5, 5);
        makeList(x, "q", 5, 0, 1000, 3, 0);
        found("against which much could be said", x, x.validate(0, 5, 1, true), 1, 0);
        found("at the greatest depth", x, x.validate(0, Long.MAX_VALUE, 5, true), 1, 0);
    }
}
