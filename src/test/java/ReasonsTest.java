/**
 * Terms, the REASONS of a candidate: every set of reasons against one certificate, and every two
 * reasons against two of them, in a chain of an anchor r and p, m, n, t behind it.
 */
public final class ReasonsTest extends Maker {
    private static final Due DUE = new Due("ReasonsTest");

    private static final int SIGNATURE_BAD = 1;
    private static final int NOT_ITS_TIME = 2;
    private static final int REVOKED = 3;
    private static final int UNKNOWN = 4;
    private static final int OUT_OF_REALM = 5;
    private static final int STRANGE_ONE = 6;
    private static final int NO_AUTHORITY = 7;
    private static final int OUT_OF_REACH = 8;
    private static final int NO_USAGE = 9;

    private static final String[] LETTERS = {"r", "p", "m", "n", "t"};
    private static final long TIME = 50;

    public static void main(String[] args) {
        noReason();
        firstReasonOfOne();
        oneCertificateBeforeTheNext();
        DUE.end();
    }

    private static boolean has(int reasons, int reason) {
        return (reasons >> reason & 1) == 1;
    }

    private static String subject(int[] against, int k) {
        return k == 0 || has(against[k], OUT_OF_REALM) ? LETTERS[k] : LETTERS[k].concat(".x");
    }

    /** Stores the chain, with these sets of reasons against its certificates. */
    private static CertificateVault store(int... against) {
        CertificateVault x = new CertificateVault();
        make(x, 0, "r>r", 0, 0);
        for (int k = 1; k <= 4; k++) {
            int reasons = against[k];
            make(x, 1, subject(against, k - 1) + ">" + subject(against, k), k, has(reasons, SIGNATURE_BAD) ? 5 : k - 1,
                SERIAL, 100 + k, FROM, TIME, TO, has(reasons, NOT_ITS_TIME) ? TIME - 1 : TIME,
                ALLOWED, k == 1 ? name("x") : 0, STRANGE, has(reasons, STRANGE_ONE) ? 2 : 0,
                BASIC, has(reasons, NO_AUTHORITY) ? 0 : 1, REACH, has(reasons, OUT_OF_REACH) ? 0 : -1,
                USAGE, has(reasons, NO_USAGE) ? 2 : -1);
        }
        for (int k = 1; k <= 4; k++) {
            if (!has(against[k], UNKNOWN)) {
                long serial = has(against[k], REVOKED) ? 100 + k : 99;
                makeList(x, subject(against, k - 1), k - 1, TIME, TIME, serial, TIME);
            }
        }
        return x;
    }

    /** The first one does not keep to a realm of its own, the last three are said of issuers alone. */
    private static boolean isSaidOf(int k, int reason) {
        return switch (reason) {
            case OUT_OF_REALM -> k > 1;
            case OUT_OF_REACH -> k < 3;
            case NO_AUTHORITY, NO_USAGE -> k < 4;
            default -> true;
        };
    }

    private static int due(int... against) {
        for (int k = 1; k <= 4; k++) {
            for (int reason = 1; reason <= 9; reason++) {
                if (has(against[k], reason) && isSaidOf(k, reason)) {
                    return -10 - reason;
                }
            }
        }
        return 5;
    }

    private static void ask(int... against) {
        boolean strictly = false;
        for (int reasons : against) {
            strictly |= has(reasons, UNKNOWN);
        }
        CertificateVault x = store(against);
        String what = java.util.Arrays.toString(against);
        int due = due(against);
        DUE.is("reasons " + what, x.validate(4, TIME, 5, strictly), due);
        DUE.is("candidates() with reasons " + what, x.candidates(), 1);
        for (int k = 0; k < 5; k++) {
            DUE.is("chain(" + k + ") with reasons " + what, x.chain(k), due > 0 ? k : -1);
        }
    }

    /** "(only if asked strictly)", and a chain against which nothing is said. */
    private static void noReason() {
        CertificateVault x = store(0, 0, 0, 0, 0);
        DUE.is("no reason", x.validate(4, TIME, 5, false), 5);
        DUE.is("no reason, strictly", x.validate(4, TIME, 5, true), 5);
        for (int k = 1; k <= 4; k++) {
            int[] against = new int[5];
            against[k] = 1 << UNKNOWN;
            CertificateVault y = store(against);
            DUE.is("unknown, not strictly", y.validate(4, TIME, 5, false), 5);
            DUE.is("unknown, strictly", y.validate(4, TIME, 5, true), -14);
        }
    }

    /** "it doesn't hold with the first REASON that is found" */
    private static void firstReasonOfOne() {
        for (int k = 1; k <= 4; k++) {
            for (int reasons = 0; reasons < 1 << 10; reasons += 2) {
                // no list can both count and not count, and only an authority has a reach
                boolean can = !(has(reasons, REVOKED) && has(reasons, UNKNOWN))
                    && !(has(reasons, NO_AUTHORITY) && has(reasons, OUT_OF_REACH));
                if (can) {
                    int[] against = new int[5];
                    against[k] = reasons;
                    ask(against);
                }
            }
        }
    }

    /** "certificate by certificate from the anchor on, all that is said here of one before the next" */
    private static void oneCertificateBeforeTheNext() {
        for (int first = 1; first <= 4; first++) {
            for (int second = first + 1; second <= 4; second++) {
                for (int one = 1; one <= 9; one++) {
                    for (int other = 1; other <= 9; other++) {
                        int[] against = new int[5];
                        against[first] = 1 << one;
                        against[second] = 1 << other;
                        ask(against);
                    }
                }
            }
        }
    }
}
