/** Terms, the lists that COUNT for a certificate, which of them is taken, and what it says. */
public final class ListsTest extends Maker {
    private static final Due DUE = new Due("ListsTest");
    private static final long TIME = 50;
    private static final long SERIAL_OF_TARGET = 9;

    public static void main(String[] args) {
        eachConditionAlone();
        issuerIsThatOfTheCertificate();
        fromToOfTheList();
        goodForTheIssuerInTheChain();
        usageOfTheIssuer();
        greatestFromIsTaken();
        storedFirstIsTaken();
        oneThatDoesNotCountIsNotTaken();
        serialIsThere();
        dateAtMostTheTime();
        unknownWhenNoneCounts();
        DUE.end();
    }

    /** An anchor r with key 0 and a target behind it. */
    private static CertificateVault two() {
        CertificateVault x = new CertificateVault();
        make(x, 0, "r>r", 0, 0);
        make(x, 1, "r>t", 1, 0, SERIAL, SERIAL_OF_TARGET);
        return x;
    }

    private static void is(String what, CertificateVault x, int want) {
        DUE.is(what, x.validate(1, TIME, 2, true), want);
    }

    /** A list that counts says that the target is revoked; one that does not leaves it unknown. */
    private static void eachConditionAlone() {
        for (int wrong = 0; wrong < 16; wrong++) {
            CertificateVault x = new CertificateVault();
            make(x, 0, "r>r", 0, 0, USAGE, (wrong & 1) != 0 ? 5 : 2);
            make(x, 1, "r>t", 1, 0, SERIAL, SERIAL_OF_TARGET);
            makeList(x, (wrong & 2) != 0 ? "t" : "r", (wrong & 4) != 0 ? 1 : 0, TIME, (wrong & 8) != 0 ? TIME - 1 : TIME,
                SERIAL_OF_TARGET, TIME);
            is("wrong " + wrong, x, wrong == 0 ? -13 : -14);
            DUE.is("wrong " + wrong + ", not strictly", x.validate(1, TIME, 2, false), wrong == 0 ? -13 : 2);
        }
    }

    /** "its issuer is that of the certificate" */
    private static void issuerIsThatOfTheCertificate() {
        for (String issuer : new String[] {"t", "s", "r.r", "r.s", "s.r", "rr"}) {
            CertificateVault x = two();
            makeList(x, issuer, 0, 0, 1000, SERIAL_OF_TARGET, 0);
            is("a list of " + issuer, x, -14);
        }
    }

    private static void fromTo(long from, long to, boolean counts) {
        CertificateVault x = two();
        makeList(x, "r", 0, from, to);
        is("a list from " + from + " to " + to, x, counts ? 2 : -14);
    }

    /** "the time is FROM .. TO of the list" */
    private static void fromToOfTheList() {
        fromTo(TIME, TIME, true);
        fromTo(TIME - 1, TIME, true);
        fromTo(TIME, TIME + 1, true);
        fromTo(0, Long.MAX_VALUE, true);
        fromTo(TIME + 1, TIME + 2, false);
        fromTo(TIME - 2, TIME - 1, false);
        fromTo(TIME + 1, Long.MAX_VALUE, false);
        fromTo(0, TIME - 1, false);
        fromTo(TIME + 1, TIME - 1, false);
        fromTo(TIME + 1, TIME, false);
        fromTo(TIME, TIME - 1, false);
        CertificateVault x = new CertificateVault();
        make(x, 0, "r>r", 0, 0);
        make(x, 1, "r>t", 1, 0, TO, Long.MAX_VALUE);
        makeList(x, "r", 0, 0, Long.MAX_VALUE);
        DUE.is("time 0", x.validate(1, 0, 2, true), 2);
        DUE.is("time MAX", x.validate(1, Long.MAX_VALUE, 2, true), 2);
    }

    /** "its signature is good for the modulus and exponent of the certificate's issuer in the chain" */
    private static void goodForTheIssuerInTheChain() {
        for (int key = 0; key < 6; key++) {
            CertificateVault x = two();
            makeList(x, "r", key, 0, 1000, SERIAL_OF_TARGET, 0);
            is("signed with " + key, x, key == 0 ? -13 : -14);
        }
        CertificateVault x = new CertificateVault();
        make(x, 0, "r>r", 0, 0);
        make(x, 1, "r>t", 1, 2);
        make(x, 0, "r>r", 2, 2);
        makeList(x, "r", 0, 0, 1000);
        is("signed by another of the same name", x, -14);
        makeList(x, "r", 2, 0, 1000);
        is("signed by the issuer in the chain", x, 2);
        CertificateVault y = two();
        makeList(y, "r", 0, 0, 1000);
        byte[] list = Elements.draft(y);
        CertificateVault z = two();
        list[list.length - 1] ^= 1;
        Elements.fill(z, list);
        DUE.is("store(2)", z.store(2), 0);
        is("a signature with another bit", z, -14);
    }

    /** "and that one has no USAGE or one with the bit of value 2" */
    private static void usageOfTheIssuer() {
        for (int usage = -1; usage <= 7; usage++) {
            if (usage != 0) {
                boolean counts = usage == -1 || usage == 2 || usage == 3 || usage == 6 || usage == 7;
                CertificateVault x = new CertificateVault();
                make(x, 0, "r>r", 0, 0, USAGE, usage);
                make(x, 1, "r>t", 1, 0);
                makeList(x, "r", 0, 0, 1000);
                is("usage " + usage + " of an anchor", x, counts ? 2 : -14);
                CertificateVault y = new CertificateVault();
                make(y, 0, "r>r", 0, 0);
                make(y, 1, "m>t", 1, 2, USAGE, 1);
                make(y, 1, "r>m", 2, 0, USAGE, usage, BASIC, 1);
                makeList(y, "r", 0, 0, 1000);
                makeList(y, "m", 2, 0, 1000);
                int due = usage != -1 && usage % 2 == 0 ? -19 : counts ? 3 : -14;
                DUE.is("usage " + usage + " of a middle", y.validate(1, TIME, 3, true), due);
            }
        }
    }

    /** "Of those that count the one with the greatest FROM is taken" */
    private static void greatestFromIsTaken() {
        for (int revoking = 0; revoking < 6; revoking++) {
            CertificateVault x = two();
            int[] from = {3, 1, 5, 6, 2, 4};
            for (int l = 0; l < 6; l++) {
                makeList(x, "r", 0, from[l], 1000, SERIAL_OF_TARGET, l == revoking ? 0 : TIME + 1);
            }
            is("list " + revoking + " alone revokes", x, from[revoking] == 6 ? -13 : 2);
        }
        CertificateVault x = two();
        makeList(x, "r", 0, TIME - 1, 1000, SERIAL_OF_TARGET, 0);
        makeList(x, "r", 0, TIME, 1000);
        is("a FROM that is one greater", x, 2);
        CertificateVault y = two();
        makeList(y, "r", 0, TIME, 1000);
        makeList(y, "r", 0, TIME - 1, 1000, SERIAL_OF_TARGET, 0);
        is("a FROM that is one less", y, 2);
    }

    /** "of these the one stored first" */
    private static void storedFirstIsTaken() {
        for (int revoking = 0; revoking < 6; revoking++) {
            CertificateVault x = two();
            for (int l = 0; l < 6; l++) {
                makeList(x, "r", 0, 7, 1000 + l, SERIAL_OF_TARGET, l == revoking ? 0 : TIME + 1);
            }
            is("list " + revoking + " of equals revokes", x, revoking == 0 ? -13 : 2);
        }
    }

    private static void oneThatDoesNotCountIsNotTaken() {
        CertificateVault x = two();
        makeList(x, "r", 0, TIME + 1, 1000);
        makeList(x, "r", 0, 40, TIME - 1);
        makeList(x, "r", 1, 40, 1000);
        makeList(x, "s", 0, 40, 1000);
        makeList(x, "r", 0, 10, 1000, SERIAL_OF_TARGET, 0);
        is("the only one that counts", x, -13);
    }

    /** "the certificate is REVOKED when its serial is there" */
    private static void serialIsThere() {
        for (int place = 0; place < 4; place++) {
            CertificateVault x = two();
            long[] pairs = {8, 0, 10, 0, 0, 0, 7, 0};
            pairs[2 * place] = SERIAL_OF_TARGET;
            makeList(x, "r", 0, 0, 1000, pairs);
            is("entry " + place, x, -13);
            CertificateVault y = two();
            pairs[2 * place] = SERIAL_OF_TARGET + (1L << 32);
            makeList(y, "r", 0, 0, 1000, pairs);
            is("another serial at entry " + place, y, 2);
        }
        for (long serial : new long[] {0, 1, Long.MAX_VALUE}) {
            CertificateVault x = new CertificateVault();
            make(x, 0, "r>r", 0, 0);
            make(x, 1, "r>t", 1, 0, SERIAL, serial);
            makeList(x, "r", 0, 0, 1000, 5, 0, serial, 0);
            is("serial " + serial, x, -13);
        }
        CertificateVault x = two();
        makeList(x, "r", 0, 0, 1000);
        is("an empty list", x, 2);
        CertificateVault y = two();
        makeList(y, "r", 0, 0, 1000, 0, SERIAL_OF_TARGET, 1, 0);
        is("a date that is the serial", y, 2);
    }

    /** "with a date that is at most the time" */
    private static void dateAtMostTheTime() {
        long[] dates = {0, TIME - 1, TIME, TIME + 1, Long.MAX_VALUE};
        for (long date : dates) {
            CertificateVault x = two();
            makeList(x, "r", 0, 0, 1000, SERIAL_OF_TARGET, date);
            is("date " + date, x, date <= TIME ? -13 : 2);
        }
        CertificateVault x = two();
        makeList(x, "r", 0, 0, 1000, SERIAL_OF_TARGET, TIME + 1, SERIAL_OF_TARGET, TIME);
        is("twice, the second date at most the time", x, -13);
        CertificateVault y = two();
        makeList(y, "r", 0, 0, 1000, SERIAL_OF_TARGET, TIME, SERIAL_OF_TARGET, TIME + 1);
        is("twice, the first date at most the time", y, -13);
        CertificateVault z = new CertificateVault();
        make(z, 0, "r>r", 0, 0);
        make(z, 1, "r>t", 1, 0, TO, Long.MAX_VALUE);
        makeList(z, "r", 0, 0, Long.MAX_VALUE, 1, Long.MAX_VALUE);
        DUE.is("before the last date", z.validate(1, Long.MAX_VALUE - 1, 2, true), 2);
        DUE.is("the last date", z.validate(1, Long.MAX_VALUE, 2, true), -13);
    }

    /** "It is UNKNOWN when none counts." */
    private static void unknownWhenNoneCounts() {
        CertificateVault x = two();
        is("no list", x, -14);
        DUE.is("no list, not strictly", x.validate(1, TIME, 2, false), 2);
        makeList(x, "r", 0, 0, 1000);
        is("a list", x, 2);
    }
}
