/** Promises 6 to 8: set, revoke, forgive. */
public final class TemplateTest {
    private static final Due DUE = new Due("TemplateTest");

    public static void main(String[] args) {
        numbers();
        names();
        keys();
        basic();
        reach();
        usage();
        ownExtension();
        wrongFields();
        setAndSetAgain();
        refusedSetsChangeNothing();
        revokingBelowZero();
        revokingFour();
        forgiving();
        DUE.end();
    }

    private static void set(int field, long v, boolean want) {
        DUE.is("set(" + field + ", " + v + ")", new CertificateVault().set(field, v), want);
    }

    private static void range(int field, long least, long most) {
        range(field, least, most, least);
    }

    /** All from least to most are taken, and this one more; those just beyond and those that wrap are not. */
    private static void range(int field, long least, long most, long more) {
        for (long v = least; v <= most; v++) {
            set(field, v, true);
        }
        set(field, more, true);
        set(field, least - 1, false);
        set(field, most + 1, false);
        set(field, (1L << 32) + least, false);
        set(field, Long.MIN_VALUE, false);
        set(field, Long.MAX_VALUE, false);
        set(field, (1L << 32) + most, false);
    }

    /** "0 SERIAL, 2 FROM, 3 TO: not less than 0." */
    private static void numbers() {
        for (int field : new int[] {0, 2, 3}) {
            set(field, 0, true);
            set(field, 1, true);
            set(field, 1L << 32, true);
            set(field, Long.MAX_VALUE, true);
            set(field, -1, false);
            set(field, -(1L << 32), false);
            set(field, Long.MIN_VALUE, false);
        }
    }

    /** "1 ISSUER, 4 SUBJECT: a name.", "9 ALLOWED, 10 BARRED: 0 without, else a name." */
    private static void names() {
        String[] right = {"a", "z", "ab", "a.b", "a.b.c", "abcdefgh", "zzzzzzzz", "a.b.c.de", "a.bcdefg"};
        String[] wrong = {".", ".a", "a.", "a..b", "..", "a.b.", "abcdefghi", "abcdefg.", "a...b", "abcdefg.h"};
        for (int field : new int[] {1, 4, 9, 10}) {
            for (String name : right) {
                set(field, Elements.nameValue(name), true);
            }
            for (String name : wrong) {
                set(field, Elements.nameValue(name), false);
            }
            for (long v : new long[] {28, 29, 30, 31, 1 + 28 * 32, 32, 1L << 10, 1 + (1L << 10), -1, Long.MIN_VALUE,
                    Long.MIN_VALUE + 1, 1 + (1L << 40), 1L << 40, 1L << 62, Long.MAX_VALUE}) {
                set(field, v, false);
            }
            set(field, 0, field > 4);
        }
    }

    /** "5 the key whose modulus and exponent it bears, 12 the key that signs: 0 .. 5." */
    private static void keys() {
        range(5, 0, 5);
        range(12, 0, 5);
    }

    /** "6 BASIC: -1 without, 0 with, 1 with, an authority." */
    private static void basic() {
        range(6, -1, 1);
    }

    /** "7 the REACH: -1 none, else 0 .. 9" */
    private static void reach() {
        range(7, -1, 9);
    }

    /** "8 USAGE: -1 without, else 1 .. 7." */
    private static void usage() {
        range(8, 1, 7, -1);
        set(8, -2, false);
    }

    /** "11: 0 without an extension 9, 1 with it, 2 with it, critical." */
    private static void ownExtension() {
        range(11, 0, 2);
    }

    /** "refused (false) when there is no such field" */
    private static void wrongFields() {
        for (int field : new int[] {-1, 13, 14, -2, 256, Integer.MIN_VALUE, Integer.MAX_VALUE}) {
            set(field, 0, false);
            set(field, 1, false);
            set(field, -1, false);
        }
    }

    /** What was set stays set, with the other fields as they were, until it is set again. */
    private static void setAndSetAgain() {
        CertificateVault x = new CertificateVault();
        long[][] values = {{0, 127, Long.MAX_VALUE}, {1, 2, 26}, {0, 7, 1000}, {0, 8, 2000}, {1, 3, 25}, {0, 5, 3}, {-1, 0, 1},
            {-1, 0, 9}, {-1, 1, 7}, {0, 1, 26}, {0, 2, 25}, {0, 1, 2}, {0, 4, 5}};
        for (int round = 0; round < 3; round++) {
            for (int field = 0; field < values.length; field++) {
                DUE.is("set(" + field + ", " + values[field][round] + ")", x.set(field, values[field][round]), true);
            }
            x.compose();
            DUE.is("store(1)", x.store(1), round);
            int[] what = {0, 1, 2, 3, 4};
            for (int k : what) {
                DUE.is("certificate(" + round + ", " + k + ")", x.certificate(round, k), values[k][round]);
            }
            DUE.is("the modulus", x.certificate(round, 5), Elements.MODULI[(int) values[5][round]]);
            DUE.is("BASIC", x.certificate(round, 14), new int[] {0, 2, 6}[round]);
            DUE.is("REACH", x.certificate(round, 9), round == 2 ? 9 : -1);
            DUE.is("USAGE", x.certificate(round, 10), new int[] {0, 1, 7}[round]);
            DUE.is("ALLOWED", x.certificate(round, 11), values[9][round]);
            DUE.is("BARRED", x.certificate(round, 12), values[10][round]);
            DUE.is("extensions", x.certificate(round, 13), new int[] {0, 4, 4}[round]);
            DUE.is("the signature", x.certificate(round, 7),
                Elements.signature((int) values[12][round], (int) x.certificate(round, 8)));
        }
    }

    private static void refusedSetsChangeNothing() {
        CertificateVault x = new CertificateVault();
        x.compose();
        byte[] before = Elements.draft(x);
        long[] wrong = {-1, 0, -1, -1, 27, 6, 2, 10, 0, 27, 27, 3, 6};
        for (int field = 0; field < wrong.length; field++) {
            DUE.is("set(" + field + ", " + wrong[field] + ")", x.set(field, wrong[field]), false);
        }
        DUE.is("the draft after refused sets", Elements.draft(x), before);
        x.compose();
        DUE.is("compose after refused sets", Elements.draft(x), before);
    }

    private static void listIs(String when, CertificateVault x, byte[]... entries) {
        x.composeList();
        DUE.is(when, Elements.draft(x), Elements.signed(0, Elements.listBody("a", 0, 1000, entries)));
    }

    /** "refused (false) when one is less than 0" */
    private static void revokingBelowZero() {
        CertificateVault x = new CertificateVault();
        DUE.is("revoke(-1, 0)", x.revoke(-1, 0), false);
        DUE.is("revoke(0, -1)", x.revoke(0, -1), false);
        DUE.is("revoke(-1, -1)", x.revoke(-1, -1), false);
        DUE.is("revoke(MIN, MIN)", x.revoke(Long.MIN_VALUE, Long.MIN_VALUE), false);
        DUE.is("revoke(MIN, MAX)", x.revoke(Long.MIN_VALUE, Long.MAX_VALUE), false);
        DUE.is("revoke(MAX, MIN)", x.revoke(Long.MAX_VALUE, Long.MIN_VALUE), false);
        listIs("a list after refusals", x);
        DUE.is("revoke(0, 0)", x.revoke(0, 0), true);
        listIs("a list of the least", x, Elements.entry(0, 0));
    }

    /** "Adds a serial and a date to those to be revoked", refused when "four are there" */
    private static void revokingFour() {
        CertificateVault x = new CertificateVault();
        DUE.is("revoke(0, 0)", x.revoke(0, 0), true);
        DUE.is("revoke(MAX, MAX)", x.revoke(Long.MAX_VALUE, Long.MAX_VALUE), true);
        DUE.is("revoke(0, 0) again", x.revoke(0, 0), true);
        DUE.is("revoke(5, 200)", x.revoke(5, 200), true);
        DUE.is("revoke a fifth", x.revoke(6, 7), false);
        byte[] most = Elements.entry(Long.MAX_VALUE, Long.MAX_VALUE);
        listIs("a list of four", x, Elements.entry(0, 0), most, Elements.entry(0, 0), Elements.entry(5, 200));
    }

    /** "There are no serials to be revoked." */
    private static void forgiving() {
        CertificateVault x = new CertificateVault();
        x.forgive();
        listIs("a list after forgiving none", x);
        for (int k = 0; k < 4; k++) {
            x.revoke(k, k);
        }
        x.forgive();
        listIs("a list after forgive", x);
        DUE.is("revoke after forgive", x.revoke(9, 8), true);
        listIs("a list after forgive and revoke", x, Elements.entry(9, 8));
        x.forgive();
        x.forgive();
        listIs("a list after forgiving twice", x);
        for (int k = 0; k < 5; k++) {
            DUE.is("revoke " + k + " after forgive", x.revoke(k, 1), k < 4);
        }
    }
}
