/** Promises 6 to 8: set, revoke, forgive. */
public final class TemplateTest {
    private static final Due DUE = new Due("TemplateTest");

    public static void main(String[] args) {
        numbers();
        names();
        choices();
        wrongFields();
        refusedSetsChangeNothing();
        revoking();
        DUE.end();
    }

    private static void set(int field, long v, boolean want) {
        DUE.is("set(" + field + ", " + v + ")", new CertificateVault().set(field, v), want);
    }

    private static void range(int field, long least, long most) {
        for (long v = least; v <= most; v++) {
            set(field, v, true);
        }
        set(field, least - 1, false);
        set(field, most + 1, false);
        set(field, Long.MIN_VALUE, false);
        set(field, Long.MAX_VALUE, false);
        set(field, (1L << 32) + most, false);
    }

    private static void numbers() {
        for (int field : new int[] {0, 2, 3}) {
            set(field, 0, true);
            set(field, Long.MAX_VALUE, true);
            set(field, -1, false);
            set(field, Long.MIN_VALUE, false);
        }
    }

    private static void names() {
        String[] right = {"a", "z", "ab", "a.b", "a.b.c", "abcdefgh", "zzzzzzzz", "a.b.c.de", "a.bcdefg"};
        String[] wrong = {".", ".a", "a.", "a..b", "..", "a.b.", "abcdefghi", "abcdefg.", "a...b", "abcdefg.h"};
        for (int field : new int[] {1, 4, 9, 10}) {
            for (String name : right) {
                set(field, Elements.nameValue(name), true);
            }
            for (String name : wrong) {
                set(field, Elements.nameValue(name), false);
            }
            for (long v : new long[] {28, 29, 30, 31, 1 + 28 * 32, 32, 1L << 10, 1 + (1L << 10), -1, Long.MIN_VALUE,
                    Long.MIN_VALUE + 1, 1 + (1L << 40), 1L << 40, 1L << 62, Long.MAX_VALUE}) {
                set(field, v, false);
            }
            set(field, 0, field > 4);
        }
    }

    private static void choices() {
        range(5, 0, 5);
        range(12, 0, 5);
        range(6, -1, 1);
        range(7, -1, 9);
        range(11, 0, 2);
        for (long v = 1; v <= 7; v++) {
            set(8, v, true);
        }
        set(8, -1, true);
        set(8, 0, false);
        set(8, 8, false);
        set(8, -2, false);
    }

    private static void wrongFields() {
        for (int field : new int[] {-1, 13, 14, Integer.MIN_VALUE, Integer.MAX_VALUE}) {
            set(field, 0, false);
            set(field, 1, false);
        }
    }

    private static void refusedSetsChangeNothing() {
        CertificateVault x = new CertificateVault();
        x.compose();
        byte[] before = Elements.draft(x);
        long[] wrong = {-1, 0, -1, -1, 27, 6, 2, 10, 0, 27, 27, 3, 6};
        for (int field = 0; field < wrong.length; field++) {
            DUE.is("set(" + field + ", " + wrong[field] + ")", x.set(field, wrong[field]), false);
        }
        DUE.is("the draft after refused sets", Elements.draft(x), before);
        x.compose();
        DUE.is("compose after refused sets", Elements.draft(x), before);
    }

    private static void listIs(String when, CertificateVault x, byte[]... entries) {
        x.composeList();
        DUE.is(when, Elements.draft(x), Elements.signed(0, Elements.listBody("a", 0, 1000, entries)));
    }

    private static void revoking() {
        CertificateVault x = new CertificateVault();
        DUE.is("revoke(-1, 0)", x.revoke(-1, 0), false);
        DUE.is("revoke(0, -1)", x.revoke(0, -1), false);
        DUE.is("revoke(MIN, MIN)", x.revoke(Long.MIN_VALUE, Long.MIN_VALUE), false);
        listIs("a list after refusals", x);
        DUE.is("revoke(0, 0)", x.revoke(0, 0), true);
        DUE.is("revoke(MAX, MAX)", x.revoke(Long.MAX_VALUE, Long.MAX_VALUE), true);
        DUE.is("revoke(0, 0) again", x.revoke(0, 0), true);
        DUE.is("revoke(5, 200)", x.revoke(5, 200), true);
        DUE.is("revoke a fifth", x.revoke(6, 7), false);
        byte[] most = Elements.entry(Long.MAX_VALUE, Long.MAX_VALUE);
        listIs("a list of four", x, Elements.entry(0, 0), most, Elements.entry(0, 0), Elements.entry(5, 200));
        x.forgive();
        listIs("a list after forgive", x);
        DUE.is("revoke after forgive", x.revoke(9, 8), true);
        listIs("a list after forgive and revoke", x, Elements.entry(9, 8));
        x.forgive();
        x.forgive();
        listIs("a list after forgiving twice", x);
    }
}
