/** Promises 12 to 14: store, certificate, list. */
public final class StoreTest {
    private static final Due DUE = new Due("StoreTest");

    public static void main(String[] args) {
        kinds();
        room();
        faultsAndRoom();
        certificateFields();
        certificateWithout();
        handWritten();
        leftOvers();
        listFields();
        storedOnesStay();
        wrongQuestions();
        DUE.end();
    }

    /** "kind = 0 a certificate that is an anchor, 1 another certificate, 2 a list", "NONE when kind is none of these" */
    private static void kinds() {
        CertificateVault x = new CertificateVault();
        DUE.is("store(0) of nothing", x.store(0), -2);
        DUE.is("store(1) of nothing", x.store(1), -2);
        DUE.is("store(2) of nothing", x.store(2), -2);
        for (int kind : new int[] {-1, 3, 4, Integer.MIN_VALUE, Integer.MAX_VALUE}) {
            DUE.is("store(" + kind + ") of nothing", x.store(kind), -1);
        }
        x.compose();
        byte[] draft = Elements.draft(x);
        DUE.is("store(3) of a certificate", x.store(3), -1);
        DUE.is("store(2) of a certificate", x.store(2), -2);
        DUE.is("store(1) of a certificate", x.store(1), 0);
        DUE.is("store(0) of it again", x.store(0), 1);
        DUE.is("the draft after store", Elements.draft(x), draft);
        DUE.is("whether 0 is an anchor", x.certificate(0, 14), 0);
        DUE.is("whether 1 is an anchor", x.certificate(1, 14), 1);
        x.composeList();
        DUE.is("store(0) of a list", x.store(0), -2);
        DUE.is("store(1) of a list", x.store(1), -2);
        DUE.is("store(2) of a list", x.store(2), 0);
        DUE.is("store(2) of it again", x.store(2), 1);
        DUE.is("certificate(2, 0)", x.certificate(2, 0), -1);
    }

    /** "at most 12 CERTIFICATES, numbered from 0 as they are stored", "at most 6 LISTS", "NONE when ... there is no room" */
    private static void room() {
        CertificateVault x = new CertificateVault();
        for (int k = 0; k < 12; k++) {
            x.set(0, 100 + k);
            x.compose();
            DUE.is("store certificate " + k, x.store(k % 2), k);
        }
        x.set(0, 999);
        x.compose();
        DUE.is("store(0) in a full store", x.store(0), -1);
        DUE.is("store(1) in a full store", x.store(1), -1);
        DUE.is("check(true) in a full store", x.check(true), 0);
        for (int k = 0; k < 6; k++) {
            x.set(2, k);
            x.composeList();
            DUE.is("store list " + k, x.store(2), k);
        }
        x.set(2, 999);
        x.composeList();
        DUE.is("store(2) in a full store", x.store(2), -1);
        DUE.is("check(false) in a full store", x.check(false), 0);
        for (int k = 0; k < 12; k++) {
            DUE.is("serial of " + k, x.certificate(k, 0), 100 + k);
            DUE.is("anchor " + k, x.certificate(k, 14), (k + 1) % 2);
        }
        for (int k = 0; k < 6; k++) {
            DUE.is("FROM of list " + k, x.list(k, 1), k);
        }
        DUE.is("certificate(12, 0)", x.certificate(12, 0), -1);
        DUE.is("list(6, 1)", x.list(6, 1), -1);
    }

    /** "NONE when kind is none of these or there is no room; otherwise -2 when it has a fault" */
    private static void faultsAndRoom() {
        CertificateVault x = new CertificateVault();
        for (int k = 0; k < 12; k++) {
            x.compose();
            x.store(1);
        }
        x.clear();
        DUE.is("no room comes before a fault", x.store(1), -1);
        DUE.is("a fault of a list", x.store(2), -2);
    }

    private static void tells(CertificateVault x, int c, long... want) {
        for (int what = 0; what < want.length; what++) {
            DUE.is("certificate(" + c + ", " + what + ")", x.certificate(c, what), want[what]);
        }
    }

    /** Promise 13, each number when all is there. */
    private static void certificateFields() {
        CertificateVault x = new CertificateVault();
        long name = Elements.nameValue("abcdefgh");
        long inner = Elements.nameValue("x.ab");
        long[] fields = {Long.MAX_VALUE, name, 5, 600, inner, 2, 1, 7, 6, Elements.nameValue("b"),
            Elements.nameValue("c.b"), 1, 4};
        for (int field = 0; field < fields.length; field++) {
            x.set(field, fields[field]);
        }
        x.compose();
        byte[] draft = Elements.draft(x);
        byte[] body = java.util.Arrays.copyOfRange(draft, 2, 2 + 2 + draft[3]);
        DUE.is("store(0)", x.store(0), 0);
        int hash = Elements.hash(body);
        tells(x, 0, Long.MAX_VALUE, name, 5, 600, inner, Elements.MODULI[2], 257, Elements.signature(4, hash), hash, 7, 6,
            Elements.nameValue("b"), Elements.nameValue("c.b"), 4, 7, -1);
    }

    /** "(NONE without one)", "(0 without)", "whether it is an anchor, + 2 ..., + 4 ..." */
    private static void certificateWithout() {
        CertificateVault x = new CertificateVault();
        x.compose();
        x.store(1);
        byte[] body = Elements.body(1, "a", "a", 0);
        int hash = Elements.hash(body);
        tells(x, 0, 1, 1, 0, 1000, 1, Elements.MODULI[0], 3, Elements.signature(0, hash), hash, -1, 0, 0, 0, 0, 0, -1);
        x.set(6, 0);
        x.set(7, 5);
        x.compose();
        x.store(1);
        DUE.is("REACH of a BASIC without authority", x.certificate(1, 9), -1);
        DUE.is("BASIC without authority", x.certificate(1, 14), 2);
        x.set(6, 1);
        x.set(7, -1);
        x.compose();
        x.store(0);
        DUE.is("REACH of an authority without one", x.certificate(2, 9), -1);
        DUE.is("an anchor that is an authority", x.certificate(2, 14), 7);
    }

    private static void handWritten() {
        CertificateVault x = new CertificateVault();
        byte[] realm = Elements.sequence(Elements.integer(3), Elements.sequence(Elements.text(129, "q")));
        byte[] opaque = Elements.element(4, Elements.bytes(1, 2, 3));
        byte[] strange = Elements.sequence(Elements.integer(Long.MAX_VALUE), opaque);
        byte[] first = Elements.sequence(Elements.integer(0), opaque);
        byte[] body = Elements.body(0, "i", "s", 1, first, realm, strange);
        Elements.fill(x, Elements.sequence(body, Elements.integer(0)));
        DUE.is("store(1)", x.store(1), 0);
        tells(x, 0, 0, Elements.nameValue("i"), 0, 1000, Elements.nameValue("s"), Elements.MODULI[1], 17, 0,
            Elements.hash(body), -1, 0, 0, Elements.nameValue("q"), 3, 0);
        byte[] reach = Elements.sequence(Elements.integer(1),
            Elements.sequence(Elements.flag(), Elements.integer(Long.MAX_VALUE)));
        Elements.fill(x, Elements.sequence(Elements.body(0, "i", "s", 1, reach), Elements.integer(Long.MAX_VALUE)));
        DUE.is("store(1)", x.store(1), 1);
        DUE.is("the greatest signature", x.certificate(1, 7), Long.MAX_VALUE);
        DUE.is("the greatest REACH", x.certificate(1, 9), Long.MAX_VALUE);
    }

    /** A certificate or list that was read before, whole or in part, leaves nothing in the next one. */
    private static void leftOvers() {
        CertificateVault x = new CertificateVault();
        x.set(6, 1);
        x.set(7, 4);
        x.set(8, 7);
        x.set(9, 1);
        x.set(10, 2);
        x.set(11, 2);
        x.compose();
        x.check(true);
        x.put(0);
        DUE.is("store(0) of a faulty one", x.store(0), -2);
        for (int field = 6; field <= 11; field++) {
            x.set(field, field <= 8 ? -1 : 0);
        }
        x.compose();
        DUE.is("store(0)", x.store(0), 0);
        byte[] body = Elements.body(1, "a", "a", 0);
        int hash = Elements.hash(body);
        tells(x, 0, 1, 1, 0, 1000, 1, Elements.MODULI[0], 3, Elements.signature(0, hash), hash, -1, 0, 0, 0, 0, 1);
        x.revoke(1, 1);
        x.revoke(1, 2);
        x.composeList();
        x.check(false);
        x.forgive();
        x.composeList();
        DUE.is("store(2)", x.store(2), 0);
        DUE.is("list(0, 3)", x.list(0, 3), 0);
    }

    /** Promise 14, each number of lists of 0 to 4 serials. */
    private static void listFields() {
        CertificateVault x = new CertificateVault();
        x.set(1, Elements.nameValue("ab"));
        x.set(2, 50);
        x.set(3, 60);
        x.set(12, 5);
        for (int count = 0; count <= 4; count++) {
            x.composeList();
            byte[] draft = Elements.draft(x);
            byte[] body = java.util.Arrays.copyOfRange(draft, 2, 2 + 2 + draft[3]);
            int hash = Elements.hash(body);
            DUE.is("store(2)", x.store(2), count);
            long[] want = {Elements.nameValue("ab"), 50, 60, count, Elements.signature(5, hash), hash, -1};
            for (int what = 0; what < want.length; what++) {
                DUE.is("list(" + count + ", " + what + ")", x.list(count, what), want[what]);
            }
            x.revoke(count, count);
        }
    }

    /** What is stored stays as it was when the draft, the template or the serials become others. */
    private static void storedOnesStay() {
        CertificateVault x = new CertificateVault();
        x.set(6, 1);
        x.set(8, 3);
        x.compose();
        x.store(0);
        x.revoke(5, 6);
        x.composeList();
        x.store(2);
        long[] certificate = new long[15];
        long[] list = new long[6];
        for (int what = 0; what < 15; what++) {
            certificate[what] = x.certificate(0, what);
        }
        for (int what = 0; what < 6; what++) {
            list[what] = x.list(0, what);
        }
        for (int field = 0; field < 13; field++) {
            x.set(field, 2);
        }
        x.forgive();
        x.revoke(1, 2);
        x.revoke(3, 4);
        x.composeList();
        x.check(false);
        x.compose();
        x.check(true);
        x.store(1);
        for (int k = 0; k < 60; k++) {
            x.poke(k, 7);
        }
        x.clear();
        tells(x, 0, certificate);
        for (int what = 0; what < 6; what++) {
            DUE.is("list(0, " + what + ")", x.list(0, what), list[what]);
        }
        DUE.is("the second one's serial", x.certificate(1, 0), 2);
    }

    /** "NONE when there is none or what is none of these." */
    private static void wrongQuestions() {
        CertificateVault x = new CertificateVault();
        x.compose();
        x.store(0);
        x.composeList();
        x.store(2);
        for (int wrong : new int[] {-1, 1, 12, 13, Integer.MIN_VALUE, Integer.MAX_VALUE}) {
            DUE.is("certificate(" + wrong + ", 0)", x.certificate(wrong, 0), -1);
            DUE.is("list(" + wrong + ", 0)", x.list(wrong, 0), -1);
        }
        for (int wrong : new int[] {-1, 15, 16, Integer.MIN_VALUE, Integer.MAX_VALUE}) {
            DUE.is("certificate(0, " + wrong + ")", x.certificate(0, wrong), -1);
            DUE.is("list(0, " + wrong + ")", x.list(0, wrong), -1);
        }
        DUE.is("list(0, 6)", x.list(0, 6), -1);
    }
}
