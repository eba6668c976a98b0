/** Promises 9 and 10: compose and composeList, byte by byte. */
public final class ComposeTest {
    private static final Due DUE = new Due("ComposeTest");

    public static void main(String[] args) {
        integers();
        fromAndTo();
        names();
        keys();
        eachExtension();
        reachNeedsAuthority();
        longest();
        everyLength();
        entries();
        lists();
        draftIsReplaced();
        DUE.end();
    }

    private static void certificateIs(String when, CertificateVault x, byte[] want) {
        DUE.is(when + ": compose()", x.compose(), want.length);
        DUE.is(when, Elements.draft(x), want);
        DUE.is(when + ": check(true)", x.check(true), 0);
    }

    private static byte[] extension(int id, boolean critical, byte[] value) {
        byte[] flag = critical ? Elements.flag() : new byte[0];
        return Elements.sequence(Elements.integer(id), flag, value);
    }

    private static void integers() {
        long[] values = {0, 1, 127, 128, 255, 256, 32767, 32768, 8388607, 8388608, 2147483647L, 2147483648L,
            (1L << 39) - 1, 1L << 39, (1L << 47) - 1, 1L << 47, (1L << 55) - 1, 1L << 55, Long.MAX_VALUE};
        for (long v : values) {
            CertificateVault x = new CertificateVault();
            x.set(0, v);
            certificateIs("serial " + v, x, Elements.signed(0, Elements.body(v, "a", "a", 0)));
        }
    }

    private static void fromAndTo() {
        long[] values = {0, 127, 128, 32767, 32768, 1L << 55, Long.MAX_VALUE};
        for (long from : values) {
            for (long to : values) {
                CertificateVault x = new CertificateVault();
                x.set(2, from);
                x.set(3, to);
                byte[] body = Elements.sequence(Elements.integer(1), Elements.name("a"), Elements.integer(from),
                    Elements.integer(to), Elements.name("a"), Elements.integer(Elements.MODULI[0]), Elements.integer(3));
                certificateIs("from " + from + " to " + to, x, Elements.signed(0, body));
                byte[] list = Elements.signed(0, Elements.listBody("a", from, to));
                DUE.is("composeList()", x.composeList(), list.length);
                DUE.is("a list from " + from + " to " + to, Elements.draft(x), list);
            }
        }
    }

    private static void names() {
        for (String name : new String[] {"a", "z", "a.z", "abcdefgh", "zzzzzzzz", "a.b.c.de", "q.rstuvw"}) {
            CertificateVault x = new CertificateVault();
            x.set(1, Elements.nameValue(name));
            certificateIs("issuer " + name, x, Elements.signed(0, Elements.body(1, name, "a", 0)));
            x.composeList();
            DUE.is("a list of " + name, Elements.draft(x), Elements.signed(0, Elements.listBody(name, 0, 1000)));
            x.set(1, 1);
            x.set(4, Elements.nameValue(name));
            certificateIs("subject " + name, x, Elements.signed(0, Elements.body(1, "a", name, 0)));
        }
    }

    private static void keys() {
        for (int borne = 0; borne < 6; borne++) {
            for (int signing = 0; signing < 6; signing++) {
                CertificateVault x = new CertificateVault();
                x.set(1, Elements.nameValue("ab.c"));
                x.set(4, Elements.nameValue("x.yz"));
                x.set(5, borne);
                x.set(12, signing);
                certificateIs("key " + borne + " signed with " + signing, x,
                    Elements.signed(signing, Elements.body(1, "ab.c", "x.yz", borne)));
            }
        }
    }

    private static void with(int field, long v, byte[] extension) {
        CertificateVault x = new CertificateVault();
        x.set(field, v);
        certificateIs("field " + field + " is " + v, x, Elements.signed(0, Elements.body(1, "a", "a", 0, extension)));
        DUE.is("store", x.store(1), 0);
        DUE.is("how many extensions", x.certificate(0, 13), 1);
    }

    private static void eachExtension() {
        with(6, 0, extension(1, true, Elements.sequence()));
        with(6, 1, extension(1, true, Elements.sequence(Elements.flag())));
        for (int usage = 1; usage <= 7; usage++) {
            with(8, usage, extension(2, true, Elements.integer(usage)));
        }
        with(9, Elements.nameValue("b.c"), extension(3, true, Elements.sequence(Elements.text(128, "b.c"))));
        with(10, Elements.nameValue("b.c"), extension(3, true, Elements.sequence(Elements.text(129, "b.c"))));
        with(11, 1, extension(9, false, Elements.element(4)));
        with(11, 2, extension(9, true, Elements.element(4)));
    }

    private static void reachNeedsAuthority() {
        CertificateVault x = new CertificateVault();
        x.set(7, 3);
        certificateIs("reach without BASIC", x, Elements.signed(0, Elements.body(1, "a", "a", 0)));
        x.set(6, 0);
        certificateIs("reach without authority", x,
            Elements.signed(0, Elements.body(1, "a", "a", 0, extension(1, true, Elements.sequence()))));
        x.set(6, 1);
        certificateIs("reach", x, Elements.signed(0, Elements.body(1, "a", "a", 0,
            extension(1, true, Elements.sequence(Elements.flag(), Elements.integer(3))))));
        for (int reach = 0; reach <= 9; reach++) {
            CertificateVault y = new CertificateVault();
            y.set(6, 1);
            y.set(7, reach);
            certificateIs("reach " + reach, y, Elements.signed(0, Elements.body(1, "a", "a", 0,
                extension(1, true, Elements.sequence(Elements.flag(), Elements.integer(reach))))));
        }
    }

    private static void longest() {
        CertificateVault x = new CertificateVault();
        long name = Elements.nameValue("abcdefgh");
        long[] fields = {Long.MAX_VALUE, name, Long.MAX_VALUE, Long.MAX_VALUE, name, 3, 1, 9, 7, name, name, 2, 3};
        for (int field = 0; field < fields.length; field++) {
            DUE.is("set(" + field + ")", x.set(field, fields[field]), true);
        }
        byte[] most = Elements.integer(Long.MAX_VALUE);
        byte[] text = Elements.name("abcdefgh");
        byte[] realm = Elements.sequence(Elements.text(128, "abcdefgh"), Elements.text(129, "abcdefgh"));
        byte[] extensions = Elements.sequence(
            extension(1, true, Elements.sequence(Elements.flag(), Elements.integer(9))),
            extension(2, true, Elements.integer(7)), extension(3, true, realm), extension(9, true, Elements.element(4)));
        byte[] body = Elements.sequence(most, text, most, most, text, Elements.integer(Elements.MODULI[3]),
            Elements.integer(65537), extensions);
        certificateIs("all fields", x, Elements.signed(3, body));
        for (int k = 0; k < 4; k++) {
            x.revoke(Long.MAX_VALUE, Long.MAX_VALUE);
        }
        byte[] entry = Elements.sequence(most, most);
        byte[] listBody = Elements.sequence(text, most, most, Elements.sequence(entry, entry, entry, entry));
        DUE.is("composeList()", x.composeList(), Elements.signed(3, listBody).length);
        DUE.is("the longest list", Elements.draft(x), Elements.signed(3, listBody));
        DUE.is("check(false)", x.check(false), 0);
    }

    /** Lengths round 127 and 128, where the second form of a length begins. */
    private static void everyLength() {
        String name = "abcdefgh";
        int found = 0;
        for (int allowed = 1; allowed <= 8; allowed++) {
            for (int barred = 1; barred <= 8; barred++) {
                for (int bytes = 0; bytes < 8; bytes++) {
                    long serial = 1L << 8 * bytes;
                    CertificateVault x = new CertificateVault();
                    long[] fields = {serial, Elements.nameValue(name), 0, 1000, Elements.nameValue(name), 3, 1, 9, 7,
                        Elements.nameValue(name.substring(0, allowed)), Elements.nameValue(name.substring(0, barred)), 2, 3};
                    for (int field = 0; field < fields.length; field++) {
                        x.set(field, fields[field]);
                    }
                    byte[] realm = Elements.sequence(Elements.text(128, name.substring(0, allowed)),
                        Elements.text(129, name.substring(0, barred)));
                    byte[] body = Elements.body(serial, name, name, 3,
                        extension(1, true, Elements.sequence(Elements.flag(), Elements.integer(9))),
                        extension(2, true, Elements.integer(7)), extension(3, true, realm),
                        extension(9, true, Elements.element(4)));
                    byte[] whole = Elements.signed(3, body);
                    found |= whole.length == 129 ? 1 : whole.length == 131 ? 2 : 0;
                    certificateIs("lengths", x, whole);
                }
            }
        }
        DUE.is("certificates with a content of 127 and of 128 bytes", found, 3);
    }

    /** The serials to be revoked go with the list alone, in their order; 0 to 4 of them. */
    private static void entries() {
        long[][] pairs = {{3, 200}, {1, 0}, {3, 200}, {2, 1L << 40}};
        for (int count = 0; count <= 4; count++) {
            CertificateVault x = new CertificateVault();
            byte[][] entries = new byte[count][];
            for (int k = 0; k < count; k++) {
                x.revoke(pairs[k][0], pairs[k][1]);
                entries[k] = Elements.entry(pairs[k][0], pairs[k][1]);
            }
            byte[] want = Elements.signed(0, Elements.listBody("a", 0, 1000, entries));
            DUE.is("composeList() of " + count, x.composeList(), want.length);
            DUE.is("a list of " + count, Elements.draft(x), want);
            certificateIs("a certificate with " + count, x, Elements.signed(0, Elements.body(1, "a", "a", 0)));
            DUE.is("composeList() again", x.composeList(), want.length);
        }
    }

    private static void lists() {
        for (int key = 0; key < 6; key++) {
            CertificateVault x = new CertificateVault();
            x.set(0, 77);
            x.set(1, Elements.nameValue("q.r"));
            x.set(2, 300);
            x.set(3, 20);
            x.set(6, 1);
            x.set(12, key);
            x.revoke(300, 4);
            x.revoke(2, 65536);
            byte[] want = Elements.signed(key,
                Elements.listBody("q.r", 300, 20, Elements.entry(300, 4), Elements.entry(2, 65536)));
            DUE.is("composeList()", x.composeList(), want.length);
            DUE.is("a list with key " + key, Elements.draft(x), want);
            DUE.is("check(false)", x.check(false), 0);
        }
    }

    private static void draftIsReplaced() {
        CertificateVault x = new CertificateVault();
        for (int k = 0; k < 200; k++) {
            x.put(255);
        }
        DUE.is("compose() over a full draft", x.compose(), 43);
        DUE.is("at(-1)", x.at(-1), 43);
        DUE.is("at(43)", x.at(43), -1);
        DUE.is("composeList() over a certificate", x.composeList(), 26);
        DUE.is("at(-1)", x.at(-1), 26);
    }
}
