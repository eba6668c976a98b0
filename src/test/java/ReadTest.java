import static java.util.Arrays.copyOf;

/** Promise 11: check, every fault at the places that the document names. */
public final class ReadTest {
    private static final int END = 1;
    private static final int TAG = 2;
    private static final int LENGTH = 3;
    private static final int CONTENT = 4;
    private static final int MORE = 5;

    private static final Due DUE = new Due("ReadTest");

    /** The elements that every body has, 23 bytes; they begin at 4 in what withBody makes. */
    private static final byte[] SEVEN = Elements.join(Elements.integer(1), Elements.name("a"), Elements.integer(0),
        Elements.integer(900), Elements.name("b"), Elements.integer(700), Elements.integer(3));

    public static void main(String[] args) {
        emptyAndOuter();
        lengths();
        truncated();
        integers();
        names();
        flags();
        extensionsThereOrNot();
        ids();
        basic();
        usage();
        realm();
        opaque();
        lists();
        moreOrder();
        bytesThatAreGone();
        fullDraft();
        checkChangesNothing();
        DUE.end();
    }

    private static void check(String what, boolean certificate, int want, byte[] draft) {
        CertificateVault x = new CertificateVault();
        Elements.fill(x, draft);
        DUE.is(what, x.check(certificate), want);
        DUE.is(what + ", store", x.store(certificate ? 1 : 2), want == 0 ? 0 : -2);
    }

    private static int fault(int kind, int place) {
        return kind + 16 * place;
    }

    private static byte[] withBody(byte[]... parts) {
        return Elements.sequence(Elements.sequence(parts), Elements.integer(5));
    }

    /** A certificate with EXTENSIONS at 27, so that their content begins at 29. */
    private static byte[] withExtensions(byte[]... parts) {
        return withBody(SEVEN, Elements.sequence(parts));
    }

    private static void emptyAndOuter() {
        check("nothing", true, fault(END, 0), Elements.bytes());
        check("nothing as a list", false, fault(END, 0), Elements.bytes());
        check("a wrong tag alone", true, fault(TAG, 0), Elements.bytes(2));
        check("a tag alone", true, fault(END, 0), Elements.bytes(48));
        check("an empty sequence", true, fault(END, 2), Elements.bytes(48, 0));
        check("an empty body", true, fault(END, 4), Elements.bytes(48, 2, 48, 0));
        check("an empty body as a list", false, fault(END, 4), Elements.bytes(48, 2, 48, 0));
        check("no body but an integer", true, fault(TAG, 2), Elements.bytes(48, 3, 2, 1, 0));
        check("a body that ends the whole", true, fault(END, 4 + SEVEN.length),
            Elements.sequence(Elements.sequence(SEVEN)));
        check("a whole certificate", true, 0, withBody(SEVEN));
        check("it is no list", false, fault(TAG, 4), withBody(SEVEN));
    }

    private static void lengths() {
        check("length 128", true, fault(LENGTH, 0), Elements.bytes(48, 128));
        check("length 130", true, fault(LENGTH, 0), Elements.bytes(48, 130, 1, 1));
        check("length 255", true, fault(LENGTH, 0), Elements.bytes(48, 255));
        check("length 129 alone", true, fault(END, 0), Elements.bytes(48, 129));
        check("length 129 127", true, fault(LENGTH, 0), Elements.bytes(48, 129, 127));
        check("length 129 0", true, fault(LENGTH, 0), Elements.bytes(48, 129, 0));
        check("length 129 128 too long", true, fault(END, 0), Elements.bytes(48, 129, 128, 48));
        check("length 129 255 too long", true, fault(END, 0), Elements.bytes(48, 129, 255, 48));
        check("length 127 too long", true, fault(END, 0), Elements.bytes(48, 127, 48));
        check("inner tag at the end", true, fault(END, 2), Elements.bytes(48, 1, 48));
        check("inner tag at the end, a wrong length behind it", true, fault(END, 2), Elements.bytes(48, 1, 48, 128));
        check("inner length beyond the outer", true, fault(END, 2), Elements.bytes(48, 2, 48, 1, 0));
        check("inner second length byte beyond the outer", true, fault(END, 2), Elements.bytes(48, 2, 48, 129, 200));
        check("inner second length byte beyond the outer, too small", true, fault(END, 2),
            Elements.bytes(48, 2, 48, 129, 5));
        check("inner length 128", true, fault(LENGTH, 2), Elements.bytes(48, 2, 48, 128));
        byte[] longOne = withBody(SEVEN, Elements.sequence(Elements.sequence(Elements.integer(9),
            Elements.element(4, new byte[140]))));
        check("a long certificate", true, 0, longOne);
        check("a long certificate, cut", true, fault(END, 0), copyOf(longOne, longOne.length - 1));
        byte[] body127 = Elements.sequence(SEVEN, Elements.sequence(Elements.sequence(Elements.integer(9),
            Elements.element(4, new byte[127 - SEVEN.length - 9]))));
        DUE.is("a body of 127 bytes", body127[1], 127);
        check("a body of 127 bytes", true, 0, Elements.sequence(body127, Elements.integer(5)));
        byte[] body128 = Elements.sequence(SEVEN, Elements.sequence(Elements.sequence(Elements.integer(9),
            Elements.element(4, new byte[128 - SEVEN.length - 9]))));
        DUE.is("a body of 128 bytes", body128[2] & 255, 128);
        check("a body of 128 bytes", true, 0, Elements.sequence(body128, Elements.integer(5)));
    }

    private static void truncated() {
        int elements = 0;
        for (int k = 0; k < SEVEN.length; elements++) {
            int element = k;
            k += 2 + SEVEN[k + 1];
            check("a body that ends before byte " + element, true, fault(END, 4 + element),
                withBody(copyOf(SEVEN, element)));
            check("a body that ends behind a tag", true, fault(END, 4 + element), withBody(copyOf(SEVEN, element + 1)));
            check("a body that ends in a content", true, fault(END, 4 + element), withBody(copyOf(SEVEN, k - 1)));
            byte[] wrong = SEVEN.clone();
            wrong[element] = 4;
            check("a wrong tag at " + element, true, fault(TAG, 4 + element), withBody(wrong));
        }
        DUE.is("elements of a body", elements, 7);
    }

    private static byte[] withSerial(int... content) {
        byte[] rest = java.util.Arrays.copyOfRange(SEVEN, 3, SEVEN.length);
        return withBody(Elements.element(2, Elements.bytes(content)), rest);
    }

    private static void integers() {
        check("0", true, 0, withSerial(0));
        check("127", true, 0, withSerial(127));
        check("0 128", true, 0, withSerial(0, 128));
        check("0 255", true, 0, withSerial(0, 255));
        check("1 0", true, 0, withSerial(1, 0));
        check("eight bytes", true, 0, withSerial(127, 255, 255, 255, 255, 255, 255, 255));
        check("eight bytes, the first 0", true, 0, withSerial(0, 128, 0, 0, 0, 0, 0, 0));
        check("no bytes", true, fault(CONTENT, 4), withSerial());
        check("nine bytes", true, fault(CONTENT, 4), withSerial(1, 0, 0, 0, 0, 0, 0, 0, 0));
        check("nine bytes, the first 0", true, fault(CONTENT, 4), withSerial(0, 128, 0, 0, 0, 0, 0, 0, 0));
        check("128", true, fault(CONTENT, 4), withSerial(128));
        check("255", true, fault(CONTENT, 4), withSerial(255));
        check("128 0", true, fault(CONTENT, 4), withSerial(128, 0));
        check("0 0", true, fault(CONTENT, 4), withSerial(0, 0));
        check("0 127", true, fault(CONTENT, 4), withSerial(0, 127));
        check("0 0 128", true, fault(CONTENT, 4), withSerial(0, 0, 128));
        byte[] signature = Elements.sequence(Elements.sequence(SEVEN), Elements.element(2));
        check("a signature without bytes", true, fault(CONTENT, 4 + SEVEN.length), signature);
        check("a signature that is a name", true, fault(TAG, 4 + SEVEN.length),
            Elements.sequence(Elements.sequence(SEVEN), Elements.name("a")));
    }

    private static byte[] withIssuer(String issuer) {
        byte[] rest = java.util.Arrays.copyOfRange(SEVEN, 6, SEVEN.length);
        return withBody(Elements.integer(1), Elements.name(issuer), rest);
    }

    private static void names() {
        for (String name : new String[] {"a", "z", "a.b", "abcdefgh", "a.b.c.de"}) {
            check("issuer " + name, true, 0, withIssuer(name));
        }
        String[] wrong = {"", ".", ".a", "a.", "a..b", "abcdefghi", "abcdefg.h", "A", "a`", "a{", "a-b", "a b", "a/b",
            "a\u0000", "\u0000a", "a\u0000b", "a0", "a\u00e4", "a\u00ff", "a.b.c.d.", "abcdefgh."};
        for (String name : wrong) {
            check("issuer " + name, true, fault(CONTENT, 7), withIssuer(name));
        }
    }

    private static void flags() {
        byte[] id = Elements.integer(9);
        byte[] value = Elements.element(4);
        check("TRUE", true, 0, withExtensions(Elements.sequence(id, Elements.bytes(1, 1, 255), value)));
        check("TRUE of 0", true, fault(CONTENT, 34), withExtensions(Elements.sequence(id, Elements.bytes(1, 1, 0), value)));
        check("TRUE of 1", true, fault(CONTENT, 34), withExtensions(Elements.sequence(id, Elements.bytes(1, 1, 1), value)));
        check("TRUE of 254", true, fault(CONTENT, 34), withExtensions(Elements.sequence(id, Elements.bytes(1, 1, 254), value)));
        check("TRUE without bytes", true, fault(CONTENT, 34), withExtensions(Elements.sequence(id, Elements.bytes(1, 0), value)));
        check("TRUE of two bytes", true, fault(CONTENT, 34),
            withExtensions(Elements.sequence(id, Elements.bytes(1, 2, 255, 255), value)));
        check("TRUE that ends with its tag", true, fault(END, 34), withExtensions(Elements.sequence(id, Elements.bytes(1))));
        check("TRUE that ends with its length", true, fault(END, 34), withExtensions(Elements.sequence(id, Elements.bytes(1, 1))));
        check("TRUE with a wrong length", true, fault(LENGTH, 34), withExtensions(Elements.sequence(id, Elements.bytes(1, 128))));
        check("TRUE twice", true, fault(TAG, 37),
            withExtensions(Elements.sequence(id, Elements.flag(), Elements.flag(), value)));
    }

    private static byte[] other(long id) {
        return Elements.sequence(Elements.integer(id), Elements.element(4));
    }

    private static void extensionsThereOrNot() {
        DUE.is("where EXTENSIONS begins", 4 + SEVEN.length, 27);
        check("EXTENSIONS without an EXTENSION", true, fault(END, 29), withExtensions());
        check("an integer behind the exponent", true, fault(MORE, 27), withBody(SEVEN, Elements.integer(1)));
        check("a 0 behind the exponent", true, fault(MORE, 27), withBody(SEVEN, Elements.bytes(0)));
        check("EXTENSIONS that ends with its tag", true, fault(END, 27), withBody(SEVEN, Elements.bytes(48)));
        check("EXTENSIONS longer than the body", true, fault(END, 27), withBody(SEVEN, Elements.bytes(48, 1)));
        check("EXTENSIONS with an integer first", true, fault(TAG, 29), withExtensions(Elements.integer(1)));
        check("EXTENSIONS with an integer second", true, fault(MORE, 36),
            withExtensions(other(9), Elements.integer(1)));
        check("EXTENSIONS with a 0 second", true, fault(MORE, 36), withExtensions(other(9), Elements.bytes(0)));
        check("an empty EXTENSION", true, fault(END, 31), withExtensions(Elements.sequence()));
        check("an empty second EXTENSION", true, fault(END, 38), withExtensions(other(9), Elements.sequence()));
        check("a second EXTENSION that ends with its tag", true, fault(END, 36),
            withExtensions(other(9), Elements.bytes(48)));
        check("a sequence behind a value is no next EXTENSION", true, fault(MORE, 36),
            withExtensions(Elements.sequence(Elements.integer(4), Elements.element(4), other(5))));
        check("EXTENSIONS twice", true, fault(MORE, 36),
            withBody(SEVEN, Elements.sequence(other(9)), Elements.sequence(other(10))));
    }

    private static void ids() {
        check("id 0", true, 0, withExtensions(other(0)));
        check("ids 0 4 5", true, 0, withExtensions(other(0), other(4), other(5)));
        check("ids 4 and MAX", true, 0, withExtensions(other(4), other(Long.MAX_VALUE)));
        check("ids 4 4", true, fault(CONTENT, 38), withExtensions(other(4), other(4)));
        check("ids 5 4", true, fault(CONTENT, 38), withExtensions(other(5), other(4)));
        check("ids 5 0", true, fault(CONTENT, 38), withExtensions(other(5), other(0)));
        check("ids 2 1", true, fault(CONTENT, 39),
            withExtensions(Elements.sequence(Elements.integer(2), Elements.integer(1)),
                Elements.sequence(Elements.integer(1), Elements.sequence())));
        check("an id that is no integer", true, fault(TAG, 31), withExtensions(Elements.sequence(Elements.name("a"))));
        check("an id of 0 0", true, fault(CONTENT, 31),
            withExtensions(Elements.sequence(Elements.element(2, new byte[2]))));
        check("an id without a value", true, fault(END, 34), withExtensions(Elements.sequence(Elements.integer(4))));
    }

    private static byte[] extension(long id, byte[]... rest) {
        return withExtensions(Elements.sequence(Elements.integer(id), Elements.join(rest)));
    }

    private static void basic() {
        check("BASIC, empty", true, 0, extension(1, Elements.sequence()));
        check("BASIC, authority", true, 0, extension(1, Elements.sequence(Elements.flag())));
        check("BASIC, reach 0", true, 0, extension(1, Elements.sequence(Elements.flag(), Elements.integer(0))));
        check("BASIC, reach MAX", true, 0,
            extension(1, Elements.sequence(Elements.flag(), Elements.integer(Long.MAX_VALUE))));
        check("BASIC, reach without authority", true, fault(MORE, 36),
            extension(1, Elements.sequence(Elements.integer(0))));
        check("BASIC, reach twice", true, fault(MORE, 42),
            extension(1, Elements.sequence(Elements.flag(), Elements.integer(0), Elements.integer(0))));
        check("BASIC, authority twice", true, fault(MORE, 39),
            extension(1, Elements.sequence(Elements.flag(), Elements.flag())));
        check("BASIC, a wrong flag", true, fault(CONTENT, 36), extension(1, Elements.sequence(Elements.bytes(1, 1, 7))));
        check("BASIC, a wrong reach", true, fault(CONTENT, 39),
            extension(1, Elements.sequence(Elements.flag(), Elements.bytes(2, 1, 200))));
        check("BASIC as OPAQUE", true, fault(TAG, 34), extension(1, Elements.element(4)));
        check("BASIC as INTEGER", true, fault(TAG, 34), extension(1, Elements.integer(1)));
        check("BASIC, more behind", true, fault(MORE, 36), extension(1, Elements.sequence(), Elements.integer(1)));
        check("BASIC, critical", true, 0, extension(1, Elements.flag(), Elements.sequence()));
        check("BASIC, critical, and nothing", true, fault(END, 37), extension(1, Elements.flag()));
    }

    private static void usage() {
        for (int v = 1; v <= 7; v++) {
            check("USAGE " + v, true, 0, extension(2, Elements.integer(v)));
        }
        check("USAGE 0", true, fault(CONTENT, 34), extension(2, Elements.integer(0)));
        check("USAGE 8", true, fault(CONTENT, 34), extension(2, Elements.integer(8)));
        check("USAGE 257", true, fault(CONTENT, 34), extension(2, Elements.integer(257)));
        check("USAGE 2^32 + 1", true, fault(CONTENT, 34), extension(2, Elements.integer((1L << 32) + 1)));
        check("USAGE, critical, 8", true, fault(CONTENT, 37), extension(2, Elements.flag(), Elements.integer(8)));
        check("USAGE of 0 1", true, fault(CONTENT, 34), extension(2, Elements.bytes(2, 2, 0, 1)));
        check("USAGE as a SEQUENCE", true, fault(TAG, 34), extension(2, Elements.sequence(Elements.integer(1))));
        check("USAGE twice", true, fault(MORE, 37), extension(2, Elements.integer(1), Elements.integer(1)));
        check("USAGE that is cut", true, fault(END, 34), extension(2, Elements.bytes(2, 1)));
    }

    private static void realm() {
        byte[] allowed = Elements.text(128, "a");
        byte[] barred = Elements.text(129, "b");
        check("REALM, allowed", true, 0, extension(3, Elements.sequence(allowed)));
        check("REALM, barred", true, 0, extension(3, Elements.sequence(barred)));
        check("REALM, both", true, 0, extension(3, Elements.sequence(allowed, barred)));
        check("REALM, none", true, fault(CONTENT, 34), extension(3, Elements.sequence()));
        check("REALM, none, critical", true, fault(CONTENT, 37), extension(3, Elements.flag(), Elements.sequence()));
        check("REALM, the wrong order", true, fault(MORE, 39), extension(3, Elements.sequence(barred, allowed)));
        check("REALM, allowed twice", true, fault(MORE, 39), extension(3, Elements.sequence(allowed, allowed)));
        check("REALM, barred twice", true, fault(MORE, 42), extension(3, Elements.sequence(allowed, barred, barred)));
        check("REALM, a name", true, fault(MORE, 36), extension(3, Elements.sequence(Elements.name("a"))));
        check("REALM, a byte", true, fault(MORE, 36), extension(3, Elements.sequence(Elements.bytes(0))));
        check("REALM, a tag alone", true, fault(END, 36), extension(3, Elements.sequence(Elements.bytes(128))));
        check("REALM, allowed without bytes", true, fault(CONTENT, 36), extension(3, Elements.sequence(Elements.element(128))));
        check("REALM, barred with a dot", true, fault(CONTENT, 39),
            extension(3, Elements.sequence(allowed, Elements.text(129, "b."))));
        check("REALM, allowed too long", true, fault(CONTENT, 36),
            extension(3, Elements.sequence(Elements.text(128, "abcdefghi"))));
        check("REALM as OPAQUE", true, fault(TAG, 34), extension(3, Elements.element(4)));
    }

    private static void opaque() {
        check("OPAQUE, empty", true, 0, extension(4, Elements.element(4)));
        check("OPAQUE, any bytes", true, 0, extension(0, Elements.element(4, Elements.bytes(48, 255, 0, 128))));
        check("OPAQUE as a SEQUENCE", true, fault(TAG, 34), extension(4, Elements.sequence()));
        check("OPAQUE as an INTEGER", true, fault(TAG, 34), extension(4, Elements.integer(1)));
        check("OPAQUE, more behind", true, fault(MORE, 36), extension(4, Elements.element(4), Elements.element(4)));
        check("OPAQUE, cut", true, fault(END, 34), extension(4, Elements.bytes(4, 2, 0)));
    }

    private static byte[] list(byte[]... entries) {
        return Elements.sequence(Elements.listBody("a", 1, 2, entries), Elements.integer(5));
    }

    private static void lists() {
        byte[] one = Elements.entry(1, 2);
        check("a list of none", false, 0, list());
        check("a list of four", false, 0, list(one, one, one, one));
        check("a list of five", false, fault(MORE, 15 + 32), list(one, one, one, one, one));
        check("a list is no certificate", true, fault(TAG, 4), list());
        check("a list with an integer", false, fault(MORE, 15), list(Elements.integer(1)));
        check("a list with an integer second", false, fault(MORE, 23), list(one, Elements.integer(1)));
        check("an empty entry", false, fault(END, 17), list(Elements.sequence()));
        check("an entry without a date", false, fault(END, 20), list(Elements.sequence(Elements.integer(1))));
        check("an entry with more", false, fault(MORE, 23),
            list(Elements.sequence(Elements.integer(1), Elements.integer(1), Elements.integer(1))));
        check("an entry with an entry", false, fault(MORE, 23),
            list(Elements.sequence(Elements.integer(1), Elements.integer(1), one)));
        check("an entry with a wrong date", false, fault(CONTENT, 20),
            list(Elements.sequence(Elements.integer(1), Elements.element(2))));
        check("an entry with a name", false, fault(TAG, 17), list(Elements.sequence(Elements.name("a"))));
        check("an entry longer than its list", false, fault(END, 15), list(Elements.bytes(48, 7, 2, 1, 1, 2, 1, 1)));
        byte[] start = Elements.join(Elements.name("a"), Elements.integer(1), Elements.integer(2));
        byte[] signature = Elements.integer(5);
        check("a list without entries", false, fault(END, 13), Elements.sequence(Elements.sequence(start), signature));
        check("a list with an integer for its entries", false, fault(TAG, 13),
            Elements.sequence(Elements.sequence(start, signature), signature));
        check("a list with more in its body", false, fault(MORE, 15),
            Elements.sequence(Elements.sequence(start, Elements.sequence(), signature), signature));
        check("a list without a signature", false, fault(END, 15),
            Elements.sequence(Elements.sequence(start, Elements.sequence())));
        check("a list with two signatures", false, fault(MORE, 18),
            Elements.sequence(Elements.sequence(start, Elements.sequence()), signature, signature));
        check("a list with more behind it", false, fault(MORE, 18), Elements.join(list(), Elements.bytes(48)));
        check("a list with a wrong issuer", false, fault(CONTENT, 4),
            Elements.sequence(Elements.listBody("a.", 1, 2), signature));
    }

    private static void moreOrder() {
        byte[] signature = Elements.integer(5);
        byte[] more = Elements.bytes(9);
        byte[] body = Elements.sequence(SEVEN);
        check("more behind the signature", true, fault(MORE, 30), Elements.sequence(body, signature, more));
        check("more behind the whole", true, fault(MORE, 30), Elements.join(Elements.sequence(body, signature), more));
        check("more in the body first", true, fault(MORE, 27),
            Elements.join(Elements.sequence(Elements.sequence(SEVEN, more), signature, more), more));
        check("more behind the signature before more behind the whole", true, fault(MORE, 30),
            Elements.join(Elements.sequence(body, signature, more), more));
        check("more in an extension before a wrong signature", true, fault(MORE, 36),
            Elements.sequence(Elements.sequence(SEVEN, Elements.sequence(Elements.sequence(Elements.integer(4),
                Elements.element(4), more))), Elements.name("a")));
    }

    /** What stood in a longer draft before is not read behind the end of a shorter one. */
    private static void bytesThatAreGone() {
        byte[] whole = withBody(SEVEN);
        for (int length = 0; length < whole.length; length++) {
            CertificateVault x = new CertificateVault();
            Elements.fill(x, whole);
            Elements.fill(x, copyOf(whole, length));
            DUE.is("the first " + length + " bytes", x.check(true), fault(END, 0));
        }
        for (int behind = 0; behind < 256; behind++) {
            CertificateVault x = new CertificateVault();
            Elements.fill(x, Elements.bytes(48, 129, behind, 48));
            Elements.fill(x, Elements.bytes(48, 129));
            DUE.is("129 at the end", x.check(true), fault(END, 0));
        }
    }

    /** A draft of 200 bytes that ends with the given ones behind the body. */
    private static byte[] full(int... tail) {
        int filler = 200 - 3 - tail.length - 3 - SEVEN.length - 3 - 3 - 3 - 3;
        byte[] opaque = Elements.element(4, new byte[filler]);
        byte[] extension = Elements.sequence(Elements.integer(9), opaque);
        byte[] draft = Elements.sequence(Elements.sequence(SEVEN, Elements.sequence(extension)), Elements.bytes(tail));
        DUE.is("bytes of a full draft", draft.length, 200);
        return draft;
    }

    private static void fullDraft() {
        check("200 bytes", true, 0, full(2, 1, 5));
        check("200 bytes that end with the body", true, fault(END, 200), full());
        check("200 bytes that end with a tag", true, fault(END, 199), full(2));
        check("200 bytes that end with a length", true, fault(END, 198), full(2, 1));
        check("200 bytes that end with a length's first byte", true, fault(END, 198), full(2, 129));
        check("200 bytes that end with a length's second byte", true, fault(END, 197), full(2, 129, 128));
        check("200 bytes and an integer without bytes", true, fault(CONTENT, 198), full(2, 0));
        check("200 bytes and an integer of one 0", true, 0, full(2, 1, 0));
        check("200 bytes with one too many", true, fault(MORE, 199), full(2, 1, 5, 7));
        CertificateVault x = new CertificateVault();
        for (int k = 0; k < 200; k++) {
            x.put(48);
        }
        DUE.is("200 times a sequence's tag", x.check(true), fault(END, 2));
    }

    private static void checkChangesNothing() {
        CertificateVault x = new CertificateVault();
        x.compose();
        byte[] draft = Elements.draft(x);
        DUE.is("check(true)", x.check(true), 0);
        DUE.is("check(false)", x.check(false), fault(TAG, 4));
        DUE.is("check(true) again", x.check(true), 0);
        DUE.is("the draft after check", Elements.draft(x), draft);
        DUE.is("nothing is stored by check", x.certificate(0, 0), -1);
    }
}
