import java.util.Arrays;
import java.util.List;

/**
 * Terms, READING: every fault of every element of a certificate and of a list, at its place. What is
 * cut off in an element leaves the bytes behind that element, so that a reader that looks beyond the
 * end of the element around finds some there.
 */
public final class FaultsTest {
    private static final int END = 1;
    private static final int TAG = 2;
    private static final int LENGTH = 3;
    private static final int CONTENT = 4;
    private static final int MORE = 5;

    private static final Due DUE = new Due("FaultsTest");

    /** Elements that may be missing or come once more: a wrong tag is none of theirs. */
    private static final List<String> MAY_BE_MISSING = List.of("EXTENSIONS", "EXTENSION 2", "EXTENSION 3", "EXTENSION 9",
        "CRITICAL 1", "CRITICAL 2", "CRITICAL 3", "CRITICAL 9", "AUTHORITY", "REACH", "ALLOWED", "BARRED",
        "ENTRY 1", "ENTRY 2", "ENTRY 3", "ENTRY 4");

    public static void main(String[] args) {
        wholeOnes();
        for (int form = 0; form < 3; form++) {
            for (Node node : make(form).all()) {
                noByteForTheTag(form, node.what);
                wrongTag(form, node.what);
                noByteForTheLength(form, node.what);
                wrongLengthByte(form, node.what);
                noSecondLengthByte(form, node.what);
                wrongSecondLengthByte(form, node.what);
                fewerBytesThanTheLength(form, node.what);
                notWithinTheOneAround(form, node.what);
                wrongContent(form, node.what);
                moreInASequence(form, node.what);
            }
        }
        mayBeMissing();
        wrongTagOfWhatMayBeMissing();
        valueWithoutCritical();
        moreBehindTheOutermost();
        mostEntries();
        oneOrMoreExtensions();
        idsRise();
        reachOnlyBehindAuthority();
        usageOneToSeven();
        atLeastOneOfARealm();
        opaqueOfAnyBytes();
        firstFaultOfAnElement();
        firstFaultFromTheLeft();
        DUE.end();
    }

    /** 0 a certificate with all elements, 1 the same with long lengths, 2 a list of four entries. */
    private static Node make(int form) {
        return form == 2 ? list(4) : certificate(form == 1 ? 90 : 2);
    }

    private static Node integer(String what, long v) {
        return Node.leaf(what, Elements.integer(v));
    }

    private static Node flag(String what) {
        return Node.leaf(what, Elements.flag());
    }

    private static Node name(String what, int tag, String name) {
        return Node.leaf(what, Elements.text(tag, name));
    }

    private static Node extension(int id, Node value) {
        return Node.sequence("EXTENSION " + id, integer("ID " + id, id), flag("CRITICAL " + id), value);
    }

    private static Node certificate(int opaque) {
        Node extensions = Node.sequence("EXTENSIONS",
            extension(1, Node.sequence("BASIC", flag("AUTHORITY"), integer("REACH", 5))),
            extension(2, integer("USAGE", 3)),
            extension(3, Node.sequence("REALM", name("ALLOWED", 128, "c"), name("BARRED", 129, "d"))),
            extension(9, Node.leaf("OPAQUE", Elements.element(4, new byte[opaque]))));
        Node body = Node.sequence("BODY", integer("SERIAL", 1), name("ISSUER", 19, "a"), integer("FROM", 2),
            integer("TO", 3), name("SUBJECT", 19, "b"), integer("MODULUS", 4), integer("EXPONENT", 6), extensions);
        return Node.sequence("WHOLE", body, integer("SIGNATURE", 7));
    }

    private static Node list(int entries) {
        Node rows = Node.sequence("ENTRIES");
        for (int k = 1; k <= entries; k++) {
            rows.add(Node.sequence("ENTRY " + k, integer("SERIAL " + k, 10 + k), integer("DATE " + k, 20 + k)));
        }
        Node body = Node.sequence("BODY", name("ISSUER", 19, "a"), integer("FROM", 2), integer("TO", 3), rows);
        return Node.sequence("WHOLE", body, integer("SIGNATURE", 7));
    }

    private static int fault(int kind, int place) {
        return kind + 16 * place;
    }

    private static void check(String what, boolean certificate, byte[] draft, int want) {
        DUE.isTrue(what + ": the draft fits", draft.length <= 200);
        CertificateVault x = new CertificateVault();
        Elements.fill(x, draft);
        DUE.is(what, x.check(certificate), want);
        DUE.is(what + ", store", x.store(certificate ? 1 : 2), want == 0 ? 0 : -2);
    }

    private static void check(String what, int form, Node node, int kind) {
        check(node.what + ", form " + form + ", " + what, form != 2, node.root().bytes(), fault(kind, node.place()));
    }

    private static void isWhole(String what, int form, Node node) {
        check(node.what + ", form " + form + ", " + what, form != 2, node.root().bytes(), 0);
    }

    private static void wholeOnes() {
        for (int form = 0; form < 3; form++) {
            isWhole("as it is made", form, make(form));
        }
        DUE.isTrue("form 1 has long lengths", (make(1).find("EXTENSIONS").bytes()[1] & 255) == 129);
    }

    /** "1 END: there is no byte left for its tag; its place is where that would be." */
    private static void noByteForTheTag(int form, String what) {
        if (!MAY_BE_MISSING.contains(what)) {
            check("no tag", form, make(form).find(what).become().last(), END);
        }
    }

    /** "2 TAG: its tag is none that may stand there; its place is the tag's" */
    private static void wrongTag(int form, String what) {
        for (int tag = 0; tag < 256 && !MAY_BE_MISSING.contains(what); tag++) {
            Node node = make(form).find(what);
            byte[] bytes = node.bytes();
            bytes[0] = (byte) tag;
            if (tag != node.tag) {
                check("tag " + tag, form, node.become(bytes), TAG);
                check("tag " + tag + " alone", form, node.become(Elements.bytes(tag)).last(), TAG);
            }
        }
    }

    /** "1 END: there is no byte left for its length." */
    private static void noByteForTheLength(int form, String what) {
        Node node = make(form).find(what);
        check("no length", form, node.become(Elements.bytes(node.tag)).last(), END);
    }

    /** "3 LENGTH: that byte is 128 or more than 129." */
    private static void wrongLengthByte(int form, String what) {
        for (int length = 128; length < 256; length++) {
            Node node = make(form).find(what);
            byte[] content = node.content();
            if (length != 129) {
                check("length " + length, form, node.become(Elements.bytes(node.tag, length), content), LENGTH);
                check("length " + length + " at the end", form,
                    node.become(Elements.bytes(node.tag, length)).last(), LENGTH);
            }
        }
    }

    /** "After 129: 1 END: there is no second byte" */
    private static void noSecondLengthByte(int form, String what) {
        Node node = make(form).find(what);
        check("129 at the end", form, node.become(Elements.bytes(node.tag, 129)).last(), END);
    }

    /** "3 LENGTH: it is less than 128." */
    private static void wrongSecondLengthByte(int form, String what) {
        for (int length = 0; length < 128; length++) {
            Node node = make(form).find(what);
            byte[] content = Arrays.copyOf(node.content(), Math.min(node.content().length, 100));
            check("129 " + length, form, node.become(Elements.bytes(node.tag, 129, length), content), LENGTH);
            check("129 " + length + " at the end", form,
                node.become(Elements.bytes(node.tag, 129, length)).last(), LENGTH);
        }
        Node node = make(form).find(what);
        check("129 128 is too long", form, node.become(Elements.bytes(node.tag, 129, 128)).last(), END);
        check("129 255 is too long", form, node.become(Elements.bytes(node.tag, 129, 255)).last(), END);
    }

    /** "1 END: there are fewer bytes left than its length." */
    private static void fewerBytesThanTheLength(int form, String what) {
        Node node = make(form).find(what);
        byte[] bytes = node.bytes();
        check("a byte too few", form, node.become(Arrays.copyOf(bytes, bytes.length - 1)).last(), END);
        check("no byte of one", form, node.become(Elements.bytes(node.tag, 1)).last(), END);
        check("no byte of 127", form, node.become(Elements.bytes(node.tag, 127)).last(), END);
    }

    private static final int[][] NO_INTEGERS = {{}, {128}, {255}, {0, 0}, {0, 127}, {128, 0}, {0, 0, 128}, {255, 255},
        {0, 127, 255, 255, 255, 255, 255, 255}, {128, 0, 0, 0, 0, 0, 0, 0}, {1, 0, 0, 0, 0, 0, 0, 0, 0},
        {0, 128, 0, 0, 0, 0, 0, 0, 0}, {0, 0, 0, 0, 0, 0, 0, 0, 1}};
    private static final int[][] INTEGERS = {{0}, {1}, {127}, {0, 128}, {0, 255}, {1, 0}, {127, 255}, {0, 128, 0},
        {1, 0, 0, 0, 0, 0, 0, 0}, {0, 128, 0, 0, 0, 0, 0, 0}, {127, 255, 255, 255, 255, 255, 255, 255}};
    private static final int[][] NO_FLAGS = {{}, {0}, {1}, {127}, {128}, {254}, {255, 255}, {255, 0}, {0, 255}};
    private static final String[] NO_NAMES = {"", ".", "..", ".a", "a.", "a..b", "a.b.", "abcdefghi", "abcdefg.h", "A", "Z",
        "`", "{", "-", "/", "a-", "a/", "a`", "a{", "a ", "a0", "a\u0000", "\u0000", "\u0001", "\u001a", "\u001b", "a\u00e1",
        "a\u00ae", "\u00ff"};
    private static final String[] NAMES = {"a", "z", "m", "az", "a.z", "a.b.c", "abcdefgh", "a.b.c.de", "zzzzzzzz", "a.zzzzzz",
        "aaaaaa.a"};

    /** "An element must lie within the one around it": that one ends in it, and its rest stands right behind. */
    private static void notWithinTheOneAround(int form, String what) {
        byte[] whole = make(form).find(what).bytes();
        for (int inside = 1; inside < whole.length; inside++) {
            Node node = make(form).find(what).become(Arrays.copyOf(whole, inside)).last();
            behindTheOneAround(node, Arrays.copyOfRange(whole, inside, whole.length));
            check(inside + " bytes inside", form, node, END);
        }
        Node node = make(form).find(what).become().last();
        behindTheOneAround(node, whole);
        if (what.equals("ALLOWED")) {
            check("ALLOWED behind it", form, node.parent(), CONTENT);
        } else if (node.parent() != null) {
            check("behind the one around", form, node, kindOfWhatStandsBehind(what));
        }
    }

    private static void behindTheOneAround(Node node, byte[] rest) {
        if (node.parent() != null) {
            node.parent().before(rest);
        }
    }

    /** What must be there is not, and what may be missing is more than there should be in the one around. */
    private static int kindOfWhatStandsBehind(String what) {
        if (what.equals("EXTENSIONS")) {
            return TAG;
        }
        return MAY_BE_MISSING.contains(what) && !what.startsWith("CRITICAL") ? MORE : END;
    }

    /** "4 CONTENT: the content of an INTEGER, TRUE, NAME, ALLOWED or BARRED isn't as said (nor its number of bytes)" */
    private static void wrongContent(int form, String what) {
        int tag = make(form).find(what).tag;
        if (tag == 2) {
            integerContents(form, what);
        } else if (tag == 1) {
            for (int[] content : NO_FLAGS) {
                check("content " + Arrays.toString(content), form, with(form, what, Elements.bytes(content)), CONTENT);
            }
        } else if (tag == 19 || tag == 128 || tag == 129) {
            for (String name : NO_NAMES) {
                check("content " + name, form, with(form, what, latin(name)), CONTENT);
            }
            for (String name : NAMES) {
                isWhole("content " + name, form, with(form, what, latin(name)));
            }
        }
    }

    private static byte[] latin(String text) {
        return text.getBytes(java.nio.charset.StandardCharsets.ISO_8859_1);
    }

    private static Node with(int form, String what, byte[] content) {
        Node node = make(form).find(what);
        return node.become(Elements.element(node.tag, content));
    }

    private static void integerContents(int form, String what) {
        for (int[] content : NO_INTEGERS) {
            check("content " + Arrays.toString(content), form, with(form, what, Elements.bytes(content)), CONTENT);
        }
        boolean anyNumber = !what.startsWith("ID ") && !what.equals("USAGE");
        for (int[] content : INTEGERS) {
            if (anyNumber) {
                isWhole("content " + Arrays.toString(content), form, with(form, what, Elements.bytes(content)));
            }
        }
    }

    /** "5 MORE: there are bytes behind the last element of a SEQUENCE ...; its place is that of the first of them." */
    private static void moreInASequence(int form, String what) {
        for (int b = 0; b < 256 && make(form).find(what).isSequence(); b++) {
            boolean comesOnceMore = what.equals("EXTENSIONS") && b == 48;
            if (!comesOnceMore) {
                Node more = make(form).find(what).add(Node.sequence("MORE in " + what));
                check("byte " + b, form, more.become(Elements.bytes(b)), MORE);
                check("bytes " + b + " 0 0", form, more.become(Elements.bytes(b, 0, 0)), MORE);
            }
        }
    }

    /** "(X) is an element that may be missing" */
    private static void mayBeMissing() {
        for (String what : MAY_BE_MISSING) {
            int form = what.startsWith("ENTRY") ? 2 : 0;
            Node node = make(form).find(what).become();
            if (what.equals("AUTHORITY")) {
                node.last();
            }
            isWhole("missing", form, node);
        }
    }

    /** "it is there when the next tag is its own", and "is looked for by its tag alone". */
    private static void wrongTagOfWhatMayBeMissing() {
        for (int tag = 0; tag < 256; tag++) {
            for (String what : MAY_BE_MISSING) {
                int form = what.startsWith("ENTRY") ? 2 : 0;
                Node node = make(form).find(what);
                int valueTag = what.equals("CRITICAL 2") ? 2 : what.equals("CRITICAL 9") ? 4 : 48;
                boolean value = what.startsWith("CRITICAL") && tag == valueTag;
                boolean barred = what.equals("ALLOWED") && tag == 129;
                if (tag != node.tag && !value && !barred) {
                    byte[] bytes = node.bytes();
                    bytes[0] = (byte) tag;
                    check("tag " + tag, form, node.become(bytes), what.startsWith("CRITICAL") ? TAG : MORE);
                }
            }
        }
    }

    /** Without the TRUE its value is looked at, and that one must be there. */
    private static void valueWithoutCritical() {
        String[] values = {"BASIC", "USAGE", "REALM", "OPAQUE"};
        int[] ids = {1, 2, 3, 9};
        for (int k = 0; k < ids.length; k++) {
            Node root = certificate(2);
            root.find("CRITICAL " + ids[k]).become();
            Node value = root.find(values[k]);
            byte[] bytes = value.bytes();
            for (int tag = 0; tag < 256; tag++) {
                if (tag != value.tag && tag != 1) {
                    bytes[0] = (byte) tag;
                    check("not critical, tag " + tag, 0, value.become(bytes), TAG);
                }
            }
            check("not critical, no tag", 0, value.become().last(), END);
        }
    }

    /** "or, at last, behind the outermost one in the draft" */
    private static void moreBehindTheOutermost() {
        for (int form = 0; form < 3; form++) {
            byte[] whole = make(form).bytes();
            for (int b = 0; b < 256; b++) {
                check("byte " + b + " behind form " + form, form != 2, Elements.join(whole, Elements.bytes(b)),
                    fault(MORE, whole.length));
            }
            byte[] full = Arrays.copyOf(whole, 200);
            check("200 bytes of form " + form, form != 2, full, fault(MORE, whole.length));
            check("twice form " + form, form != 2, Arrays.copyOf(Elements.join(whole, whole), Math.min(200, 2 * whole.length)),
                fault(MORE, whole.length));
        }
        Node node = make(0).find("SIGNATURE");
        byte[] more = Elements.join(node.become(Elements.element(2)).root().bytes(), Elements.bytes(1));
        check("a wrong signature before a byte behind the outermost", true, more, fault(CONTENT, node.place()));
    }

    /** "SEQUENCE of 0 .. 4 times", and "the SEQUENCEs in a LIST up to the fourth". */
    private static void mostEntries() {
        for (int entries = 0; entries <= 4; entries++) {
            isWhole(entries + " entries", 2, list(entries));
        }
        for (int entries = 5; entries <= 8; entries++) {
            Node list = list(entries);
            check(entries + " entries", 2, list.find("ENTRY 5"), MORE);
        }
        Node fifth = list(5).find("ENTRY 5");
        check("a fifth that is no entry", 2, fifth.become(Elements.bytes(48)), MORE);
    }

    private static Node other(long id) {
        return Node.sequence("EXTENSION " + id, integer("ID " + id, id), Node.leaf("OPAQUE " + id, Elements.element(4)));
    }

    private static Node withExtensions(Node... extensions) {
        Node root = certificate(0);
        root.find("EXTENSIONS").become(Node.sequence("OTHERS", extensions).bytes());
        return root;
    }

    /** "EXTENSIONS: SEQUENCE of one or more EXTENSION" */
    private static void oneOrMoreExtensions() {
        Node none = certificate(0);
        Node first = none.find("EXTENSION 1").become().last();
        check("no EXTENSION", 0, first, END);
        for (int count = 1; count <= 22; count++) {
            Node[] others = new Node[count];
            for (int k = 0; k < count; k++) {
                others[k] = other(10 + k);
            }
            CertificateVault x = new CertificateVault();
            Elements.fill(x, withExtensions(others).bytes());
            DUE.is(count + " EXTENSIONs", x.check(true), 0);
            DUE.is("store", x.store(1), 0);
            DUE.is("how many", x.certificate(0, 13), count);
        }
    }

    private static void ids(long before, long id, boolean rises) {
        Node root = withExtensions();
        Node row = Node.sequence("ROW", other(before), Node.sequence("SECOND", integer("LAST ID", id),
            Node.leaf("OPAQUE", Elements.element(4))));
        byte[] draft = root.find("EXTENSIONS").become(row.bytes()).root().bytes();
        int place = root.find("EXTENSIONS").place() + row.find("LAST ID").place();
        check("ids " + before + " " + id, true, draft, rises ? 0 : fault(CONTENT, place));
    }

    /** "their ids rise": "an id is not greater than the one before" */
    private static void idsRise() {
        for (long id : new long[] {4, 5, 127, 128, 255, 256, 65535, 1L << 31, 1L << 32, Long.MAX_VALUE - 1}) {
            ids(id, id + 1, true);
            ids(id, id, false);
            ids(id + 1, id, false);
            ids(0, id, true);
            ids(id, 0, false);
            ids(id, Long.MAX_VALUE, true);
            ids(Long.MAX_VALUE, id, false);
        }
        ids(0, 0, false);
        ids(Long.MAX_VALUE, Long.MAX_VALUE, false);
        ids(1L << 32 | 9, 8, false);
        ids(8, 1L << 32 | 4, true);
        isWhole("a first id of 0", 0, withExtensions(other(0)));
        Node root = certificate(0);
        Node third = root.find("ID 3").become(Elements.integer(2));
        check("3 is 2, as the one before", 0, third, CONTENT);
        Node second = certificate(0).find("ID 2").become(Elements.integer(1));
        check("2 is 1, as the one before", 0, second, CONTENT);
        Node ninth = certificate(0).find("ID 9").become(Elements.integer(3));
        check("9 is 3, as the one before", 0, ninth, CONTENT);
    }

    /** "only if that is there, (INTEGER: the REACH)" */
    private static void reachOnlyBehindAuthority() {
        Node root = certificate(0);
        root.find("AUTHORITY").become();
        check("without AUTHORITY", 0, root.find("REACH"), MORE);
        isWhole("AUTHORITY without it", 0, certificate(0).find("REACH").become());
        isWhole("neither", 0, certificate(0).find("AUTHORITY").become().last());
        isWhole("the greatest", 0, certificate(0).find("REACH").become(Elements.integer(Long.MAX_VALUE)));
    }

    /** "USAGE: INTEGER 1 .. 7", and "a USAGE is not 1 .. 7" */
    private static void usageOneToSeven() {
        for (long usage = 0; usage < 300; usage++) {
            Node node = certificate(0).find("USAGE").become(Elements.integer(usage));
            if (usage >= 1 && usage <= 7) {
                isWhole("is " + usage, 0, node);
            } else {
                check("is " + usage, 0, node, CONTENT);
            }
        }
        for (long usage : new long[] {1L << 32 | 1, 1L << 31, 1L << 32 | 7, Long.MAX_VALUE}) {
            check("is " + usage, 0, certificate(0).find("USAGE").become(Elements.integer(usage)), CONTENT);
        }
    }

    /** "SEQUENCE of (ALLOWED) and (BARRED), at least one of them", and "a REALM's SEQUENCE has no bytes" */
    private static void atLeastOneOfARealm() {
        check("neither", 0, certificate(0).find("REALM").become(Elements.sequence()), CONTENT);
        isWhole("ALLOWED alone", 0, certificate(0).find("BARRED").become());
        isWhole("BARRED alone", 0, certificate(0).find("ALLOWED").become());
        Node turned = certificate(0).find("REALM");
        turned.find("ALLOWED").become(Elements.text(129, "d"));
        check("BARRED before ALLOWED", 0, turned.find("BARRED").become(Elements.text(128, "c")), MORE);
        Node none = certificate(0).find("ALLOWED").become(Elements.name("a"));
        check("a NAME", 0, none, MORE);
    }

    /** "OPAQUE, tag 4: any bytes", and "any other id: OPAQUE" */
    private static void opaqueOfAnyBytes() {
        for (int length = 0; length <= 100; length++) {
            isWhole(length + " bytes", 0, certificate(length));
        }
        for (int b = 0; b < 256; b++) {
            isWhole("byte " + b, 0, certificate(0).find("OPAQUE").become(Elements.element(4, Elements.bytes(b, b))));
        }
        for (int length = 110; length <= 146; length++) {
            Node slim = certificate(0);
            byte[] value = Elements.element(4, new byte[length]);
            slim.find("EXTENSIONS").become(Elements.sequence(Elements.sequence(Elements.integer(0), value)));
            isWhole(length + " bytes of a slim one", 0, slim);
        }
        for (long id : new long[] {0, 4, 5, 10, 255, 256, 257, 258, 259, 1L << 32 | 1, 1L << 32 | 2, 1L << 32 | 3,
                Long.MAX_VALUE}) {
            isWhole("id " + id, 0, withExtensions(other(id)));
        }
    }

    private static void cut(String what, int kind, int place, int... draft) {
        check(what, true, Elements.bytes(draft), fault(kind, place));
    }

    /** "Of an element is looked at in this order" */
    private static void firstFaultOfAnElement() {
        cut("TAG before the END of its length", TAG, 0, 49);
        cut("TAG before LENGTH", TAG, 0, 49, 128);
        cut("TAG before the END of its content", TAG, 0, 49, 9);
        cut("LENGTH before the END of its content", LENGTH, 0, 48, 130);
        cut("LENGTH of the second byte before the END of its content", LENGTH, 0, 48, 129, 127);
        cut("END of its content before what is in it", END, 0, 48, 4, 49, 0);
        cut("END of its content before the END of an element in it", END, 0, 48, 3, 48, 5);
        for (int form = 0; form < 3; form++) {
            for (Node node : make(form).all()) {
                boolean fixed = !MAY_BE_MISSING.contains(node.what);
                if (fixed) {
                    check("TAG before LENGTH", form, make(form).find(node.what).become(Elements.bytes(0, 128)).last(), TAG);
                    check("TAG before END", form, make(form).find(node.what).become(Elements.bytes(0, 9)).last(), TAG);
                }
                byte[] nine = Elements.bytes(node.tag, 9, 0, 0, 0, 0, 0, 0, 0, 0);
                check("END before CONTENT", form, make(form).find(node.what).become(nine).last(), END);
            }
        }
    }

    /** "goes from left to right and ends with the first FAULT" */
    private static void firstFaultFromTheLeft() {
        for (int form = 0; form < 3; form++) {
            for (Node first : make(form).all()) {
                for (Node second : make(form).all()) {
                    Node root = make(form);
                    Node left = root.find(first.what);
                    Node right = root.find(second.what);
                    if (left.place() < right.place() && left.find(second.what) == null) {
                        left.become(Elements.bytes(left.tag, 255));
                        right.become(Elements.bytes(right.tag, 129, 5));
                        check("before that of " + second.what, form, left, LENGTH);
                    }
                }
            }
        }
    }
}
