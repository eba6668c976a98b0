/** Terms, NAMES: as longs that set takes, as bytes that check reads, and WITHIN. */
public final class NamesTest {
    private static final Due DUE = new Due("NamesTest");
    private static final int DOT = 27;
    private static final int[] FIELDS = {1, 4, 9, 10};
    private static final int[] TAGS = {19, 19, 19, 128, 129};

    public static void main(String[] args) {
        oneToEightCharacters();
        lettersAndDots();
        noDotFirstLastOrBehindADot();
        fiveBitsForEachCharacter();
        noOtherBitsSet();
        bytesOfNames();
        withinItself();
        withinBehindADot();
        notWithin();
        DUE.end();
    }

    private static void taken(long v, boolean want) {
        CertificateVault x = new CertificateVault();
        for (int field : FIELDS) {
            DUE.is("set(" + field + ", " + v + ")", x.set(field, v), want);
        }
    }

    private static void taken(String name, boolean want) {
        taken(Elements.nameValue(name), want);
        for (int place = 0; place < 5; place++) {
            read(Elements.text(TAGS[place], name), place, want);
        }
    }

    /** Reads a name as 0 an issuer, 1 a subject, 2 the issuer of a list, 3 ALLOWED, 4 BARRED. */
    private static void read(byte[] name, int place, boolean want) {
        byte[] one = Elements.integer(1);
        byte[] a = Elements.name("a");
        byte[] realm = Elements.sequence(Elements.sequence(Elements.integer(3), Elements.sequence(place > 2 ? name : a)));
        byte[] body = switch (place) {
            case 0 -> Elements.sequence(one, name, one, one, a, one, one);
            case 1 -> Elements.sequence(one, a, one, one, name, one, one);
            case 2 -> Elements.sequence(name, one, one, Elements.sequence());
            default -> Elements.sequence(one, a, one, one, a, one, one, realm);
        };
        int[] places = {7, 16, 4, 34, 34};
        CertificateVault x = new CertificateVault();
        Elements.fill(x, Elements.sequence(body, one));
        int due = want ? 0 : 4 + 16 * places[place];
        DUE.is("check of " + new String(name, java.nio.charset.StandardCharsets.ISO_8859_1) + " at place " + place,
            x.check(place != 2), due);
    }

    private static String letters(int count) {
        return "abcdefghijklmnopqrstuvwxyz".substring(0, count);
    }

    /** "NAMES have 1 to 8 characters" */
    private static void oneToEightCharacters() {
        for (int count = 1; count <= 8; count++) {
            taken(letters(count), true);
        }
        for (int count = 9; count <= 12; count++) {
            taken(letters(count), false);
        }
        for (int place = 0; place < 5; place++) {
            read(Elements.element(TAGS[place]), place, false);
        }
        CertificateVault x = new CertificateVault();
        DUE.is("no name as the issuer", x.set(1, 0), false);
        DUE.is("no name as the subject", x.set(4, 0), false);
        DUE.is("no name as ALLOWED", x.set(9, 0), true);
        DUE.is("no name as BARRED", x.set(10, 0), true);
    }

    /** "letters a .. z and dots": of the 32 characters that five bits can be, at each place of a name. */
    private static void lettersAndDots() {
        for (int count = 1; count <= 8; count++) {
            long name = Elements.nameValue(letters(count));
            for (int k = 0; k < count; k++) {
                for (int character = 1; character < 32; character++) {
                    long v = name & ~(31L << 5 * k) | (long) character << 5 * k;
                    boolean inside = k > 0 && k < count - 1;
                    taken(v, character < DOT || character == DOT && inside);
                }
            }
        }
        for (int count = 2; count <= 8; count++) {
            for (int k = 0; k < count - 1; k++) {
                taken(Elements.nameValue(letters(count)) & ~(31L << 5 * k), false);
            }
        }
    }

    /** "no dot first, last, or behind a dot" */
    private static void noDotFirstLastOrBehindADot() {
        for (int count = 1; count <= 8; count++) {
            for (int dots = 1; dots < 1 << count; dots++) {
                StringBuilder name = new StringBuilder(letters(count));
                for (int k = 0; k < count; k++) {
                    if ((dots >> k & 1) == 1) {
                        name.setCharAt(k, '.');
                    }
                }
                boolean first = (dots & 1) == 1;
                boolean last = (dots >> count - 1 & 1) == 1;
                boolean behindADot = (dots & dots >> 1) != 0;
                taken(name.toString(), !first && !last && !behindADot);
            }
        }
    }

    /** "five bits for each character, 1 .. 26 for a .. z and 27 for a dot, the first in the lowest bits" */
    private static void fiveBitsForEachCharacter() {
        for (int letter = 1; letter <= 26; letter++) {
            CertificateVault x = new CertificateVault();
            long v = letter | DOT << 5 | letter << 10;
            DUE.is("set(1, " + v + ")", x.set(1, v), true);
            x.compose();
            DUE.is("the first character", x.at(9), 'a' + letter - 1);
            DUE.is("the dot", x.at(10), '.');
            DUE.is("the last character", x.at(11), 'a' + letter - 1);
            x.store(1);
            DUE.is("the issuer", x.certificate(0, 1), v);
        }
        CertificateVault x = new CertificateVault();
        x.set(4, 1 | 2 << 5 | 3 << 10);
        x.compose();
        x.store(1);
        DUE.is("abc", x.certificate(0, 4), 1 + 2 * 32 + 3 * 1024);
        x.set(4, Elements.nameValue("zzzzzzzz"));
        x.compose();
        x.store(1);
        DUE.is("zzzzzzzz", x.certificate(1, 4), 26 * ((1L << 40) - 1) / 31);
    }

    /** "and no other bits set" */
    private static void noOtherBitsSet() {
        for (int bit = 40; bit < 64; bit++) {
            taken(Elements.nameValue("abcdefgh") | 1L << bit, false);
            taken(Elements.nameValue("a") | 1L << bit, false);
            taken(1L << bit, false);
        }
        for (int bit = 10; bit < 40; bit++) {
            taken(Elements.nameValue("a") | 1L << bit, false);
        }
        taken(-1, false);
        taken(Long.MIN_VALUE, false);
        taken(Long.MAX_VALUE, false);
    }

    /** "NAME, tag 19: its characters as ASCII codes": of the 256 bytes, at each place of a name. */
    private static void bytesOfNames() {
        for (int place = 0; place < 5; place++) {
            for (int b = 0; b < 256; b++) {
                boolean letter = b >= 'a' && b <= 'z';
                read(Elements.element(TAGS[place], Elements.bytes(b)), place, letter);
                read(Elements.element(TAGS[place], Elements.bytes(b, 'a')), place, letter);
                read(Elements.element(TAGS[place], Elements.bytes('a', b)), place, letter);
                read(Elements.element(TAGS[place], Elements.bytes('a', b, 'a')), place, letter || b == '.');
                read(Elements.element(TAGS[place], Elements.bytes('a', 'a', 'a', 'a', 'a', 'a', 'a', b)), place, letter);
                read(Elements.element(TAGS[place], Elements.bytes('a', 'a', 'a', 'a', 'a', 'a', 'a', 'a', b)), place, false);
            }
        }
    }

    /** Whether the search finds a name within another: both as ALLOWED and as BARRED of the middle. */
    private static void within(String name, String outer, boolean want) {
        DUE.is(name + " allowed by " + outer, realm(9, outer, name), want ? 3 : -15);
        DUE.is(name + " barred by " + outer, realm(10, outer, name), want ? -15 : 3);
    }

    private static int realm(int field, String outer, String subject) {
        CertificateVault x = new CertificateVault();
        x.set(6, 1);
        x.compose();
        x.store(0);
        x.set(4, Elements.nameValue("m"));
        x.set(field, Elements.nameValue(outer));
        x.compose();
        x.store(1);
        x.set(field, 0);
        x.set(1, Elements.nameValue("m"));
        x.set(4, Elements.nameValue(subject));
        x.compose();
        x.store(1);
        return x.validate(2, 5, 3, false);
    }

    /** "A name is WITHIN a name c when it is c" */
    private static void withinItself() {
        for (int count = 1; count <= 8; count++) {
            within(letters(count), letters(count), true);
        }
        within("a.b", "a.b", true);
        within("a.b.c.de", "a.b.c.de", true);
    }

    /** "or ends with a dot and c" */
    private static void withinBehindADot() {
        String name = "a.b.c.de";
        for (int k = 0; k < name.length(); k++) {
            String ending = name.substring(k);
            if (ending.charAt(0) != '.') {
                within(name, ending, k == 0 || name.charAt(k - 1) == '.');
            }
        }
        within("a.bcdefg", "bcdefg", true);
        within("abcdef.g", "g", true);
        within("z.z", "z", true);
        within("z.z.z.z", "z.z", true);
    }

    private static void notWithin() {
        within("ab", "b", false);
        within("abcdefgh", "h", false);
        within("abcdefgh", "bcdefgh", false);
        within("b", "a.b", false);
        within("b", "ab", false);
        within("a", "b", false);
        within("a.b", "a", false);
        within("a.b.c", "a.b", false);
        within("a.b.c", "b", false);
        within("a.bc", "c", false);
        within("a.bc", "b", false);
        within("a.b", "b.b", false);
        within("x.ab.c", "b.c", false);
        within("bcdefgh", "abcdefgh", false);
        within("abcdefgh", "abcdefg", false);
    }
}
