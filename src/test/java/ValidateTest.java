/** Promises 15 to 17: validate, chain, candidates. */
public final class ValidateTest extends Maker {
    private static final Due DUE = new Due("ValidateTest");

    public static void main(String[] args) {
        refusals();
        lonelyAnchor();
        noCandidate();
        signatures();
        times();
        revoked();
        whichListCounts();
        whichListIsTaken();
        listIssuersUsage();
        realms();
        realmsOfTheMiddle();
        strangeExtensions();
        authorities();
        reaches();
        notCritical();
        usages();
        firstReason();
        searchOrder();
        anchorsEndAPart();
        circles();
        ownIssuer();
        depths();
        fortyCandidates();
        refusedValidateChangesNothing();
        storedLaterCounts();
        readButNotStored();
        DUE.end();
    }

    private static void is(String what, CertificateVault x, int got, int want, int... chain) {
        DUE.is(what, got, want);
        for (int k = 0; k < chain.length; k++) {
            DUE.is(what + ", chain(" + k + ")", x.chain(k), chain[k]);
        }
        DUE.is(what + ", chain(" + chain.length + ")", x.chain(chain.length), -1);
        DUE.is(what + ", chain(-1)", x.chain(-1), -1);
        DUE.is(what + ", chain(MAX)", x.chain(Integer.MAX_VALUE), -1);
        DUE.is(what + ", chain(MIN)", x.chain(Integer.MIN_VALUE), -1);
    }

    /** An anchor r with key 0, an authority m with key 1, a target t with key 2. */
    private static CertificateVault three(long[] anchor, long[] middle, long[] target) {
        CertificateVault x = new CertificateVault();
        make(x, 0, "r>r", 0, 0, anchor);
        make(x, 1, "r>m", 1, 0, middle);
        make(x, 1, "m>t", 2, 1, target);
        return x;
    }

    private static final long[] PLAIN = {};
    private static final long[] AUTHORITY = {BASIC, 1};

    /** "NONE (refused) when there is no such certificate, time is less than 0, or depth not 1 .. 5." */
    private static void refusals() {
        CertificateVault x = three(PLAIN, AUTHORITY, PLAIN);
        DUE.is("target -1", x.validate(-1, 5, 3, false), -1);
        DUE.is("target 3", x.validate(3, 5, 3, false), -1);
        DUE.is("target MIN", x.validate(Integer.MIN_VALUE, 5, 3, false), -1);
        DUE.is("target MAX", x.validate(Integer.MAX_VALUE, 5, 3, false), -1);
        DUE.is("time -1", x.validate(2, -1, 3, false), -1);
        DUE.is("time MIN", x.validate(2, Long.MIN_VALUE, 3, false), -1);
        DUE.is("depth 0", x.validate(2, 5, 0, false), -1);
        DUE.is("depth -1", x.validate(2, 5, -1, false), -1);
        DUE.is("depth 6", x.validate(2, 5, 6, false), -1);
        DUE.is("depth MAX", x.validate(2, 5, Integer.MAX_VALUE, false), -1);
        DUE.is("candidates() after refusals alone", x.candidates(), 0);
        is("a right call", x, x.validate(2, 5, 3, false), 3, 0, 1, 2);
        DUE.is("candidates()", x.candidates(), 1);
    }

    /** "A CANDIDATE of one certificate holds." */
    private static void lonelyAnchor() {
        CertificateVault x = new CertificateVault();
        make(x, 0, "q>r", 0, 3, TO, 10, FROM, 5, STRANGE, 2, USAGE, 4);
        for (int depth = 1; depth <= 5; depth++) {
            is("an anchor as the target", x, x.validate(0, 99, depth, true), 1, 0);
            DUE.is("its candidates()", x.candidates(), 1);
        }
    }

    /** "0 when there was no candidate" */
    private static void noCandidate() {
        CertificateVault x = new CertificateVault();
        make(x, 0, "r>r", 0, 0);
        make(x, 1, "q>t", 1, 0);
        make(x, 1, "t>t", 1, 1);
        is("an issuer that is not there", x, x.validate(1, 5, 5, false), 0);
        is("a self-issued one", x, x.validate(2, 5, 5, false), 0);
        DUE.is("candidates()", x.candidates(), 0);
    }

    /** "1 its signature isn't good for its issuer's modulus and exponent and the hash of its body" */
    private static void signatures() {
        CertificateVault x = new CertificateVault();
        make(x, 0, "r>r", 0, 0);
        for (int key = 0; key < 6; key++) {
            int c = make(x, 1, "r>t", 1, key);
            is("signed with " + key, x, x.validate(c, 5, 2, false), key == 0 ? 2 : -11, key == 0 ? new int[] {0, c} : new int[0]);
        }
        make(x, 1, "r>t", 1, 0);
        byte[] draft = Elements.draft(x);
        draft[6] ^= 1;
        Elements.fill(x, draft);
        int changed = x.store(1);
        is("a byte of the body changed", x, x.validate(changed, 5, 2, false), -11);
        byte[] body = Elements.body(9, "r", "t", 1);
        long s = Elements.signature(0, Elements.hash(body));
        Elements.fill(x, Elements.sequence(body, Elements.integer(s + Elements.MODULI[0])));
        int tooGreat = x.store(1);
        is("a signature not below the modulus", x, x.validate(tooGreat, 5, 2, false), -11);
    }

    /** "2 the time is not FROM .. TO" */
    private static void times() {
        CertificateVault x = three(pairs(FROM, 40, TO, 41), pairs(BASIC, 1, FROM, 10, TO, 20), pairs(FROM, 12, TO, 15));
        is("before the middle's FROM", x, x.validate(2, 9, 3, false), -12);
        is("before the target's FROM", x, x.validate(2, 11, 3, false), -12);
        is("at FROM", x, x.validate(2, 12, 3, false), 3, 0, 1, 2);
        is("at TO", x, x.validate(2, 15, 3, false), 3, 0, 1, 2);
        is("after the target's TO", x, x.validate(2, 16, 3, false), -12);
        is("time 0", x, x.validate(2, 0, 3, false), -12);
        is("time MAX", x, x.validate(2, Long.MAX_VALUE, 3, false), -12);
        CertificateVault y = three(PLAIN, pairs(BASIC, 1, FROM, 0, TO, Long.MAX_VALUE), pairs(FROM, 0, TO, Long.MAX_VALUE));
        is("time 0 from 0", y, y.validate(2, 0, 3, false), 3, 0, 1, 2);
        is("time MAX to MAX", y, y.validate(2, Long.MAX_VALUE, 3, false), 3, 0, 1, 2);
        CertificateVault z = three(PLAIN, AUTHORITY, pairs(FROM, 9, TO, 8));
        is("FROM after TO", z, z.validate(2, 8, 3, false), -12);
    }

    /** "3 it is REVOKED; 4 (only if asked strictly) it is UNKNOWN whether it is" */
    private static void revoked() {
        CertificateVault x = three(PLAIN, pairs(BASIC, 1, SERIAL, 7), pairs(SERIAL, 9));
        makeList(x, "m", 1, 0, 1000, 8, 0, 7, 0, 9, 60, 9, 50);
        is("before the date", x, x.validate(2, 49, 3, false), 3, 0, 1, 2);
        is("at the date", x, x.validate(2, 50, 3, false), -13);
        is("after the date", x, x.validate(2, 60, 3, false), -13);
        is("unknown for the middle", x, x.validate(2, 49, 3, true), -14);
        makeList(x, "r", 0, 0, 1000);
        is("all known", x, x.validate(2, 49, 3, true), 3, 0, 1, 2);
        is("revoked, strictly", x, x.validate(2, 50, 3, true), -13);
        is("the middle as a target", x, x.validate(1, 50, 3, true), 2, 0, 1);
    }

    private static void whichListCounts() {
        CertificateVault x = three(PLAIN, AUTHORITY, pairs(SERIAL, 9));
        makeList(x, "r", 0, 0, 1000);
        makeList(x, "r", 1, 0, 1000, 9, 0);
        is("a list of another issuer", x, x.validate(2, 50, 3, true), -14);
        makeList(x, "m", 2, 0, 1000, 9, 0);
        is("a list with a wrong signature", x, x.validate(2, 50, 3, true), -14);
        is("a list with a wrong signature, not strictly", x, x.validate(2, 50, 3, false), 3, 0, 1, 2);
        makeList(x, "m", 1, 40, 60);
        is("before its FROM", x, x.validate(2, 39, 3, true), -14);
        is("at its FROM", x, x.validate(2, 40, 3, true), 3, 0, 1, 2);
        is("at its TO", x, x.validate(2, 60, 3, true), 3, 0, 1, 2);
        is("after its TO", x, x.validate(2, 61, 3, true), -14);
    }

    private static void whichListIsTaken() {
        CertificateVault x = three(PLAIN, AUTHORITY, pairs(SERIAL, 9));
        makeList(x, "m", 1, 10, 1000, 9, 0);
        is("the only one", x, x.validate(2, 50, 3, false), -13);
        makeList(x, "m", 1, 20, 1000);
        is("one with a greater FROM", x, x.validate(2, 50, 3, false), 3, 0, 1, 2);
        is("one with a greater FROM does not count yet", x, x.validate(2, 19, 3, false), -13);
        makeList(x, "m", 1, 20, 1000, 9, 0);
        is("one with an equal FROM, stored later", x, x.validate(2, 50, 3, false), 3, 0, 1, 2);
        makeList(x, "m", 1, 15, 1000, 9, 0);
        is("one with a lesser FROM, stored later", x, x.validate(2, 50, 3, false), 3, 0, 1, 2);
        makeList(x, "m", 0, 30, 1000, 9, 0);
        is("one with a wrong signature", x, x.validate(2, 50, 3, false), 3, 0, 1, 2);
        makeList(x, "m", 1, 30, 1000, 9, 51);
        is("one more with a greater FROM, its date not yet", x, x.validate(2, 50, 3, false), 3, 0, 1, 2);
        is("and its date", x, x.validate(2, 51, 3, false), -13);
    }

    private static void listIssuersUsage() {
        for (int usage = 1; usage <= 7; usage++) {
            CertificateVault x = new CertificateVault();
            make(x, 0, "r>r", 0, 0, USAGE, usage);
            make(x, 1, "r>t", 1, 0, SERIAL, 9);
            makeList(x, "r", 0, 0, 1000, 9, 5);
            boolean lists = usage == 2 || usage == 3 || usage == 6 || usage == 7;
            DUE.is("revoked by an anchor of usage " + usage, x.validate(1, 5, 2, true), lists ? -13 : -14);
            DUE.is("not yet revoked", x.validate(1, 4, 2, true), lists ? 2 : -14);
            DUE.is("not strictly", x.validate(1, 5, 2, false), lists ? -13 : 2);
        }
    }

    private static int realm(long[] middle, String subject) {
        CertificateVault x = new CertificateVault();
        make(x, 0, "r>r", 0, 0, ALLOWED, name("none"), BARRED, name(subject));
        make(x, 1, "r>m", 1, 0, middle);
        make(x, 1, "m>" + subject, 2, 1, ALLOWED, name("none"), BARRED, name(subject));
        return x.validate(2, 5, 3, false);
    }

    /** "5 its subject is not within the ALLOWED, or is within the BARRED, of the REALM of a certificate between" */
    private static void realms() {
        long[] allowed = {BASIC, 1, ALLOWED, name("b.c")};
        DUE.is("the realms of anchor and target alone", realm(AUTHORITY, "t"), 3);
        DUE.is("allowed itself", realm(allowed, "b.c"), 3);
        DUE.is("allowed within", realm(allowed, "a.b.c"), 3);
        DUE.is("allowed deep within", realm(allowed, "x.a.b.c"), 3);
        DUE.is("not within, for want of a dot", realm(allowed, "ab.c"), -15);
        DUE.is("not within, the outer one", realm(allowed, "c"), -15);
        DUE.is("not within, it begins with it", realm(allowed, "b.c.a"), -15);
        DUE.is("not within, another", realm(allowed, "a.b.d"), -15);
        long[] barred = {BASIC, 1, BARRED, name("b.c")};
        DUE.is("barred itself", realm(barred, "b.c"), -15);
        DUE.is("barred within", realm(barred, "a.b.c"), -15);
        DUE.is("not barred, for want of a dot", realm(barred, "ab.c"), 3);
        DUE.is("not barred, the outer one", realm(barred, "c"), 3);
        DUE.is("not barred, another", realm(barred, "d"), 3);
        DUE.is("barred by one letter", realm(pairs(BASIC, 1, BARRED, name("a")), "b.a"), -15);
        DUE.is("allowed by one letter", realm(pairs(BASIC, 1, ALLOWED, name("a")), "b.c"), -15);
        long[] both = {BASIC, 1, ALLOWED, name("c"), BARRED, name("b.c")};
        DUE.is("allowed and not barred", realm(both, "a.c"), 3);
        DUE.is("allowed and barred", realm(both, "a.b.c"), -15);
        DUE.is("neither allowed nor barred", realm(both, "a.d"), -15);
        long[] longest = {BASIC, 1, ALLOWED, name("cdefgh")};
        DUE.is("the longest within", realm(longest, "a.cdefgh"), 3);
        DUE.is("eight letters not within", realm(longest, "abcdefgh"), -15);
        DUE.is("all eight", realm(pairs(BASIC, 1, ALLOWED, name("abcdefgh")), "abcdefgh"), 3);
    }

    /** "(not of the anchor's, not of its own)" */
    private static void realmsOfTheMiddle() {
        CertificateVault x = new CertificateVault();
        make(x, 0, "r>r", 0, 0);
        make(x, 1, "r>m.c", 1, 0, BASIC, 1, ALLOWED, name("c"));
        make(x, 1, "m.c>n.d", 2, 1, BASIC, 1);
        make(x, 1, "n.d>t.c", 3, 2);
        make(x, 1, "m.c>o.c", 2, 1, BASIC, 1, BARRED, name("t.c"));
        make(x, 1, "o.c>t.c", 3, 2);
        make(x, 1, "o.c>u.c", 3, 2);
        is("a middle outside of a realm", x, x.validate(3, 5, 4, false), -15);
        is("barred by the second", x, x.validate(5, 5, 4, false), -15);
        is("within all", x, x.validate(6, 5, 4, false), 4, 0, 1, 4, 6);
    }

    private static byte[] extension(long id, boolean critical) {
        byte[] flag = critical ? Elements.flag() : new byte[0];
        return Elements.sequence(Elements.integer(id), flag, Elements.element(4));
    }

    /** "6 it has a critical extension with another id than 1, 2, 3" */
    private static void strangeExtensions() {
        CertificateVault x = three(pairs(STRANGE, 2), pairs(BASIC, 1, STRANGE, 1), pairs(STRANGE, 1));
        is("a critical one of the anchor alone", x, x.validate(2, 5, 3, false), 3, 0, 1, 2);
        CertificateVault y = three(PLAIN, pairs(BASIC, 1, STRANGE, 2), PLAIN);
        is("a critical one of the middle", y, y.validate(2, 5, 3, false), -16);
        CertificateVault z = three(PLAIN, AUTHORITY, pairs(STRANGE, 2));
        is("a critical one of the target", z, z.validate(2, 5, 3, false), -16);
        byte[][][] rows = {{extension(0, true)}, {extension(4, true), extension(5, false)},
            {extension(4, false), extension(5, true)}, {extension(0, false), extension(Long.MAX_VALUE, true)},
            {extension(0, false), extension((1L << 32) + 1, false)},
            {extension((1L << 32) + 1, true)}, {extension((1L << 32) + 2, true)}, {extension((1L << 32) + 3, true)}};
        int[] due = {-16, -16, -16, -16, 2, -16, -16, -16};
        for (int k = 0; k < rows.length; k++) {
            CertificateVault v = new CertificateVault();
            make(v, 0, "r>r", 0, 0);
            Elements.fill(v, Elements.signed(0, Elements.body(1, "r", "t", 1, rows[k])));
            DUE.is("store", v.store(1), 1);
            DUE.is("row " + k, v.validate(1, 5, 2, false), due[k]);
        }
    }

    /** "7 it has no BASIC, or is no authority" */
    private static void authorities() {
        CertificateVault x = three(PLAIN, PLAIN, PLAIN);
        is("without a BASIC", x, x.validate(2, 5, 3, false), -17);
        is("a target without a BASIC", x, x.validate(1, 5, 3, false), 2, 0, 1);
        CertificateVault y = three(PLAIN, pairs(BASIC, 0), PLAIN);
        is("no authority", y, y.validate(2, 5, 3, false), -17);
        CertificateVault z = three(pairs(BASIC, 0), AUTHORITY, pairs(BASIC, 0));
        is("anchor and target no authority", z, z.validate(2, 5, 3, false), 3, 0, 1, 2);
    }

    private static int reach(int first, int second, int third) {
        CertificateVault x = new CertificateVault();
        make(x, 0, "r>r", 0, 0, BASIC, 1, REACH, 0);
        make(x, 1, "r>m", 1, 0, BASIC, 1, REACH, first);
        make(x, 1, "m>n", 2, 1, BASIC, 1, REACH, second);
        make(x, 1, "n>o", 3, 2, BASIC, 1, REACH, third);
        make(x, 1, "o>t", 4, 3, BASIC, 1, REACH, 0);
        return x.validate(4, 5, 5, false);
    }

    /** "8 there are more certificates between it and the target ... than the REACH of its BASIC" */
    private static void reaches() {
        DUE.is("no reaches", reach(-1, -1, -1), 5);
        DUE.is("just enough", reach(2, 1, 0), 5);
        DUE.is("more than enough", reach(9, 9, 9), 5);
        DUE.is("the first too short", reach(1, 1, 0), -18);
        DUE.is("the first 0", reach(0, -1, -1), -18);
        DUE.is("the second too short", reach(-1, 0, -1), -18);
        DUE.is("the last one needs none", reach(-1, -1, 0), 5);
        CertificateVault x = new CertificateVault();
        make(x, 0, "r>r", 0, 0);
        make(x, 1, "r>m", 1, 0, BASIC, 1, REACH, 0);
        make(x, 1, "m>m", 2, 1, BASIC, 1, REACH, 0);
        make(x, 1, "m>t", 3, 2);
        is("a self-issued one between is not counted", x, x.validate(3, 5, 4, false), 4, 0, 1, 2, 3);
        make(x, 1, "m>n", 3, 2, BASIC, 1);
        make(x, 1, "n>t", 4, 3);
        is("one that is not self-issued is", x, x.validate(5, 5, 5, false), -18);
    }

    private static byte[] plain(long id, byte[] value) {
        return Elements.sequence(Elements.integer(id), value);
    }

    private static int written(byte[]... extensions) {
        CertificateVault x = new CertificateVault();
        make(x, 0, "r>r", 0, 0);
        Elements.fill(x, Elements.signed(0, Elements.body(1, "r", "m", 1, extensions)));
        DUE.is("store(1)", x.store(1), 1);
        make(x, 1, "m>n", 2, 1, BASIC, 1);
        make(x, 1, "n>t", 3, 2);
        return x.validate(3, 5, 4, false);
    }

    /** Of BASIC, USAGE and REALM it says nothing whether they are critical; a REACH may be any number. */
    private static void notCritical() {
        byte[] basic = plain(1, Elements.sequence(Elements.flag()));
        DUE.is("a BASIC that is not critical", written(basic), 4);
        DUE.is("no authority, not critical", written(plain(1, Elements.sequence())), -17);
        DUE.is("a USAGE that is not critical", written(basic, plain(2, Elements.integer(1))), 4);
        DUE.is("a wrong USAGE that is not critical", written(basic, plain(2, Elements.integer(6))), -19);
        DUE.is("a BARRED that is not critical", written(basic, plain(3, Elements.sequence(Elements.text(129, "t")))), -15);
        DUE.is("an ALLOWED that is not critical", written(basic, plain(3, Elements.sequence(Elements.text(128, "n")))), -15);
        long[] reaches = {0, 1, 2, 127, 128, 1L << 31, 1L << 32, 1L << 62, Long.MAX_VALUE};
        for (long reach : reaches) {
            byte[] far = plain(1, Elements.sequence(Elements.flag(), Elements.integer(reach)));
            DUE.is("a REACH of " + reach, written(far), reach == 0 ? -18 : 4);
        }
    }

    /** "9 it has a USAGE without the bit of value 1" */
    private static void usages() {
        for (int usage = 1; usage <= 7; usage++) {
            CertificateVault x = three(pairs(USAGE, 2), pairs(BASIC, 1, USAGE, usage), pairs(USAGE, 2));
            DUE.is("a middle of usage " + usage, x.validate(2, 5, 3, false), usage % 2 == 1 ? 3 : -19);
        }
    }

    private static void firstReason() {
        long[] bad = {FROM, 50, BASIC, 0, STRANGE, 2, USAGE, 2};
        CertificateVault x = three(PLAIN, pairs(USAGE, 2), pairs(FROM, 50));
        is("4 before 7", x, x.validate(2, 5, 3, true), -14);
        is("7 before 9, and 7 of the first before 2 of the second", x, x.validate(2, 5, 3, false), -17);
        CertificateVault y = three(PLAIN, bad, PLAIN);
        is("2 before the rest", y, y.validate(2, 5, 3, true), -12);
        is("4 before 6", y, y.validate(2, 55, 3, true), -14);
        is("6 before 7", y, y.validate(2, 55, 3, false), -16);
        CertificateVault z = new CertificateVault();
        make(z, 0, "r>r", 0, 0);
        make(z, 1, "r>m", 1, 0, BASIC, 1, USAGE, 2);
        make(z, 1, "m>t", 2, 5);
        is("9 of the first before 1 of the second", z, z.validate(2, 5, 3, false), -19);
        CertificateVault w = new CertificateVault();
        make(w, 0, "r>r", 0, 0);
        make(w, 1, "r>m", 1, 0, BASIC, 1, ALLOWED, name("z"), REACH, 0, SERIAL, 3);
        make(w, 1, "m>n", 2, 1, BASIC, 1, STRANGE, 2);
        make(w, 1, "n>t", 3, 2);
        is("8 of the first before 5 of the second", w, w.validate(3, 5, 4, false), -18);
        makeList(w, "r", 0, 0, 100, 3, 0);
        is("3 before 8", w, w.validate(3, 5, 4, false), -13);
        CertificateVault v = new CertificateVault();
        make(v, 0, "r>r", 0, 0);
        make(v, 1, "r>m", 1, 0, BASIC, 1, ALLOWED, name("z"));
        make(v, 1, "m>t", 2, 1, STRANGE, 2);
        is("5 before 6", v, v.validate(2, 5, 3, false), -15);
        CertificateVault u = new CertificateVault();
        make(u, 0, "r>r", 0, 0);
        make(u, 1, "r>m", 1, 0, BASIC, 1, REACH, 0, USAGE, 2);
        make(u, 1, "m>n", 2, 1, BASIC, 1);
        make(u, 1, "n>t", 3, 2);
        is("8 before 9", u, u.validate(3, 5, 4, false), -18);
        CertificateVault s = new CertificateVault();
        make(s, 0, "r>r", 0, 0);
        make(s, 1, "r>t", 1, 1, FROM, 50);
        is("1 before 2", s, s.validate(1, 5, 2, true), -11);
    }

    private static void searchOrder() {
        CertificateVault x = new CertificateVault();
        make(x, 1, "a>i", 1, 0, BASIC, 1);
        make(x, 0, "a>a", 0, 0);
        make(x, 0, "i>i", 2, 2);
        make(x, 1, "i>t", 3, 1);
        make(x, 0, "i>i", 1, 1);
        is("anchors first, then the others", x, x.validate(3, 5, 3, false), 2, 4, 3);
        DUE.is("candidates() with a wrong anchor first", x.candidates(), 2);
        make(x, 0, "i>i", 1, 1);
        is("of two that hold the lesser number", x, x.validate(3, 5, 3, false), 2, 4, 3);
        CertificateVault y = new CertificateVault();
        make(y, 0, "a>a", 0, 0);
        make(y, 1, "a>i", 2, 0, BASIC, 1);
        make(y, 1, "a>i", 1, 0, BASIC, 1);
        make(y, 1, "a>i", 1, 0, BASIC, 1);
        make(y, 0, "i>i", 4, 4);
        make(y, 1, "i>t", 3, 1);
        is("the others by their number", y, y.validate(5, 5, 3, false), 3, 0, 2, 5);
        DUE.is("candidates()", y.candidates(), 3);
        make(y, 1, "i>u", 3, 5);
        is("the reason of the last candidate", y, y.validate(6, 5, 3, false), -11);
        DUE.is("candidates() when none holds", y.candidates(), 4);
        CertificateVault z = new CertificateVault();
        make(z, 0, "i>i", 1, 1);
        make(z, 0, "a>a", 0, 0);
        make(z, 1, "a>i", 1, 0, BASIC, 1, TO, 3);
        make(z, 1, "i>t", 3, 5);
        is("the last reason is another than the first", z, z.validate(3, 5, 3, false), -12);
        DUE.is("candidates()", z.candidates(), 2);
        goneOnAtOnce();
    }

    private static void goneOnAtOnce() {
        CertificateVault x = new CertificateVault();
        make(x, 0, "a>a", 0, 0);
        make(x, 1, "b>i", 1, 2, BASIC, 1);
        make(x, 1, "a>b", 2, 0, BASIC, 1);
        make(x, 1, "a>i", 1, 0, BASIC, 1);
        make(x, 1, "i>t", 3, 1);
        is("deeper before broader", x, x.validate(4, 5, 5, false), 4, 0, 2, 1, 4);
        is("broader when it may not be deeper", x, x.validate(4, 5, 3, false), 3, 0, 3, 4);
        DUE.is("candidates()", x.candidates(), 1);
    }

    private static void anchorsEndAPart() {
        CertificateVault x = new CertificateVault();
        make(x, 0, "r>r", 0, 0);
        make(x, 0, "r>m", 1, 0, TO, 3);
        make(x, 1, "m>t", 2, 5);
        is("nothing is looked for behind an anchor", x, x.validate(2, 5, 5, false), -11);
        DUE.is("candidates()", x.candidates(), 1);
        is("an anchor with an issuer as the target", x, x.validate(1, 5, 5, true), 1, 1);
    }

    private static void circles() {
        CertificateVault x = new CertificateVault();
        make(x, 1, "b>a", 0, 1, BASIC, 1);
        make(x, 1, "a>b", 1, 0, BASIC, 1);
        make(x, 1, "a>t", 2, 0);
        is("a circle without an anchor", x, x.validate(2, 5, 5, false), 0);
        make(x, 0, "r>b", 1, 3);
        is("a circle with an anchor", x, x.validate(2, 5, 5, false), 3, 3, 0, 2);
        is("a circle's own member", x, x.validate(1, 5, 5, false), 3, 3, 0, 1);
    }

    private static void ownIssuer() {
        CertificateVault x = new CertificateVault();
        make(x, 1, "t>t", 0, 0, BASIC, 1);
        make(x, 0, "r>t", 1, 1);
        is("a self-issued target is not put before itself", x, x.validate(0, 5, 5, false), -11);
        DUE.is("candidates()", x.candidates(), 1);
    }

    /** "a chain of at most depth certificates", "Certificate k (0 the anchor) of the chain" */
    private static void depths() {
        CertificateVault x = new CertificateVault();
        make(x, 0, "r>r", 0, 0);
        make(x, 1, "r>m", 1, 0, BASIC, 1);
        make(x, 1, "m>n", 2, 1, BASIC, 1);
        make(x, 1, "n>o", 3, 2, BASIC, 1);
        make(x, 1, "o>p", 4, 3, BASIC, 1);
        make(x, 1, "p>q", 5, 4, BASIC, 1);
        for (int target = 0; target < 6; target++) {
            for (int depth = 1; depth <= 5; depth++) {
                int want = target + 1 <= depth ? target + 1 : 0;
                DUE.is("target " + target + ", depth " + depth, x.validate(target, 5, depth, false), want);
                DUE.is("candidates()", x.candidates(), want == 0 ? 0 : 1);
                for (int k = 0; k < 6; k++) {
                    DUE.is("chain(" + k + ")", x.chain(k), k < want ? k : -1);
                }
            }
        }
    }

    /** Only anchor, helper, 6, target holds: candidate 40 with the helper 3, candidate 41 with 4. */
    private static void forty(int helper, int want) {
        CertificateVault x = new CertificateVault();
        make(x, 0, "r>x", 0, 0);
        for (int c = 1; c <= 7; c++) {
            int key = c == 6 ? 5 : c == helper ? 2 : 1;
            make(x, 1, "x>x", key, c == 6 ? 2 : 0, BASIC, 1);
        }
        make(x, 1, "x>t", 3, 5);
        int[] chain = want > 0 ? new int[] {0, helper, 6, 8} : new int[0];
        is("forty candidates, helper " + helper, x, x.validate(8, 5, 4, false), want, chain);
        DUE.is("candidates()", x.candidates(), 40);
    }

    private static void fortyCandidates() {
        forty(3, 4);
        forty(4, -11);
    }

    /** "the chain that the latest validate answered with", "the latest validate had that was not refused" */
    private static void refusedValidateChangesNothing() {
        CertificateVault x = three(PLAIN, AUTHORITY, PLAIN);
        x.validate(2, 5, 3, false);
        int[] chain = {0, 1, 2};
        is("a target that is not there", x, x.validate(9, 5, 3, false), -1, chain);
        is("a negative time", x, x.validate(2, -5, 3, false), -1, chain);
        is("a wrong depth", x, x.validate(2, 5, 7, false), -1, chain);
        DUE.is("candidates()", x.candidates(), 1);
        is("one that finds none", x, x.validate(2, 5, 1, false), 0);
        DUE.is("candidates()", x.candidates(), 0);
        is("refused behind it", x, x.validate(-1, 5, 1, false), -1);
        is("one with a reason", x, x.validate(2, 5, 3, true), -14);
        DUE.is("candidates()", x.candidates(), 1);
        x.clear();
        x.compose();
        x.store(0);
        DUE.is("chain(0) after other calls", x.chain(0), -1);
        DUE.is("candidates() after other calls", x.candidates(), 1);
    }

    /** What was read and not stored, or stored and full of faults, has no part in a search. */
    private static void readButNotStored() {
        CertificateVault x = new CertificateVault();
        make(x, 0, "r>r", 0, 0);
        make(x, 1, "m>t", 2, 1, SERIAL, 9);
        make(x, 3, "r>m", 1, 0, BASIC, 1, STRANGE, 2);
        DUE.is("check(true)", x.check(true), 0);
        is("a middle that was only read", x, x.validate(1, 5, 3, false), 0);
        makeList(x, "m", 1, 0, 1000, 9, 0);
        make(x, 1, "r>m", 2, 0, BASIC, 1);
        is("another key than that which was read", x, x.validate(1, 5, 3, false), -11);
        make(x, 1, "m>u", 3, 2, SERIAL, 9);
        is("its list does not count", x, x.validate(3, 5, 3, false), 3, 0, 2, 3);
        CertificateVault y = new CertificateVault();
        y.set(1, name("r"));
        y.composeList();
        DUE.is("check(false)", y.check(false), 0);
        make(y, 0, "r>r", 0, 0);
        make(y, 1, "r>t", 2, 0, SERIAL, 9);
        makeList(y, "r", 5, 0, 1000, 9, 0);
        is("a list with a wrong signature in the place of one that was read", y, y.validate(1, 5, 2, true), -14);
    }

    /** Chains need not be stored from the anchor on, nor lists behind what they are for. */
    private static void storedLaterCounts() {
        CertificateVault x = new CertificateVault();
        makeList(x, "m", 1, 0, 1000, 9, 50);
        makeList(x, "r", 0, 0, 1000);
        make(x, 1, "m>t", 2, 1, SERIAL, 9);
        is("the target alone", x, x.validate(0, 5, 3, true), 0);
        make(x, 1, "r>m", 1, 0, BASIC, 1);
        is("and its issuer", x, x.validate(0, 5, 3, true), 0);
        make(x, 0, "r>r", 0, 0);
        is("and the anchor", x, x.validate(0, 5, 3, true), 3, 2, 1, 0);
        is("and the time", x, x.validate(0, 50, 3, true), -13);
    }
}
