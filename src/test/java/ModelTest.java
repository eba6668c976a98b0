import java.util.Random;

/** Promises 11 to 17 on random drafts and stores, compared with the model. */
public final class ModelTest {
    private static final Due DUE = new Due("ModelTest");
    private static final String[] NAMES = {"a", "b", "c.a", "x.c.a", "ca", "b.b"};
    private static final int[] TAGS = {0, 1, 2, 4, 19, 48, 127, 128, 129, 130, 255};

    private static final int[] FAULTS = new int[6];
    private static final int[] REASONS = new int[10];
    private static final int[] LENGTHS = new int[6];
    private static int oddness = 4;
    private static int noCandidates = 0;
    private static int manyCandidates = 0;

    public static void main(String[] args) {
        Random random = new Random(11);
        for (int round = 0; round < 60000; round++) {
            reading(random);
        }
        for (int round = 0; round < 4000; round++) {
            searching(random);
        }
        allHappened();
        DUE.end();
    }

    private static void allHappened() {
        for (int kind = 0; kind < FAULTS.length; kind++) {
            DUE.isTrue("faults of kind " + kind + ": " + FAULTS[kind], FAULTS[kind] > 100);
        }
        for (int reason = 1; reason < REASONS.length; reason++) {
            DUE.isTrue("searches with reason " + reason + ": " + REASONS[reason], REASONS[reason] > 20);
        }
        for (int length = 1; length < LENGTHS.length; length++) {
            DUE.isTrue("chains of " + length + ": " + LENGTHS[length], LENGTHS[length] > 20);
        }
        DUE.isTrue("searches without a candidate: " + noCandidates, noCandidates > 20);
        DUE.isTrue("searches with forty candidates: " + manyCandidates, manyCandidates > 20);
    }

    private static byte[] opaque(Random random) {
        byte[] bytes = new byte[random.nextInt(8) == 0 ? random.nextInt(140) : random.nextInt(3)];
        random.nextBytes(bytes);
        return Elements.element(4, bytes);
    }

    private static byte[] number(Random random) {
        return Elements.integer(random.nextLong() >>> 1 + random.nextInt(63));
    }

    private static byte[] maybe(Random random, byte[] element) {
        return random.nextBoolean() ? element : new byte[0];
    }

    private static byte[] extension(Random random, int id) {
        byte[] flag = maybe(random, Elements.flag());
        byte[] value = switch (id) {
            case 1 -> random.nextBoolean() ? Elements.sequence()
                : Elements.sequence(Elements.flag(), maybe(random, number(random)));
            case 2 -> Elements.integer(1 + random.nextInt(7));
            case 3 -> Elements.sequence(maybe(random, Elements.text(128, "a.b")), maybe(random, Elements.text(129, "c")));
            default -> opaque(random);
        };
        return Elements.sequence(Elements.integer(id), flag, value);
    }

    private static byte[] certificate(Random random) {
        byte[] extensions = new byte[0];
        for (int id = random.nextInt(3); id < 7; id += 1 + random.nextInt(3)) {
            extensions = Elements.join(extensions, extension(random, id));
        }
        byte[] body = Elements.sequence(number(random), Elements.name("ab"), number(random), number(random),
            Elements.name("a.b"), number(random), number(random), maybe(random, Elements.sequence(extensions)));
        return Elements.sequence(body, number(random));
    }

    private static byte[] list(Random random) {
        byte[] entries = new byte[0];
        for (int k = random.nextInt(6); k > 0; k--) {
            entries = Elements.join(entries, Elements.sequence(number(random), number(random)));
        }
        byte[] body = Elements.sequence(Elements.name("ab"), number(random), number(random), Elements.sequence(entries));
        return Elements.sequence(body, number(random));
    }

    private static byte[] changed(Random random, byte[] draft) {
        int place = random.nextInt(draft.length);
        byte[] before = java.util.Arrays.copyOf(draft, place);
        byte[] behind = java.util.Arrays.copyOfRange(draft, place + 1, draft.length);
        byte[] one = Elements.bytes(TAGS[random.nextInt(TAGS.length)]);
        return switch (random.nextInt(7)) {
            case 0 -> Elements.join(before, behind);
            case 1 -> Elements.join(before, one, Elements.bytes(draft[place]), behind);
            case 2 -> Elements.join(before, Elements.bytes(draft[place] + 1), behind);
            case 3 -> Elements.join(before, Elements.bytes(draft[place] - 1), behind);
            case 4 -> Elements.join(before, Elements.bytes(random.nextInt(256)), behind);
            case 5 -> Elements.join(draft, one);
            default -> Elements.join(before, one, behind);
        };
    }

    private static void reading(Random random) {
        boolean certificate = random.nextInt(4) != 0;
        byte[] draft = certificate ? certificate(random) : list(random);
        for (int k = random.nextInt(3); k > 0; k--) {
            draft = changed(random, draft);
        }
        if (draft.length > 200) {
            draft = java.util.Arrays.copyOf(draft, 200);
        }
        CertificateVault x = new CertificateVault();
        Elements.fill(x, draft);
        int want = Model.check(draft, certificate);
        FAULTS[want % 16]++;
        DUE.is("check(" + certificate + ")", x.check(certificate), want);
        DUE.is("check(" + !certificate + ")", x.check(!certificate), Model.check(draft, !certificate));
        DUE.is("store", x.store(certificate ? 1 : 2), want == 0 ? 0 : -2);
        if (want == 0) {
            tells(x, 0, certificate ? Model.readCertificate(draft) : null, certificate ? null : Model.readList(draft));
        }
    }

    private static void tells(CertificateVault x, int number, Model.Certificate certificate, Model.Revoked list) {
        for (int what = -1; what < 16; what++) {
            if (certificate != null) {
                DUE.is("certificate(" + number + ", " + what + ")", x.certificate(number, what), certificate.tell(what));
            } else {
                DUE.is("list(" + number + ", " + what + ")", x.list(number, what), list.tell(what));
            }
        }
    }

    private static long pick(Random random, long usual, long... others) {
        return random.nextInt(oddness) != 0 ? usual : others[random.nextInt(others.length)];
    }

    /** Names are few and keys go with names, mostly, so that chains are found and break at all places. */
    private static void searching(Random random) {
        CertificateVault x = new CertificateVault();
        Model model = new Model();
        int names = 1 + random.nextInt(NAMES.length);
        int anchors = 1 + random.nextInt(4);
        int count = 2 + random.nextInt(11);
        boolean oneKey = random.nextInt(4) == 0;
        oddness = random.nextBoolean() ? 4 : 30;
        for (int c = 0; c < count; c++) {
            storeCertificate(random, x, model, names, oneKey, random.nextInt(5) < anchors && c < 3);
            if (random.nextInt(5) == 0) {
                storeList(random, x, model, names, oneKey);
            }
        }
        for (int l = random.nextInt(5); l > 0; l--) {
            storeList(random, x, model, names, oneKey);
        }
        for (int k = 0; k < 12; k++) {
            ask(random, x, model);
        }
    }

    private static byte[] extensionsOf(long[] f) {
        byte[] all = new byte[0];
        if (f[6] >= 0) {
            byte[] reach = f[7] >= 0 ? Elements.integer(f[7]) : new byte[0];
            byte[] value = f[6] == 1 ? Elements.sequence(Elements.flag(), reach) : Elements.sequence();
            all = Elements.sequence(Elements.integer(1), Elements.flag(), value);
        }
        if (f[8] > 0) {
            all = Elements.join(all, Elements.sequence(Elements.integer(2), Elements.flag(), Elements.integer(f[8])));
        }
        if (f[9] != 0 || f[10] != 0) {
            byte[] allowed = f[9] != 0 ? Elements.text(128, Elements.nameText(f[9])) : new byte[0];
            byte[] barred = f[10] != 0 ? Elements.text(129, Elements.nameText(f[10])) : new byte[0];
            all = Elements.join(all,
                Elements.sequence(Elements.integer(3), Elements.flag(), Elements.sequence(allowed, barred)));
        }
        if (f[11] > 0) {
            byte[] critical = f[11] == 2 ? Elements.flag() : new byte[0];
            all = Elements.join(all, Elements.sequence(Elements.integer(9), critical, Elements.element(4)));
        }
        return all.length == 0 ? all : Elements.sequence(all);
    }

    /** The certificate of a template, written apart from the tool. */
    private static byte[] certificateOf(long[] f) {
        byte[] body = Elements.sequence(Elements.integer(f[0]), Elements.name(Elements.nameText(f[1])),
            Elements.integer(f[2]), Elements.integer(f[3]), Elements.name(Elements.nameText(f[4])),
            Elements.integer(Elements.MODULI[(int) f[5]]), Elements.integer(Elements.EXPONENTS[(int) f[5]]), extensionsOf(f));
        return Elements.signed((int) f[12], body);
    }

    private static void storeCertificate(Random random, CertificateVault x, Model model, int names, boolean oneKey,
            boolean anchor) {
        int issuer = random.nextInt(names);
        int subject = random.nextInt(names);
        long[] fields = {random.nextInt(4), Elements.nameValue(NAMES[issuer]), pick(random, 0, 5, 10),
            pick(random, 100, 10, 20), Elements.nameValue(NAMES[subject]), oneKey ? 0 : pick(random, subject, 0, 1, 2),
            pick(random, 1, 1, 1, 0, -1), pick(random, -1, 0, 0, 1, 2), pick(random, -1, 3, 7, 1, 2, 4),
            pick(random, 0, 0, 0, Elements.nameValue("a"), Elements.nameValue("b")),
            pick(random, 0, 0, 0, Elements.nameValue("c.a"), Elements.nameValue("b.b")), pick(random, 0, 1, 1, 2),
            oneKey ? 0 : pick(random, issuer, issuer, 0, 1)};
        for (int field = 0; field < fields.length; field++) {
            x.set(field, fields[field]);
        }
        x.compose();
        Model.Certificate read = Model.readCertificate(certificateOf(fields));
        read.anchor = anchor;
        model.certificates.add(read);
        int number = model.certificates.size() - 1;
        DUE.is("store", x.store(anchor ? 0 : 1), number);
        for (int what : new int[] {7, 8, 14, random.nextInt(15)}) {
            DUE.is("certificate(" + number + ", " + what + ")", x.certificate(number, what), read.tell(what));
        }
    }

    private static void storeList(Random random, CertificateVault x, Model model, int names, boolean oneKey) {
        int issuer = random.nextInt(names);
        int signer = oneKey ? 0 : (int) pick(random, issuer, 0, 1);
        long from = pick(random, 0, 5, 10);
        long to = pick(random, 100, 10, 20);
        x.set(1, Elements.nameValue(NAMES[issuer]));
        x.set(2, from);
        x.set(3, to);
        x.set(12, signer);
        x.forgive();
        byte[][] entries = new byte[random.nextInt(3)][];
        for (int k = 0; k < entries.length; k++) {
            long serial = random.nextInt(4);
            long date = 5 * random.nextInt(6);
            x.revoke(serial, date);
            entries[k] = Elements.entry(serial, date);
        }
        x.composeList();
        boolean room = model.lists.size() < 6;
        int number = model.lists.size();
        DUE.is("store(2)", x.store(2), room ? number : -1);
        if (room) {
            model.lists.add(Model.readList(Elements.signed(signer, Elements.listBody(NAMES[issuer], from, to, entries))));
            DUE.is("list(" + number + ", 5)", x.list(number, 5), model.lists.get(number).tell(5));
        }
    }

    private static void ask(Random random, CertificateVault x, Model model) {
        int target = random.nextInt(model.certificates.size());
        long time = random.nextInt(25);
        int depth = 1 + random.nextInt(5);
        boolean strictly = random.nextInt(4) == 0;
        int want = model.validate(target, time, depth, strictly);
        DUE.is("validate(" + target + ", " + time + ", " + depth + ", " + strictly + ")",
            x.validate(target, time, depth, strictly), want);
        DUE.is("candidates()", x.candidates(), model.candidates);
        for (int k = 0; k <= 5; k++) {
            boolean there = k < model.chain.size();
            DUE.is("chain(" + k + ")", x.chain(k), there ? model.chain.get(k) : -1);
        }
        if (want > 0) {
            LENGTHS[want]++;
        } else if (want < 0) {
            REASONS[-10 - want]++;
        } else {
            noCandidates++;
        }
        manyCandidates += model.candidates == 40 ? 1 : 0;
    }
}
