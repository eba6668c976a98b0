import java.util.Random;

/** Promises 11 to 17 on random drafts and stores, compared with the model. */
public final class ModelTest {
    private static final Due DUE = new Due("ModelTest");
    private static final String[] NAMES = {"a", "b", "c.a", "x.c.a", "ca", "b.b"};
    private static final int[] TAGS = {0, 1, 2, 4, 19, 48, 127, 128, 129, 130, 255};

    private static final int[] FAULTS = new int[6];
    private static final int[] REASONS = new int[10];
    private static final int[] LENGTHS = new int[6];
    private static int oddness = 4;
    private static int noCandidates = 0;
    private static int manyCandidates = 0;

    public static void main(String[] args) {
        Random random = new Random(11);
        for (int round = 0; round < 60000; round++) {
            reading(random);
        }
        for (int round = 0; round < 4000; round++) {
            searching(random);
        }
        allHappened();
        DUE.end();
    }

    private static void allHappened() {
        for (int kind = 0; kind < FAULTS.length; kind++) {
            DUE.isTrue("faults of kind " + kind + ": " + FAULTS[kind], FAULTS[kind] > 100);
        }
        for (int reason = 1; reason < REASONS.length; reason++) {
            DUE.isTrue("searches with reason " + reason + ": " + REASONS[reason], REASONS[reason] > 20);
        }
        for (int length = 1; length < LENGTHS.length; length++) {
            DUE.isTrue("chains of " + length + ": " + LENGTHS[length], LENGTHS[length] > 20);
        }
        DUE.isTrue("searches without a candidate: " + noCandidates, noCandidates > 20);
        DUE.isTrue("searches with forty candidates: " + manyCandidates, manyCandidates > 20);
    }

    private static byte[] opaque(Random random) {
        byte[] bytes = new byte[random.nextInt(8) == 0 ? random.nextInt(140) : random.nextInt(3)];
        random.nextBytes(bytes);
        return Elements.element(4, bytes);
    }

    private static byte[] number(Random random) {
        return Elements.integer(random.nextLong() >>> 1 + random.nextInt(63));
    }

    private static byte[] maybe(Random random, byte[] element) {
        return random.nextBoolean() ? element : new byte[0];
    }

    private static byte[] extension(Random random, int id) {
        byte[] flag = maybe(random, Elements.flag());
        byte[] value = switch (id) {
            case 1 -> random.nextBoolean() ? Elements.sequence()
                : Elements.sequence(Elements.flag(), maybe(random, number(random)));
            case 2 -> Elements.integer(1 + random.nextInt(7));
            case 3 -> Elements.sequence(maybe(random, Elements.text(128, "a.b")), maybe(random, Elements.text(129, "c")));
            default -> opaque(random);
        };
        return Elements.sequence(Elements.integer(id), flag, value);
    }

    private static byte[] certificate(Random random) {
        byte[] extensions = new byte[0];
        for (int id = random.nextInt(3); id < 7; id += 1 + random.nextInt(3)) {
            extensions = Elements.join(extensions, extension(random, id));
        }
        byte[] body = Elements.sequence(number(random), Elements.name("ab"), number(random), number(random),
            Elements.name("a.b"), number(random), number(random), maybe(random, Elements.sequence(extensions)));
        return Elements.sequence(body, number(random));
    }

    private static byte[] list(Random random) {
        byte[] entries = new byte[0];
        for (int k = random.nextInt(6); k > 0; k--) {
            entries = Elements.join(entries, Elements.sequence(number(random), number(random)));
        }
        byte[] body = Elements.sequence(Elements.name("ab"), number(random), number(random), Elements.sequence(entries));
        return Elements.sequence(body, number(random));
    }

    private static byte[] changed(Random random, byte[] draft) {
        int place = random.nextInt(draft.length);
        byte[] before = java.util.Arrays.copyOf(draft, place);
        byte[] behind = java.util.Arrays.copyOfRange(draft, place + 1, draft.length);
        byte[] one = Elements.bytes(TAGS[random.nextInt(TAGS.length)]);
        return switch (random.nextInt(7)) {
            case 0 -> Elements.join(before, behind);
            case 1 -> Elements.join(before, one, Elements.bytes(draft[place]), behind);
            case 2 -> Elements.join(before, Elements.bytes(draft[place] + 1), behind);
            case 3 -> Elements.join(before, Elements.bytes(draft[place] - 1), behind);
            case 4 -> Elements.join(before, Elements.bytes(random.nextInt(256)), behind);
            case 5 -> Elements.join(draft, one);
            default -> Elements.join(before, one, behind);
        };
    }

    private static void reading(Random random) {
        boolean certificate = random.nextInt(4) != 0;
        byte[] draft = certificate ? certificate(random) : list(random);
        for (int k = random.nextInt(3); k > 0; k--) {
            draft = changed(random, draft);
        }
        if (draft.length > 200) {
            draft = java.util.Arrays.copyOf(draft, 200);
        }
        CertificateVault x = new CertificateVault();
        Elements.fill(x, draft);
        int want = Model.check(draft, certificate);
        FAULTS[want % 16]++;
        DUE.is("check(" + certificate + ")", x.check(certificate), want);
        DUE.is("check(" + !certificate + ")", x.check(!certificate), Model.check(draft, !certificate));
        DUE.is("store", x.store(certificate ? 1 : 2), want == 0 ? 0 : -2);
        if (want == 0) {
            tells(x, 0, certificate ? Model.readCertificate(draft) : null, certificate ? null : Model.readList(draft));
        }
    }

    private static void tells(CertificateVault x, int number, Model.Certificate certificate, Model.Revoked list) {
        for (int what = -1; what < 16; what++) {
            if (certificate != null) {
                DUE.is("certificate(" + number + ", " + what + ")", x.certificate(number, what), certificate.tell(what));
            } else {
                DUE.is("list(" + number + ", " + what + ")", x.list(number, what), list.tell(what));
            }
        }
    }

    private static long pick(Random random, long usual, long... others) {
        return random.nextInt(oddness) != 0 ? usual : others[random.nextInt(others.length)];
    }

    /** Names are few and keys go with names, mostly, so that chains are found and break at all places. */
    private static void searching(Random random) {
        CertificateVault x = new CertificateVault();
        Model model = new Model();
        int names = 1 + random.nextInt(NAMES.length);
        int anchors = 1 + random.nextInt(4);
        int count = 2 + random.nextInt(11);
        boolean oneKey = random.nextInt(4) == 0;
        oddness = random.nextBoolean() ? 4 : 30;
        for (int c = 0; c < count; c++) {
            storeCertificate(random, x, model, names, oneKey, random.nextInt(5) < anchors && c < 3);
            if (random.nextInt(5) == 0) {
                storeList(random, x, model, names, oneKey);
            }
        }
        for (int l = random.nextInt(5); l > 0; l--) {
            storeList(random, x, model, names, oneKey);
        }
        for (int k = 0; k < 12; k++) {
            ask(random, x, model);
        }
    }

    private static void storeCertificate(Random random, CertificateVault x, Model model, int names, boolean oneKey, boolean anchor) {
        int issuer = random.nextInt(names);
        int subject = random.nextInt(names);
        x.set(0, random.nextInt(4));
        x.set(1, Elements.nameValue(NAMES[issuer]));
        x.set(2, pick(random, 0, 5, 10));
        x.set(3, pick(random, 100, 10, 20));
        x.set(4, Elements.nameValue(NAMES[subject]));
        x.set(5, oneKey ? 0 : pick(random, subject, 0, 1, 2));
        x.set(6, pick(random, 1, 1, 1, 0, -1));
        x.set(7, pick(random, -1, 0, 0, 1, 2));
        x.set(8, pick(random, -1, 3, 7, 1, 2, 4));
        x.set(9, pick(random, 0, 0, 0, Elements.nameValue("a"), Elements.nameValue("b")));
        x.set(10, pick(random, 0, 0, 0, Elements.nameValue("c.a"), Elements.nameValue("b.b")));
        x.set(11, pick(random, 0, 1, 1, 2));
        x.set(12, oneKey ? 0 : pick(random, issuer, issuer, 0, 1));
        x.compose();
        Model.Certificate read = Model.readCertificate(Elements.draft(x));
        read.anchor = anchor;
        model.certificates.add(read);
        int number = model.certificates.size() - 1;
        DUE.is("store", x.store(anchor ? 0 : 1), number);
        tells(x, number, read, null);
    }

    private static void storeList(Random random, CertificateVault x, Model model, int names, boolean oneKey) {
        int issuer = random.nextInt(names);
        x.set(1, Elements.nameValue(NAMES[issuer]));
        x.set(2, pick(random, 0, 5, 10));
        x.set(3, pick(random, 100, 10, 20));
        x.set(12, oneKey ? 0 : pick(random, issuer, 0, 1));
        x.forgive();
        for (int k = random.nextInt(3); k > 0; k--) {
            x.revoke(random.nextInt(4), 5 * random.nextInt(6));
        }
        x.composeList();
        boolean room = model.lists.size() < 6;
        int number = model.lists.size();
        DUE.is("store(2)", x.store(2), room ? number : -1);
        if (room) {
            model.lists.add(Model.readList(Elements.draft(x)));
            tells(x, number, null, model.lists.get(number));
        }
    }

    private static void ask(Random random, CertificateVault x, Model model) {
        int target = random.nextInt(model.certificates.size());
        long time = random.nextInt(25);
        int depth = 1 + random.nextInt(5);
        boolean strictly = random.nextInt(4) == 0;
        int want = model.validate(target, time, depth, strictly);
        DUE.is("validate(" + target + ", " + time + ", " + depth + ", " + strictly + ")",
            x.validate(target, time, depth, strictly), want);
        DUE.is("candidates()", x.candidates(), model.candidates);
        for (int k = -1; k <= 5; k++) {
            boolean there = k >= 0 && k < model.chain.size();
            DUE.is("chain(" + k + ")", x.chain(k), there ? model.chain.get(k) : -1);
        }
        if (want > 0) {
            LENGTHS[want]++;
        } else if (want < 0) {
            REASONS[-10 - want]++;
        } else {
            noCandidates++;
        }
        manyCandidates += model.candidates == 40 ? 1 : 0;
    }
}
