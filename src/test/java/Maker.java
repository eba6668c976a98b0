/** Makes certificates and lists with the tool of a vault and stores them; for tests that extend it. */
abstract class Maker {
    static final int SERIAL = 0;
    static final int ISSUER = 1;
    static final int FROM = 2;
    static final int TO = 3;
    static final int SUBJECT = 4;
    static final int BORNE_KEY = 5;
    static final int BASIC = 6;
    static final int REACH = 7;
    static final int USAGE = 8;
    static final int ALLOWED = 9;
    static final int BARRED = 10;
    static final int STRANGE = 11;
    static final int SIGNING_KEY = 12;

    private static final long[] FIRST = {1, 1, 0, 1000, 1, 0, -1, -1, -1, 0, 0, 0, 0};

    static long name(String text) {
        return Elements.nameValue(text);
    }

    static long[] pairs(long... values) {
        return values;
    }

    /** Of names "issuer>subject"; the pairs are a field and a value for those that are not as at first. */
    static int make(CertificateVault x, int kind, String names, int key, int signer, long... pairs) {
        String[] both = names.split(">");
        long[] fields = FIRST.clone();
        fields[ISSUER] = name(both[0]);
        fields[SUBJECT] = name(both[1]);
        fields[BORNE_KEY] = key;
        fields[SIGNING_KEY] = signer;
        for (int k = 0; k < pairs.length; k += 2) {
            fields[(int) pairs[k]] = pairs[k + 1];
        }
        for (int field = 0; field < fields.length; field++) {
            x.set(field, fields[field]);
        }
        x.compose();
        return x.store(kind);
    }

    /** The pairs are serials and dates. */
    static int makeList(CertificateVault x, String issuer, int signer, long from, long to, long... pairs) {
        x.set(ISSUER, name(issuer));
        x.set(SIGNING_KEY, signer);
        x.set(FROM, from);
        x.set(TO, to);
        x.forgive();
        for (int k = 0; k < pairs.length; k += 2) {
            x.revoke(pairs[k], pairs[k + 1]);
        }
        x.composeList();
        return x.store(2);
    }
}
