import java.io.ByteArrayOutputStream;
import java.math.BigInteger;
import java.nio.charset.StandardCharsets;

/** Writes elements for the tests, apart from the tool of the program. */
final class Elements {
    static final long[] MODULI = {
        1200000049400000287L, 1430000491000037023L, 1536351190290809371L,
        1728395075795061493L, 1697785988597898509L, 1597490175708938519L
    };
    static final long[] EXPONENTS = {3, 17, 257, 65537, 5, 11};
    static final long[] PRIVATE_EXPONENTS = {
        800000031466666827L, 84117675800002153L, 579867958021467505L,
        1604812069470515813L, 339557197186246361L, 1161811034953791779L
    };

    private Elements() {
    }

    static byte[] join(byte[]... parts) {
        ByteArrayOutputStream all = new ByteArrayOutputStream();
        for (byte[] part : parts) {
            all.writeBytes(part);
        }
        return all.toByteArray();
    }

    static byte[] bytes(int... values) {
        byte[] answer = new byte[values.length];
        for (int k = 0; k < values.length; k++) {
            answer[k] = (byte) values[k];
        }
        return answer;
    }

    static byte[] element(int tag, byte[]... parts) {
        byte[] content = join(parts);
        byte[] header = content.length < 128 ? bytes(tag, content.length) : bytes(tag, 129, content.length);
        return join(header, content);
    }

    static byte[] sequence(byte[]... parts) {
        return element(48, parts);
    }

    static byte[] integer(long v) {
        return element(2, BigInteger.valueOf(v).toByteArray());
    }

    static byte[] flag() {
        return bytes(1, 1, 255);
    }

    static byte[] name(String name) {
        return text(19, name);
    }

    static byte[] text(int tag, String name) {
        return element(tag, name.getBytes(StandardCharsets.ISO_8859_1));
    }

    static byte[] body(long serial, String issuer, String subject, int key, byte[]... extensions) {
        byte[] fixed = join(integer(serial), name(issuer), integer(0), integer(1000), name(subject),
            integer(MODULI[key]), integer(EXPONENTS[key]));
        return extensions.length == 0 ? sequence(fixed) : sequence(fixed, sequence(extensions));
    }

    static byte[] listBody(String issuer, long from, long to, byte[]... entries) {
        return sequence(name(issuer), integer(from), integer(to), sequence(entries));
    }

    static byte[] entry(long serial, long date) {
        return sequence(integer(serial), integer(date));
    }

    static byte[] signed(int key, byte[] body) {
        return sequence(body, integer(signature(key, hash(body))));
    }

    static int hash(byte[] bytes) {
        int h = -2128831035;
        for (byte b : bytes) {
            h = (h ^ (b & 255)) * 16777619;
        }
        return h ^ (h >>> 15);
    }

    static long signature(int key, int h) {
        return block(h)
            .modPow(BigInteger.valueOf(PRIVATE_EXPONENTS[key]), BigInteger.valueOf(MODULI[key]))
            .longValueExact();
    }

    static BigInteger block(int h) {
        return BigInteger.valueOf(130816).shiftLeft(32).add(BigInteger.valueOf(Integer.toUnsignedLong(h)));
    }

    static long nameValue(String name) {
        long v = 0;
        for (int k = name.length() - 1; k >= 0; k--) {
            char c = name.charAt(k);
            v = v * 32 + (c == '.' ? 27 : c - 'a' + 1);
        }
        return v;
    }

    static String nameText(long name) {
        StringBuilder text = new StringBuilder();
        for (long rest = name; rest != 0; rest /= 32) {
            text.append(rest % 32 == 27 ? '.' : (char) ('a' + rest % 32 - 1));
        }
        return text.toString();
    }

    /** The draft becomes the bytes. */
    static void fill(CertificateVault vault, byte[] bytes) {
        vault.clear();
        for (byte b : bytes) {
            vault.put(b & 255);
        }
    }

    static byte[] draft(CertificateVault vault) {
        byte[] answer = new byte[vault.at(-1)];
        for (int k = 0; k < answer.length; k++) {
            answer[k] = (byte) vault.at(k);
        }
        return answer;
    }
}
