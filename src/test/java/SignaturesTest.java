import java.math.BigInteger;
import java.util.Arrays;

/** Terms, NUMBERS, where certificates and lists are concerned: hashes of bodies, and signatures by any key. */
public final class SignaturesTest extends Maker {
    private static final Due DUE = new Due("SignaturesTest");
    private static final BigInteger ONE = BigInteger.ONE;

    public static void main(String[] args) {
        hashOfAllBytes();
        hashOfTagAndLength();
        moduliOfIssuers();
        exponentsOfIssuers();
        evenModulusOfAnIssuer();
        signatureLessThanTheModulus();
        nothingElseIsSigned();
        DUE.end();
    }

    /** "The HASH of some bytes ... (ints that wrap)": bytes of 128 and more, and hashes of either sign. */
    private static void hashOfAllBytes() {
        int negative = 0;
        for (int b = 0; b < 256; b++) {
            byte[] value = Elements.element(4, Elements.bytes(b, 255 - b, b));
            byte[] body = Elements.body(b, "r", "t", 1, Elements.sequence(Elements.integer(9), value));
            CertificateVault x = new CertificateVault();
            Elements.fill(x, Elements.sequence(body, Elements.integer(b)));
            DUE.is("store(1)", x.store(1), 0);
            DUE.is("the hash of a body with " + b, x.certificate(0, 8), Elements.hash(body));
            byte[] list = Elements.listBody("r", b, 1000, Elements.entry(b, 300));
            Elements.fill(x, Elements.sequence(list, Elements.integer(b)));
            DUE.is("store(2)", x.store(2), 0);
            DUE.is("the hash of a list with " + b, x.list(0, 5), Elements.hash(list));
            negative += Elements.hash(body) < 0 ? 1 : 0;
        }
        DUE.isTrue("hashes of either sign", negative > 50 && negative < 200);
    }

    /** "the hash of the BODY (all its bytes, tag and length included)": of a long body too. */
    private static void hashOfTagAndLength() {
        for (int length = 80; length < 110; length++) {
            byte[] value = Elements.element(4, new byte[length]);
            byte[] body = Elements.body(1, "r", "t", 1, Elements.sequence(Elements.integer(9), value));
            CertificateVault x = new CertificateVault();
            make(x, 0, "r>r", 0, 0);
            Elements.fill(x, Elements.signed(0, body));
            DUE.is("store(1)", x.store(1), 1);
            DUE.is("the hash", x.certificate(1, 8), Elements.hash(body));
            DUE.is("the chain", x.validate(1, 5, 2, false), 2);
        }
    }

    private static BigInteger big(long v) {
        return BigInteger.valueOf(v);
    }

    private static byte[] body(String issuer, String subject, long modulus, long exponent) {
        return Elements.sequence(Elements.integer(1), Elements.name(issuer), Elements.integer(0), Elements.integer(1000),
            Elements.name(subject), Elements.integer(modulus), Elements.integer(exponent));
    }

    /** A certificate and a list by an anchor that bears the key: whether the one is good, and the other. */
    private static void ask(String what, long modulus, long exponent, BigInteger root, boolean good) {
        CertificateVault x = new CertificateVault();
        Elements.fill(x, Elements.sequence(body("r", "r", modulus, exponent), Elements.integer(1)));
        DUE.is(what + ", store(0)", x.store(0), 0);
        byte[] target = body("r", "t", 5, 5);
        Elements.fill(x, Elements.sequence(target, Elements.integer(signature(target, modulus, root))));
        DUE.is(what + ", store(1)", x.store(1), 1);
        DUE.is(what, x.validate(1, 5, 2, false), good ? 2 : -11);
        byte[] list = Elements.listBody("r", 0, 1000);
        Elements.fill(x, Elements.sequence(list, Elements.integer(signature(list, modulus, root))));
        DUE.is(what + ", store(2)", x.store(2), 0);
        DUE.is(what + ", strictly", x.validate(1, 5, 2, true), good ? 2 : -11);
    }

    private static long signature(byte[] body, long modulus, BigInteger root) {
        return Elements.block(Elements.hash(body)).modPow(root, big(modulus)).longValueExact();
    }

    /** Modulo a prime the exponent that undoes another is easy to find. */
    private static void prime(long near, int step, long exponent, boolean good) {
        long n = near;
        while (!big(n).isProbablePrime(60) || !big(n).subtract(ONE).gcd(big(exponent)).equals(ONE)) {
            n += step;
        }
        ask(n + " and " + exponent, n, exponent, big(exponent).modInverse(big(n).subtract(ONE)), good);
    }

    /** "n is odd, 2^57 .. 2^62 - 1" */
    private static void moduliOfIssuers() {
        for (long exponent : new long[] {3, 5, 17, 65537}) {
            prime((1L << 57) + 1, 2, exponent, true);
            prime((1L << 57) - 1, -2, exponent, false);
            prime((1L << 62) - 1, -2, exponent, true);
            prime((1L << 62) + 1, 2, exponent, false);
        }
        BigInteger order = big(2).multiply(big(715827882)).multiply(big(2147483646));
        ask("2^62 - 1", (1L << 62) - 1, 65537, big(65537).modInverse(order), true);
        BigInteger below = big(6).multiply(big(32376)).multiply(big(524286)).multiply(big(1212846));
        ask("2^57 - 1", (1L << 57) - 1, 65537, big(65537).modInverse(below), false);
        BigInteger above = big(4).multiply(big(5580)).multiply(big(8680)).multiply(big(49476)).multiply(big(384772));
        ask("2^62 + 1", (1L << 62) + 1, 65537, big(65537).modInverse(above), false);
    }

    /** "e is 3 .. 2^31 - 1" */
    private static void exponentsOfIssuers() {
        prime((1L << 60) + 1, 2, 3, true);
        prime((1L << 60) + 1, 2, 1, false);
        prime((1L << 60) + 1, 2, (1L << 31) - 1, true);
        prime((1L << 60) + 1, 2, (1L << 31) + 1, false);
        prime((1L << 60) + 1, 2, (1L << 31) + 11, false);
        prime((1L << 60) + 1, 2, (1L << 32) + 3, false);
        prime((1L << 60) + 1, 2, (1L << 32) + 17, false);
    }

    private static void evenModulusOfAnIssuer() {
        for (int k = 0; k < 4; k++) {
            CertificateVault x = new CertificateVault();
            long n = Elements.MODULI[k] - 1;
            Elements.fill(x, Elements.sequence(body("r", "r", n, 3), Elements.integer(1)));
            x.store(0);
            make(x, 1, "r>t", 1, k);
            DUE.is("an even modulus", x.validate(1, 5, 2, false), -11);
        }
        long p = (1L << 58) + 1;
        while (!big(p).isProbablePrime(60) || p % 3 != 2) {
            p += 2;
        }
        byte[] target = body("r", "t", 5, 5);
        BigInteger block = Elements.block(Elements.hash(target));
        BigInteger s = block.modPow(big(3).modInverse(big(p - 1)), big(p));
        BigInteger lifted = s.testBit(0) == block.testBit(0) ? s : s.add(big(p));
        DUE.isTrue("a root modulo 2 p", lifted.modPow(big(3), big(2 * p)).equals(block));
        CertificateVault x = new CertificateVault();
        Elements.fill(x, Elements.sequence(body("r", "r", 2 * p, 3), Elements.integer(1)));
        DUE.is("store(0)", x.store(0), 0);
        Elements.fill(x, Elements.sequence(target, Elements.integer(lifted.longValueExact())));
        DUE.is("store(1)", x.store(1), 1);
        DUE.is("twice a prime", x.validate(1, 5, 2, false), -11);
    }

    /** "s is less than n" */
    private static void signatureLessThanTheModulus() {
        for (int key = 0; key < 6; key++) {
            byte[] target = Elements.body(7, "r", "t", 1);
            byte[] list = Elements.listBody("r", 0, 1000);
            long s = Elements.signature(key, Elements.hash(target));
            long ofList = Elements.signature(key, Elements.hash(list));
            CertificateVault x = new CertificateVault();
            make(x, 0, "r>r", key, 0);
            Elements.fill(x, Elements.sequence(target, Elements.integer(s)));
            x.store(1);
            Elements.fill(x, Elements.sequence(target, Elements.integer(s + Elements.MODULI[key])));
            x.store(1);
            Elements.fill(x, Elements.sequence(list, Elements.integer(ofList + Elements.MODULI[key])));
            DUE.is("store(2)", x.store(2), 0);
            DUE.is("less", x.validate(1, 5, 2, false), 2);
            DUE.is("more by the modulus", x.validate(2, 5, 2, false), -11);
            DUE.is("a list's, more by the modulus", x.validate(1, 5, 2, true), -14);
            Elements.fill(x, Elements.sequence(list, Elements.integer(ofList)));
            x.store(2);
            DUE.is("a list's, less", x.validate(1, 5, 2, true), 2);
        }
    }

    /** A bit of the body or of the signature that is another one makes the signature a bad one. */
    private static void nothingElseIsSigned() {
        byte[] whole = Elements.signed(0, Elements.body(7, "r", "t", 1));
        for (int place : new int[] {6, 12, 16, 19, 25, whole.length - 1, whole.length - 8}) {
            byte[] changed = Arrays.copyOf(whole, whole.length);
            changed[place] ^= 1;
            CertificateVault x = new CertificateVault();
            make(x, 0, "r>r", 0, 0);
            Elements.fill(x, changed);
            DUE.is("store(1) with another bit at " + place, x.store(1), 1);
            DUE.is("another bit at " + place, x.validate(1, 0, 2, false), -11);
        }
    }
}
