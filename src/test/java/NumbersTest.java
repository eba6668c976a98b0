import java.math.BigInteger;
import java.util.Random;

/** Promises 18 and 19: sign and good, against BigInteger. */
public final class NumbersTest {
    private static final Due DUE = new Due("NumbersTest");
    private static final long LEAST = 1L << 57;
    private static final long MOST = (1L << 62) - 1;

    public static void main(String[] args) {
        signing();
        wrongKeys();
        goodSignatures();
        edges();
        exactEdges();
        anyPowers();
        DUE.end();
    }

    /** "The signature of an int with a key of the tool": "h & 4294967295 ..., with h as a long" */
    private static void signing() {
        CertificateVault x = new CertificateVault();
        Random random = new Random(1);
        for (int key = 0; key < 6; key++) {
            for (int h : new int[] {0, 1, -1, Integer.MIN_VALUE, Integer.MAX_VALUE, random.nextInt(), random.nextInt()}) {
                DUE.is("sign(" + key + ", " + h + ")", x.sign(key, h), Elements.signature(key, h));
            }
        }
    }

    /** "NONE when there is no such key." */
    private static void wrongKeys() {
        CertificateVault x = new CertificateVault();
        for (int key : new int[] {-1, 6, 7, Integer.MIN_VALUE, Integer.MAX_VALUE}) {
            DUE.is("sign(" + key + ", 5)", x.sign(key, 5), -1);
        }
    }

    /** "Whether a signature is good", "s is less than n", "false when one of the longs is negative" */
    private static void goodSignatures() {
        CertificateVault x = new CertificateVault();
        for (int key = 0; key < 6; key++) {
            long n = Elements.MODULI[key];
            long e = Elements.EXPONENTS[key];
            for (int h : new int[] {0, 7, -7, Integer.MIN_VALUE}) {
                long s = x.sign(key, h);
                DUE.is("good with key " + key, x.good(s, n, e, h), true);
                DUE.is("good of another int", x.good(s, n, e, h + 1), false);
                DUE.is("good of another signature", x.good(s + 1, n, e, h), false);
                DUE.is("good of another exponent", x.good(s, n, e + 2, h), false);
                DUE.is("good of another modulus", x.good(s, n + 2, e, h), false);
                DUE.is("good of a signature not below the modulus", x.good(s + n, n, e, h), false);
                DUE.is("good of a negative signature", x.good(s - n, n, e, h), false);
                DUE.is("good of a negative modulus", x.good(s, -n, e, h), false);
                DUE.is("good of a negative exponent", x.good(s, n, -e, h), false);
            }
        }
    }

    private static BigInteger big(long v) {
        return BigInteger.valueOf(v);
    }

    /** A signature for a modulus near the given one: modulo a prime its maker is easy to find. */
    private static void edge(long near, int step, long e, boolean want) {
        long n = near;
        while (!big(n).isProbablePrime(60) || big(n - 1).gcd(big(e)).intValue() != 1) {
            n += step;
        }
        long root = Elements.block(99).modPow(big(e).modInverse(big(n - 1)), big(n)).longValueExact();
        DUE.is("good(" + root + ", " + n + ", " + e + ", 99)", new CertificateVault().good(root, n, e, 99), want);
    }

    /** "2^57 .. 2^62 - 1", "e is 3 .. 2^31 - 1": primes next to the bounds. */
    private static void edges() {
        long[] exponents = {3, 5, 65537, (1L << 31) - 1};
        for (long e : exponents) {
            edge(LEAST + 1, 2, e, true);
            edge(LEAST - 1, -2, e, false);
            edge(MOST, -2, e, true);
            edge(MOST + 2, 2, e, false);
        }
        edge(MOST, -2, 1, false);
        edge(MOST, -2, (1L << 31) + 1, false);
        edge(MOST, -2, (1L << 31) + 11, false);
        CertificateVault x = new CertificateVault();
        long block = Elements.block(5).longValueExact();
        DUE.is("exponent 1", x.good(block, Elements.MODULI[0], 1, 5), false);
        DUE.is("exponent 0", x.good(block, Elements.MODULI[0], 0, 5), false);
        DUE.is("exponent 2", x.good(block, Elements.MODULI[0], 2, 5), false);
        DUE.is("modulus 0", x.good(0, 0, 3, 5), false);
        DUE.is("modulus 1", x.good(0, 1, 3, 5), false);
        DUE.is("all MAX", x.good(Long.MAX_VALUE, Long.MAX_VALUE, Long.MAX_VALUE, -1), false);
        DUE.is("all MIN", x.good(Long.MIN_VALUE, Long.MIN_VALUE, Long.MIN_VALUE, 0), false);
        evenModuli(x);
    }

    /** A signature for a modulus that is the product of the primes, equal ones side by side. */
    private static void composite(long modulus, long e, boolean want, long... primes) {
        BigInteger product = BigInteger.ONE;
        BigInteger order = BigInteger.ONE;
        long before = 1;
        for (long p : primes) {
            product = product.multiply(big(p));
            order = order.multiply(big(p == before ? p : p - 1));
            before = p;
        }
        DUE.isTrue("the primes of " + modulus, product.equals(big(modulus)));
        long root = Elements.block(99).modPow(big(e).modInverse(order), product).longValueExact();
        DUE.isTrue("a root modulo " + modulus, big(root).modPow(big(e), product).equals(Elements.block(99)));
        DUE.is("good(" + root + ", " + modulus + ", " + e + ", 99)",
            new CertificateVault().good(root, modulus, e, 99), want);
    }

    /** The bounds themselves and the numbers just beyond them, by their factors. */
    private static void exactEdges() {
        composite(MOST, 65537, true, 3, 715827883, 2147483647);
        composite(MOST + 2, 65537, false, 5, 5581, 8681, 49477, 384773);
        composite(LEAST - 1, 65537, false, 7, 32377, 524287, 1212847);
        composite(LEAST + 1, 65537, true, 3, 3, 571, 174763, 160465489);
        evenExponent();
    }

    /** Modulo a prime of 4 k + 3 a square has roots of every power of two. */
    private static void evenExponent() {
        long e = 1L << 31;
        long p = MOST - 4;
        BigInteger half = big((p - 1) / 2);
        while (p % 4 != 3 || !big(p).isProbablePrime(60) || !Elements.block(99).modPow(half, big(p)).equals(BigInteger.ONE)) {
            p--;
            half = big((p - 1) / 2);
        }
        BigInteger root = Elements.block(99).modPow(big(e).modInverse(half), big(p));
        DUE.isTrue("a root of 2^31", root.modPow(big(e), big(p)).equals(Elements.block(99)));
        DUE.is("exponent 2^31", new CertificateVault().good(root.longValueExact(), p, e, 99), false);
        BigInteger two = Elements.block(99).modPow(big(2).modInverse(half), big(p));
        DUE.is("exponent 2", new CertificateVault().good(two.longValueExact(), p, 2, 99), false);
        BigInteger four = Elements.block(99).modPow(big(4).modInverse(half), big(p));
        DUE.is("exponent 4", new CertificateVault().good(four.longValueExact(), p, 4, 99), true);
    }

    /** A root modulo a prime, made even as the block is, is a root modulo twice the prime too. */
    private static void evenModuli(CertificateVault x) {
        int even = 0;
        long p = (1L << 58) + 1;
        for (int found = 0; found < 20; p += 2) {
            if (big(p).isProbablePrime(40) && p % 3 == 2) {
                found++;
                long s = Elements.block(8).modPow(big(3).modInverse(big(p - 1)), big(p)).longValueExact();
                long lifted = s % 2 == 0 ? s : s + p;
                long n = 2 * p;
                even += big(lifted).modPow(big(3), big(n)).equals(Elements.block(8)) ? 1 : 0;
                DUE.is("an even modulus " + n, x.good(lifted, n, 3, 8), false);
            }
        }
        DUE.is("even moduli for which only the evenness is wrong", even, 20);
    }

    /** The next prime at or behind an odd number, or before it, with a random exponent. */
    private static void anyPower(Random random, long start, int step) {
        long p = start;
        long e = 3 + random.nextInt(Integer.MAX_VALUE - 2);
        while (!big(p).isProbablePrime(30) || big(p - 1).gcd(big(e)).intValue() != 1) {
            p += step;
            e = 3 + random.nextInt(Integer.MAX_VALUE - 2);
        }
        DUE.isTrue("a modulus in bounds", p >= LEAST && p <= MOST);
        CertificateVault x = new CertificateVault();
        int h = random.nextInt();
        long s = Elements.block(h).modPow(big(e).modInverse(big(p - 1)), big(p)).longValueExact();
        DUE.is("good(" + s + ", " + p + ", " + e + ", " + h + ")", x.good(s, p, e, h), true);
        DUE.is("a wrong signature", x.good(s == 0 ? 1 : s - 1, p, e, h), false);
    }

    /** Moduli of every size, and those next to a multiple of 2^31, where halves carry the most or the least. */
    private static void anyPowers() {
        Random random = new Random(2);
        for (int k = 0; k < 1000; k++) {
            int bits = 57 + random.nextInt(5);
            anyPower(random, 1L << bits | random.nextLong() & (1L << bits) - 1 | 1, bits < 61 ? 2 : -2);
        }
        for (int k = 0; k < 500; k++) {
            int bits = 26 + random.nextInt(5);
            long half = 1L << bits | random.nextLong() & (1L << bits) - 1;
            anyPower(random, half << 31 | 1, 2);
            anyPower(random, (half + 1 << 31) - 1, -2);
            anyPower(random, (1L << 62) - ((1 + random.nextLong(1000)) << 31) + 1, 2);
        }
    }
}
