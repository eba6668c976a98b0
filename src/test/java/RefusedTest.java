import java.util.ArrayList;
import java.util.Arrays;
import java.util.LinkedHashMap;
import java.util.List;
import java.util.Map;
import java.util.function.Function;
import java.util.function.Supplier;

/**
 * "A call that is refused changes nothing." Each refused call is made on an object of each state, and
 * all that later calls show is compared with what they show on an object without that call. So are
 * the calls that only answer.
 */
public final class RefusedTest extends Maker {
    private static final Due DUE = new Due("RefusedTest");

    private static final Map<String, Supplier<CertificateVault>> STATES = new LinkedHashMap<>();
    private static final Map<String, Function<CertificateVault, List<Long>>> SHOWN = new LinkedHashMap<>();
    private static final Map<String, List<Long>> DUE_TO_SHOW = new LinkedHashMap<>();

    public static void main(String[] args) {
        STATES.put("a new object", CertificateVault::new);
        STATES.put("a used object", RefusedTest::used);
        STATES.put("nothing found", RefusedTest::nothingFound);
        STATES.put("a full draft", RefusedTest::fullDraft);
        STATES.put("a full store", RefusedTest::fullStore);
        SHOWN.put("the draft", RefusedTest::draft);
        SHOWN.put("the latest validate", RefusedTest::latest);
        SHOWN.put("the store", RefusedTest::store);
        SHOWN.put("the template", RefusedTest::template);
        SHOWN.put("the serials to be revoked", RefusedTest::revoked);
        SHOWN.put("what comes next", RefusedTest::next);
        for (String state : STATES.keySet()) {
            SHOWN.forEach((what, look) -> DUE_TO_SHOW.put(state + what, look.apply(STATES.get(state).get())));
        }
        statesDiffer();
        puts();
        pokes();
        sets();
        revokes();
        stores();
        validates();
        numbers();
        questions();
        DUE.end();
    }

    private static CertificateVault used() {
        CertificateVault x = new CertificateVault();
        make(x, 0, "q>q", 5, 5);
        make(x, 0, "r>r", 0, 0);
        make(x, 1, "r>m", 1, 0, BASIC, 1);
        make(x, 1, "m>t", 2, 1);
        makeList(x, "r", 0, 0, 900, 5, 6, 7, 8);
        make(x, 3, "ab>cd", 4, 3, SERIAL, 300, FROM, 20, TO, 40, BASIC, 1, REACH, 4, USAGE, 5, ALLOWED, name("e"),
            BARRED, name("f.e"), STRANGE, 1);
        x.validate(3, 30, 5, false);
        x.put(9);
        return x;
    }

    private static CertificateVault nothingFound() {
        CertificateVault x = used();
        x.validate(3, 30, 5, true);
        x.clear();
        return x;
    }

    private static CertificateVault fullDraft() {
        CertificateVault x = new CertificateVault();
        x.compose();
        x.store(1);
        for (int k = 43; k < 200; k++) {
            x.put(k);
        }
        return x;
    }

    private static CertificateVault fullStore() {
        CertificateVault x = new CertificateVault();
        for (int k = 0; k < 12; k++) {
            x.set(SERIAL, 50 + k);
            x.compose();
            x.store(k == 7 ? 0 : 1);
        }
        for (int k = 0; k < 6; k++) {
            x.revoke(k, 10 * k);
            x.composeList();
            x.store(2);
        }
        x.set(SERIAL, 99);
        x.compose();
        x.validate(3, 5, 2, false);
        return x;
    }

    private static List<Long> draft(CertificateVault x) {
        List<Long> shown = new ArrayList<>();
        for (int k = -2; k <= 200; k++) {
            shown.add((long) x.at(k));
        }
        shown.add((long) x.check(true));
        shown.add((long) x.check(false));
        return shown;
    }

    private static List<Long> latest(CertificateVault x) {
        List<Long> shown = new ArrayList<>();
        for (int k = -1; k <= 6; k++) {
            shown.add((long) x.chain(k));
        }
        shown.add((long) x.candidates());
        return shown;
    }

    private static List<Long> store(CertificateVault x) {
        List<Long> shown = new ArrayList<>();
        for (int c = 0; c <= 12; c++) {
            for (int what = 0; what <= 14; what++) {
                shown.add(x.certificate(c, what));
            }
        }
        for (int l = 0; l <= 6; l++) {
            for (int what = 0; what <= 5; what++) {
                shown.add(x.list(l, what));
            }
        }
        return shown;
    }

    private static List<Long> template(CertificateVault x) {
        List<Long> shown = new ArrayList<>();
        shown.add((long) x.compose());
        shown.addAll(draft(x));
        return shown;
    }

    private static List<Long> revoked(CertificateVault x) {
        List<Long> shown = new ArrayList<>();
        shown.add((long) x.composeList());
        shown.addAll(draft(x));
        return shown;
    }

    /** A fifth serial, numbers of what is stored, searches through all of it. */
    private static List<Long> next(CertificateVault x) {
        List<Long> shown = new ArrayList<>();
        shown.add(x.revoke(1, 1) ? 1L : 0);
        shown.add(x.put(5) ? 1L : 0);
        shown.add((long) x.compose());
        shown.add((long) x.store(0));
        shown.add((long) x.composeList());
        shown.add((long) x.store(2));
        for (int c = 0; c < 12; c++) {
            for (int depth = 1; depth <= 5; depth += 2) {
                shown.add((long) x.validate(c, 25, depth, false));
                shown.add((long) x.candidates());
                shown.add((long) x.validate(c, 25, depth, true));
            }
        }
        return shown;
    }

    /** If two states showed the same, the test would say less than it seems to. */
    private static void statesDiffer() {
        DUE.is("states that differ", new java.util.HashSet<>(DUE_TO_SHOW.values()).size() > 12, true);
        DUE.is("the used object has a chain", used().chain(2), 3);
        DUE.is("nothing was found", nothingFound().chain(0), -1);
        DUE.is("but one was looked at", nothingFound().candidates(), 1);
        DUE.is("the full draft", fullDraft().at(-1), 200);
        DUE.is("the full store has a last one", fullStore().certificate(11, 0), 61);
        DUE.is("the full store has a chain", fullStore().chain(0), 7);
    }

    private static void refused(String call, Function<CertificateVault, Object> made, Object answer, String... states) {
        for (String state : states) {
            SHOWN.forEach((what, look) -> {
                CertificateVault x = STATES.get(state).get();
                Object got = made.apply(x);
                DUE.isTrue(state + ": " + call + " answered " + got, got.equals(answer));
                DUE.isTrue(state + ": " + what + " after " + call, look.apply(x).equals(DUE_TO_SHOW.get(state + what)));
            });
        }
    }

    private static void everywhere(String call, Function<CertificateVault, Object> made, Object answer) {
        refused(call, made, answer, STATES.keySet().toArray(new String[0]));
    }

    private static void puts() {
        for (int b : new int[] {-1, 256, 257, 511, -255, -256, Integer.MIN_VALUE, Integer.MAX_VALUE}) {
            everywhere("put(" + b + ")", x -> x.put(b), false);
        }
        for (int b : new int[] {0, 7, 255}) {
            refused("put(" + b + ")", x -> x.put(b), false, "a full draft");
        }
    }

    private static void pokes() {
        for (int b : new int[] {-1, 256, Integer.MIN_VALUE, Integer.MAX_VALUE}) {
            everywhere("poke(0, " + b + ")", x -> x.poke(0, b), false);
            everywhere("poke at the last byte of " + b, x -> x.poke(x.at(-1) - 1, b), false);
        }
        for (int k : new int[] {-1, -2, 200, 201, 256, Integer.MIN_VALUE, Integer.MAX_VALUE}) {
            everywhere("poke(" + k + ", 5)", x -> x.poke(k, 5), false);
        }
        everywhere("poke behind the last byte", x -> x.poke(x.at(-1), 5), false);
        refused("poke(0, 5)", x -> x.poke(0, 5), false, "a new object", "nothing found");
    }

    private static void sets() {
        long[][] wrong = {{-1, Long.MIN_VALUE}, {0, -1, 27, 28, 32, 1L << 40, 1L << 40 | 1, 865}, {-1, Long.MIN_VALUE},
            {-1, Long.MIN_VALUE}, {0, -1, 27, 28, 32, 1L << 40, 1L << 40 | 1, 865}, {-1, 6, 1L << 32},
            {-2, 2, 1L << 32 | 1}, {-2, 10, 1L << 32}, {-2, 0, 8, 1L << 32 | 1}, {-1, 27, 28, 1L << 40 | 1},
            {-1, 27, 28, 1L << 40 | 1}, {-1, 3, 1L << 32}, {-1, 6, 1L << 32}};
        for (int field = 0; field < wrong.length; field++) {
            for (long v : wrong[field]) {
                int f = field;
                everywhere("set(" + f + ", " + v + ")", x -> x.set(f, v), false);
            }
        }
        for (int field : new int[] {-1, 13, 14, 256, Integer.MIN_VALUE, Integer.MAX_VALUE}) {
            everywhere("set(" + field + ", 1)", x -> x.set(field, 1), false);
        }
    }

    private static void revokes() {
        everywhere("revoke(-1, 0)", x -> x.revoke(-1, 0), false);
        everywhere("revoke(0, -1)", x -> x.revoke(0, -1), false);
        everywhere("revoke(MIN, 5)", x -> x.revoke(Long.MIN_VALUE, 5), false);
        everywhere("revoke(5, MIN)", x -> x.revoke(5, Long.MIN_VALUE), false);
        everywhere("revoke(-1, -1)", x -> x.revoke(-1, -1), false);
        refused("a fifth revoke(5, 5)", x -> x.revoke(5, 5), false, "a full store");
        refused("a fifth revoke(0, 0)", x -> x.revoke(0, 0), false, "a full store");
    }

    private static void stores() {
        for (int kind : new int[] {-1, 3, 4, -2, Integer.MIN_VALUE, Integer.MAX_VALUE}) {
            everywhere("store(" + kind + ")", x -> x.store(kind), -1);
        }
        for (int kind : new int[] {0, 1, 2}) {
            refused("store(" + kind + ") of a fault", x -> x.store(kind), -2,
                "a new object", "a used object", "nothing found", "a full draft");
            refused("store(" + kind + ") without room", x -> x.store(kind), -1, "a full store");
        }
    }

    private static void validates() {
        for (int target : new int[] {-1, 12, 13, Integer.MIN_VALUE, Integer.MAX_VALUE}) {
            everywhere("validate(" + target + ", 30, 5, false)", x -> x.validate(target, 30, 5, false), -1);
        }
        refused("validate(0, 30, 5, false)", x -> x.validate(0, 30, 5, false), -1, "a new object");
        refused("validate(4, 30, 5, true)", x -> x.validate(4, 30, 5, true), -1, "a used object", "nothing found");
        for (long time : new long[] {-1, Long.MIN_VALUE}) {
            everywhere("validate(0, " + time + ", 5, false)", x -> x.validate(0, time, 5, false), -1);
        }
        for (int depth : new int[] {0, -1, 6, 7, Integer.MIN_VALUE, Integer.MAX_VALUE}) {
            everywhere("validate(0, 30, " + depth + ", true)", x -> x.validate(0, 30, depth, true), -1);
        }
    }

    private static void numbers() {
        for (int key : new int[] {-1, 6, Integer.MIN_VALUE, Integer.MAX_VALUE}) {
            everywhere("sign(" + key + ", 5)", x -> x.sign(key, 5), -1L);
        }
        long n = Elements.MODULI[0];
        everywhere("good of a negative signature", x -> x.good(-1, n, 3, 5), false);
        everywhere("good of a negative modulus", x -> x.good(1, -n, 3, 5), false);
        everywhere("good of a negative exponent", x -> x.good(1, n, -3, 5), false);
        everywhere("sign(1, 5)", x -> x.sign(1, 5), Elements.signature(1, 5));
        everywhere("good(5)", x -> x.good(Elements.signature(0, 5), n, 3, 5), true);
    }

    /** What is asked in vain, and what only answers. */
    private static void questions() {
        for (int k : new int[] {-2, 200, Integer.MIN_VALUE, Integer.MAX_VALUE}) {
            everywhere("at(" + k + ")", x -> x.at(k), -1);
            everywhere("chain(" + k + ")", x -> x.chain(k), -1);
            everywhere("certificate(" + k + ", 0)", x -> x.certificate(k, 0), -1L);
            everywhere("list(" + k + ", 0)", x -> x.list(k, 0), -1L);
        }
        for (int what : new int[] {-1, 15, Integer.MIN_VALUE, Integer.MAX_VALUE}) {
            everywhere("certificate(0, " + what + ")", x -> x.certificate(0, what), -1L);
            everywhere("list(0, " + what + ")", x -> x.list(0, what), -1L);
        }
        everywhere("list(0, 6)", x -> x.list(0, 6), -1L);
        everywhere("at(0)", x -> x.at(0) == x.at(0), true);
        everywhere("at(-1)", x -> x.at(-1) == x.at(-1), true);
        everywhere("check", x -> Arrays.asList(x.check(true), x.check(false)).size(), 2);
        everywhere("candidates()", x -> x.candidates() < 0, false);
        for (int what = 0; what <= 14; what++) {
            int w = what;
            everywhere("certificate(0, " + what + ")", x -> x.certificate(0, w) == x.certificate(0, w), true);
            everywhere("list(0, " + what + ")", x -> x.list(0, w) == x.list(0, w), true);
        }
        everywhere("all that the latest validate shows", x -> latest(x).get(0), -1L);
    }
}
