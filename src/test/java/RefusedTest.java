import java.util.Arrays;
import java.util.function.Function;

/**
 * "A call that is refused changes nothing." Each refused call is made on an object of each state, and
 * all that later calls show is compared with what they show on an object without that call. So are
 * the calls that only answer, and of the others all that they must leave alone.
 */
public final class RefusedTest extends Shown {
    private static final Due DUE = new Due("RefusedTest");

    public static void main(String[] args) {
        statesDiffer();
        puts();
        pokes();
        sets();
        revokes();
        stores();
        validates();
        numbers();
        questions();
        callsThatChangeTheDraft();
        callsThatChangeTheTool();
        callsThatChangeStoreOrSearch();
        DUE.end();
    }

    private static void statesDiffer() {
        DUE.is("the used object has a chain", used().chain(2), 3);
        DUE.is("nothing was found", nothingFound().chain(0), -1);
        DUE.is("but one was looked at", nothingFound().candidates(), 1);
        DUE.is("the full draft", fullDraft().at(-1), 200);
        DUE.is("the full store has a last one", fullStore().certificate(11, 0), 61);
        DUE.is("the full store has a chain", fullStore().chain(0), 7);
    }

    private static void unchanged(String call, Function<CertificateVault, Object> made, Object answer, String state,
            String what) {
        CertificateVault x = STATES.get(state).get();
        Object got = made.apply(x);
        DUE.isTrue(state + ": " + call + " answered " + got, got.equals(answer));
        DUE.isTrue(state + ": " + what + " after " + call, LOOKS.get(what).apply(x).equals(dueToShow(state, what)));
    }

    private static void refused(String call, Function<CertificateVault, Object> made, Object answer, String... states) {
        for (String state : states) {
            for (String what : LOOKS.keySet()) {
                unchanged(call, made, answer, state, what);
            }
        }
    }

    private static void leaves(String call, Function<CertificateVault, Object> made, Object answer, String state,
            String... whats) {
        for (String what : whats) {
            unchanged(call, made, answer, state, what);
        }
    }

    private static void everywhere(String call, Function<CertificateVault, Object> made, Object answer) {
        refused(call, made, answer, STATES.keySet().toArray(new String[0]));
    }

    private static void puts() {
        for (int b : new int[] {-1, 256, 257, 511, -255, -256, Integer.MIN_VALUE, Integer.MAX_VALUE}) {
            everywhere("put(" + b + ")", x -> x.put(b), false);
        }
        for (int b : new int[] {0, 7, 255}) {
            refused("put(" + b + ")", x -> x.put(b), false, FULL_DRAFT);
        }
    }

    private static void pokes() {
        for (int b : new int[] {-1, 256, Integer.MIN_VALUE, Integer.MAX_VALUE}) {
            everywhere("poke(0, " + b + ")", x -> x.poke(0, b), false);
            everywhere("poke at the last byte of " + b, x -> x.poke(x.at(-1) - 1, b), false);
        }
        for (int k : new int[] {-1, -2, 200, 201, 256, Integer.MIN_VALUE, Integer.MAX_VALUE}) {
            everywhere("poke(" + k + ", 5)", x -> x.poke(k, 5), false);
        }
        everywhere("poke behind the last byte", x -> x.poke(x.at(-1), 5), false);
        refused("poke(0, 5)", x -> x.poke(0, 5), false, NEW, NOTHING_FOUND);
    }

    private static void sets() {
        long[][] wrong = {{-1, Long.MIN_VALUE}, {0, -1, 27, 28, 32, 1L << 40, 1L << 40 | 1, 865}, {-1, Long.MIN_VALUE},
            {-1, Long.MIN_VALUE}, {0, -1, 27, 28, 32, 1L << 40, 1L << 40 | 1, 865}, {-1, 6, 1L << 32},
            {-2, 2, 1L << 32 | 1}, {-2, 10, 1L << 32}, {-2, 0, 8, 1L << 32 | 1}, {-1, 27, 28, 1L << 40 | 1},
            {-1, 27, 28, 1L << 40 | 1}, {-1, 3, 1L << 32}, {-1, 6, 1L << 32}};
        for (int field = 0; field < wrong.length; field++) {
            for (long v : wrong[field]) {
                int f = field;
                everywhere("set(" + f + ", " + v + ")", x -> x.set(f, v), false);
            }
        }
        for (int field : new int[] {-1, 13, 14, 256, Integer.MIN_VALUE, Integer.MAX_VALUE}) {
            everywhere("set(" + field + ", 1)", x -> x.set(field, 1), false);
        }
    }

    private static void revokes() {
        everywhere("revoke(-1, 0)", x -> x.revoke(-1, 0), false);
        everywhere("revoke(0, -1)", x -> x.revoke(0, -1), false);
        everywhere("revoke(MIN, 5)", x -> x.revoke(Long.MIN_VALUE, 5), false);
        everywhere("revoke(5, MIN)", x -> x.revoke(5, Long.MIN_VALUE), false);
        everywhere("revoke(-1, -1)", x -> x.revoke(-1, -1), false);
        refused("a fifth revoke(5, 5)", x -> x.revoke(5, 5), false, FULL_STORE);
        refused("a fifth revoke(0, 0)", x -> x.revoke(0, 0), false, FULL_STORE);
    }

    private static void stores() {
        for (int kind : new int[] {-1, 3, 4, -2, Integer.MIN_VALUE, Integer.MAX_VALUE}) {
            everywhere("store(" + kind + ")", x -> x.store(kind), -1);
        }
        for (int kind : new int[] {0, 1, 2}) {
            refused("store(" + kind + ") of a fault", x -> x.store(kind), -2,
                NEW, USED, NOTHING_FOUND, FULL_DRAFT);
            refused("store(" + kind + ") without room", x -> x.store(kind), -1, FULL_STORE);
        }
    }

    private static void validates() {
        for (int target : new int[] {-1, 12, 13, Integer.MIN_VALUE, Integer.MAX_VALUE}) {
            everywhere("validate(" + target + ", 30, 5, false)", x -> x.validate(target, 30, 5, false), -1);
        }
        refused("validate(0, 30, 5, false)", x -> x.validate(0, 30, 5, false), -1, NEW);
        refused("validate(4, 30, 5, true)", x -> x.validate(4, 30, 5, true), -1, USED, NOTHING_FOUND);
        for (long time : new long[] {-1, Long.MIN_VALUE}) {
            everywhere("validate(0, " + time + ", 5, false)", x -> x.validate(0, time, 5, false), -1);
        }
        for (int depth : new int[] {0, -1, 6, 7, Integer.MIN_VALUE, Integer.MAX_VALUE}) {
            everywhere("validate(0, 30, " + depth + ", true)", x -> x.validate(0, 30, depth, true), -1);
        }
    }

    private static void numbers() {
        for (int key : new int[] {-1, 6, Integer.MIN_VALUE, Integer.MAX_VALUE}) {
            everywhere("sign(" + key + ", 5)", x -> x.sign(key, 5), -1L);
        }
        long n = Elements.MODULI[0];
        everywhere("good of a negative signature", x -> x.good(-1, n, 3, 5), false);
        everywhere("good of a negative modulus", x -> x.good(1, -n, 3, 5), false);
        everywhere("good of a negative exponent", x -> x.good(1, n, -3, 5), false);
        everywhere("sign(1, 5)", x -> x.sign(1, 5), Elements.signature(1, 5));
        everywhere("good(5)", x -> x.good(Elements.signature(0, 5), n, 3, 5), true);
    }

    /** What is asked in vain, and what only answers. */
    private static void questions() {
        for (int k : new int[] {-2, 200, Integer.MIN_VALUE, Integer.MAX_VALUE}) {
            everywhere("at(" + k + ")", x -> x.at(k), -1);
            everywhere("chain(" + k + ")", x -> x.chain(k), -1);
            everywhere("certificate(" + k + ", 0)", x -> x.certificate(k, 0), -1L);
            everywhere("list(" + k + ", 0)", x -> x.list(k, 0), -1L);
        }
        for (int what : new int[] {-1, 15, Integer.MIN_VALUE, Integer.MAX_VALUE}) {
            everywhere("certificate(0, " + what + ")", x -> x.certificate(0, what), -1L);
            everywhere("list(0, " + what + ")", x -> x.list(0, what), -1L);
        }
        everywhere("list(0, 6)", x -> x.list(0, 6), -1L);
        everywhere("at(0)", x -> x.at(0) == x.at(0), true);
        everywhere("at(-1)", x -> x.at(-1) == x.at(-1), true);
        everywhere("check", x -> Arrays.asList(x.check(true), x.check(false)).size(), 2);
        everywhere("candidates()", x -> x.candidates() < 0, false);
        for (int what = 0; what <= 14; what++) {
            int w = what;
            everywhere("certificate(0, " + what + ")", x -> x.certificate(0, w) == x.certificate(0, w), true);
            everywhere("list(0, " + what + ")", x -> x.list(0, w) == x.list(0, w), true);
        }
        everywhere("all that the latest validate shows", x -> latest(x).get(0), -1L);
    }

    private static void callsThatChangeTheDraft() {
        for (String state : STATES.keySet()) {
            leaves("clear()", x -> {
                x.clear();
                return x.at(-1);
            }, 0, state, LATEST, STORE, TEMPLATE, REVOKED);
            String[] others = {LATEST, STORE, TEMPLATE, REVOKED, NEXT};
            leaves("compose()", x -> x.compose() > 40, true, state, LATEST, STORE, TEMPLATE, REVOKED);
            leaves("composeList()", x -> x.composeList() > 20, true, state, LATEST, STORE, TEMPLATE, REVOKED);
            if (!state.equals(FULL_DRAFT)) {
                leaves("put(7)", x -> x.put(7), true, state, others);
                leaves("compose()", x -> x.compose() > 40, true, state, others);
                leaves("composeList()", x -> x.composeList() > 20, true, state, others);
            }
            if (!state.equals(NEW) && !state.equals(NOTHING_FOUND)) {
                leaves("poke(0, 7)", x -> x.poke(0, 7), true, state, others);
            }
        }
    }

    private static void callsThatChangeTheTool() {
        long[] right = {7, 7, 7, 7, 7, 2, 0, 7, 7, 7, 7, 2, 2};
        for (String state : STATES.keySet()) {
            for (int field = 0; field < right.length; field++) {
                int f = field;
                boolean ofLists = f == 1 || f == 2 || f == 3 || f == 12;
                leaves("set(" + f + ", " + right[f] + ")", x -> x.set(f, right[f]), true, state, DRAFT, LATEST, STORE);
                if (!ofLists) {
                    leaves("set(" + f + ", " + right[f] + ")", x -> x.set(f, right[f]), true, state, REVOKED);
                }
            }
            leaves("forgive()", x -> {
                x.forgive();
                return x.at(-2);
            }, -1, state, DRAFT, LATEST, STORE, TEMPLATE);
            if (!state.equals(FULL_STORE)) {
                leaves("revoke(7, 8)", x -> x.revoke(7, 8), true, state, DRAFT, LATEST, STORE, TEMPLATE);
            }
        }
    }

    private static void callsThatChangeStoreOrSearch() {
        for (String state : new String[] {USED, NOTHING_FOUND, FULL_STORE, FULL_DRAFT}) {
            leaves("validate(0, 5, 1, false)", x -> x.validate(0, 5, 1, false) >= 0, true, state,
                DRAFT, STORE, TEMPLATE, REVOKED, NEXT);
        }
        for (int kind = 0; kind <= 2; kind++) {
            int k = kind;
            CertificateVault x = used();
            x.put(5);
            long size = k == 2 ? x.composeList() : x.compose();
            Object before = draft(x);
            DUE.is("store(" + k + ")", x.store(k), k == 2 ? 1 : 4);
            DUE.isTrue("the draft of " + size + " after store(" + k + ")", draft(x).equals(before));
            leaves("compose and store(" + k + ")", y -> {
                int size2 = k == 2 ? y.composeList() : y.compose();
                return size2 > 0 && y.store(k) > 0;
            }, true, USED, LATEST, TEMPLATE, REVOKED);
        }
    }
}
