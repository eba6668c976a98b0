import java.util.LinkedHashMap;
import java.util.Map;
import java.util.function.ToLongFunction;

/** "An object is used for at most 512 calls after it has been made": the 512th answers as the others do. */
public final class CallsTest extends Maker {
    private static final Due DUE = new Due("CallsTest");
    private static final int MOST_CALLS = 512;

    private static final Map<String, ToLongFunction<CertificateVault>> CALLS = new LinkedHashMap<>();

    public static void main(String[] args) {
        nameCalls();
        everyCallAsTheLast();
        bytesPutAndPoked();
        searchesOfFortyCandidates();
        composedAndChecked();
        revokedAndForgiven();
        storedUntilTheLastCall();
        objectsApart();
        DUE.end();
    }

    private static long number(boolean answer) {
        return answer ? 1 : 0;
    }

    private static void nameCalls() {
        CALLS.put("put", x -> number(x.put(48)));
        CALLS.put("poke", x -> number(x.poke(0, 49)));
        CALLS.put("clear", x -> {
            x.clear();
            return 0;
        });
        CALLS.put("at", x -> x.at(-1));
        CALLS.put("set", x -> number(x.set(0, 300)));
        CALLS.put("revoke", x -> number(x.revoke(5, 6)));
        CALLS.put("forgive", x -> {
            x.forgive();
            return 0;
        });
        CALLS.put("compose", x -> x.compose());
        CALLS.put("composeList", x -> x.composeList());
        CALLS.put("check(true)", x -> x.check(true));
        CALLS.put("check(false)", x -> x.check(false));
        CALLS.put("store(0)", x -> x.store(0));
        CALLS.put("store(1)", x -> x.store(1));
        CALLS.put("store(2)", x -> x.store(2));
        CALLS.put("certificate", x -> x.certificate(0, 0));
        CALLS.put("list", x -> x.list(0, 3));
        CALLS.put("validate", x -> x.validate(0, 5, 5, true));
        CALLS.put("chain", x -> x.chain(0));
        CALLS.put("candidates", x -> x.candidates());
        CALLS.put("sign", x -> x.sign(3, -9));
        CALLS.put("good", x -> number(x.good(Elements.signature(3, -9), Elements.MODULI[3], 65537, -9)));
    }

    private static CertificateVault filled(ToLongFunction<CertificateVault> call, int calls) {
        CertificateVault x = new CertificateVault();
        x.compose();
        x.store(0);
        for (int k = 2; k < calls; k++) {
            call.applyAsLong(x);
        }
        return x;
    }

    /** What one call changes it has changed after 300 times: the last answer is the same after 511. */
    private static void everyCallAsTheLast() {
        CALLS.forEach((first, many) -> CALLS.forEach((second, last) -> {
            long soon = last.applyAsLong(filled(many, 300));
            DUE.is(second + " after " + first, last.applyAsLong(filled(many, MOST_CALLS - 1)), soon);
        }));
    }

    private static void bytesPutAndPoked() {
        CertificateVault x = new CertificateVault();
        for (int k = 0; k < 300; k++) {
            DUE.is("put " + k, x.put(k % 256), k < 200);
        }
        for (int k = 0; k < 200; k++) {
            DUE.is("poke " + k, x.poke(k, 255 - k), true);
        }
        for (int k = 0; k < 11; k++) {
            DUE.is("at(" + 19 * k + ")", x.at(19 * k), 255 - 19 * k);
        }
        DUE.is("the last call", x.at(-1), 200);
    }

    /** The store is full and every search has forty candidates, none of which holds. */
    private static void searchesOfFortyCandidates() {
        CertificateVault x = new CertificateVault();
        x.set(BASIC, 1);
        x.compose();
        for (int c = 0; c < 12; c++) {
            DUE.is("store", x.store(c == 0 ? 0 : 1), c);
        }
        x.composeList();
        for (int l = 0; l < 6; l++) {
            DUE.is("store(2)", x.store(2), l);
        }
        for (int calls = 21; calls < MOST_CALLS - 1; calls++) {
            DUE.is("validate", x.validate(1 + calls % 11, 2000, 5, calls % 2 == 0), -12);
        }
        DUE.is("candidates()", x.candidates(), 40);
    }

    private static void composedAndChecked() {
        CertificateVault x = new CertificateVault();
        for (int round = 0; round < 128; round++) {
            DUE.is("set", x.set(SERIAL, round % 128), true);
            DUE.is("compose()", x.compose(), Elements.signed(0, Elements.body(round, "a", "a", 0)).length);
            DUE.is("check(true)", x.check(true), 0);
            DUE.is("the serial", x.at(6), round);
        }
    }

    private static void revokedAndForgiven() {
        CertificateVault x = new CertificateVault();
        for (int round = 0; round < 73; round++) {
            for (int k = 0; k < 5; k++) {
                DUE.is("revoke " + k, x.revoke(k, k), k < 4);
            }
            DUE.is("composeList() of four", x.composeList(), 26 + 4 * 8);
            x.forgive();
        }
        DUE.is("composeList() of none", x.composeList(), 26);
    }

    private static void storedUntilTheLastCall() {
        CertificateVault x = new CertificateVault();
        x.compose();
        for (int k = 0; k < 255; k++) {
            DUE.is("store(1) " + k, x.store(1), k < 12 ? k : -1);
        }
        x.composeList();
        for (int k = 0; k < 254; k++) {
            DUE.is("store(2) " + k, x.store(2), k < 6 ? k : -1);
        }
        DUE.is("the last call", x.list(5, 0), 1);
    }

    /** What is done to one object another one does not show. */
    private static void objectsApart() {
        CertificateVault x = new CertificateVault();
        CertificateVault y = new CertificateVault();
        make(x, 0, "r>r", 3, 3, BASIC, 1, USAGE, 7, ALLOWED, 1, BARRED, 2, STRANGE, 2);
        make(x, 1, "r>t", 2, 3);
        makeList(x, "r", 3, 1, 2, 3, 4);
        x.validate(1, 5, 2, false);
        DUE.is("at(-1)", y.at(-1), 0);
        DUE.is("certificate(0, 0)", y.certificate(0, 0), -1);
        DUE.is("list(0, 0)", y.list(0, 0), -1);
        DUE.is("candidates()", y.candidates(), 0);
        DUE.is("chain(0)", y.chain(0), -1);
        DUE.is("compose()", y.compose(), 43);
        DUE.is("the certificate", Elements.draft(y), Elements.signed(0, Elements.body(1, "a", "a", 0)));
        DUE.is("composeList()", y.composeList(), 26);
        DUE.is("x.at(-1)", x.at(-1), 33);
        DUE.is("x.chain(1)", x.chain(1), 1);
        CertificateVault z = new CertificateVault();
        z.compose();
        DUE.is("a third one", Elements.draft(z), Elements.signed(0, Elements.body(1, "a", "a", 0)));
    }
}
