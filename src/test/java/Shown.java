import java.util.ArrayList;
import java.util.LinkedHashMap;
import java.util.List;
import java.util.Map;
import java.util.function.Function;
import java.util.function.Supplier;

/** Objects in five states, and all that later calls show of one; for tests that extend it. */
abstract class Shown extends Maker {
    static final String NEW = "a new object";
    static final String USED = "a used object";
    static final String NOTHING_FOUND = "nothing found";
    static final String FULL_DRAFT = "a full draft";
    static final String FULL_STORE = "a full store";

    static final String DRAFT = "the draft";
    static final String LATEST = "the latest validate";
    static final String STORE = "the store";
    static final String TEMPLATE = "the template";
    static final String REVOKED = "the serials to be revoked";
    static final String NEXT = "what comes next";

    static final Map<String, Supplier<CertificateVault>> STATES = new LinkedHashMap<>();
    static final Map<String, Function<CertificateVault, List<Long>>> LOOKS = new LinkedHashMap<>();
    private static final Map<String, List<Long>> DUE_TO_SHOW = new LinkedHashMap<>();

    static {
        STATES.put(NEW, CertificateVault::new);
        STATES.put(USED, Shown::used);
        STATES.put(NOTHING_FOUND, Shown::nothingFound);
        STATES.put(FULL_DRAFT, Shown::fullDraft);
        STATES.put(FULL_STORE, Shown::fullStore);
        LOOKS.put(DRAFT, Shown::draft);
        LOOKS.put(LATEST, Shown::latest);
        LOOKS.put(STORE, Shown::store);
        LOOKS.put(TEMPLATE, Shown::template);
        LOOKS.put(REVOKED, Shown::revoked);
        LOOKS.put(NEXT, Shown::next);
        for (String state : STATES.keySet()) {
            LOOKS.forEach((what, look) -> DUE_TO_SHOW.put(state + what, look.apply(STATES.get(state).get())));
        }
    }

    /** What an object of that state shows when nothing more is done to it. */
    static List<Long> dueToShow(String state, String what) {
        return DUE_TO_SHOW.get(state + what);
    }

    static CertificateVault used() {
        CertificateVault x = new CertificateVault();
        make(x, 0, "q>q", 5, 5);
        make(x, 0, "r>r", 0, 0);
        make(x, 1, "r>m", 1, 0, BASIC, 1);
        make(x, 1, "m>t", 2, 1);
        makeList(x, "r", 0, 0, 900, 5, 6, 7, 8);
        make(x, 3, "ab>cd", 4, 3, SERIAL, 300, FROM, 20, TO, 40, BASIC, 1, REACH, 4, USAGE, 5, ALLOWED, name("e"),
            BARRED, name("f.e"), STRANGE, 1);
        x.validate(3, 30, 5, false);
        x.put(9);
        return x;
    }

    static CertificateVault nothingFound() {
        CertificateVault x = used();
        x.validate(3, 30, 5, true);
        x.clear();
        return x;
    }

    static CertificateVault fullDraft() {
        CertificateVault x = new CertificateVault();
        x.compose();
        x.store(1);
        for (int k = 43; k < 200; k++) {
            x.put(k);
        }
        return x;
    }

    static CertificateVault fullStore() {
        CertificateVault x = new CertificateVault();
        for (int k = 0; k < 12; k++) {
            x.set(SERIAL, 50 + k);
            x.compose();
            x.store(k == 7 ? 0 : 1);
        }
        for (int k = 0; k < 6; k++) {
            x.revoke(k, 10 * k);
            x.composeList();
            x.store(2);
        }
        x.set(SERIAL, 99);
        x.compose();
        x.validate(3, 5, 2, false);
        return x;
    }

    static List<Long> draft(CertificateVault x) {
        List<Long> shown = new ArrayList<>();
        for (int k = -2; k <= 200; k++) {
            shown.add((long) x.at(k));
        }
        shown.add((long) x.check(true));
        shown.add((long) x.check(false));
        return shown;
    }

    static List<Long> latest(CertificateVault x) {
        List<Long> shown = new ArrayList<>();
        for (int k = -1; k <= 6; k++) {
            shown.add((long) x.chain(k));
        }
        shown.add((long) x.candidates());
        return shown;
    }

    static List<Long> store(CertificateVault x) {
        List<Long> shown = new ArrayList<>();
        for (int c = 0; c <= 12; c++) {
            for (int what = 0; what <= 14; what++) {
                shown.add(x.certificate(c, what));
            }
        }
        for (int l = 0; l <= 6; l++) {
            for (int what = 0; what <= 5; what++) {
                shown.add(x.list(l, what));
            }
        }
        return shown;
    }

    static List<Long> template(CertificateVault x) {
        List<Long> shown = new ArrayList<>();
        shown.add((long) x.compose());
        shown.addAll(draft(x));
        return shown;
    }

    static List<Long> revoked(CertificateVault x) {
        List<Long> shown = new ArrayList<>();
        shown.add((long) x.composeList());
        shown.addAll(draft(x));
        return shown;
    }

    /** A fifth serial, numbers of what is stored, searches through all of it. */
    static List<Long> next(CertificateVault x) {
        List<Long> shown = new ArrayList<>();
        shown.add(x.revoke(1, 1) ? 1L : 0);
        shown.add(x.put(5) ? 1L : 0);
        shown.add((long) x.compose());
        shown.add((long) x.store(0));
        shown.add((long) x.composeList());
        shown.add((long) x.store(2));
        for (int c = 0; c < 12; c++) {
            for (int depth = 1; depth <= 5; depth += 2) {
                shown.add((long) x.validate(c, 25, depth, false));
                shown.add((long) x.candidates());
                shown.add((long) x.validate(c, 25, depth, true));
            }
        }
        return shown;
    }
}
