/** Promises 1 to 5: a new object, put, poke, clear, at. */
public final class DraftTest {
    private static final Due DUE = new Due("DraftTest");

    public static void main(String[] args) {
        newObject();
        newTemplate();
        putting();
        fullDraft();
        poking();
        asking();
        clearing();
        DUE.end();
    }

    /** "An empty store and draft" */
    private static void newObject() {
        CertificateVault x = new CertificateVault();
        DUE.is("NONE", CertificateVault.NONE, -1);
        DUE.is("at(-1) of a new draft", x.at(-1), 0);
        DUE.is("at(0) of a new draft", x.at(0), -1);
        DUE.is("certificate(0, 0) of a new store", x.certificate(0, 0), -1);
        DUE.is("list(0, 0) of a new store", x.list(0, 0), -1);
        DUE.is("validate in a new store", x.validate(0, 0, 1, false), -1);
        DUE.is("chain(0) before any validate", x.chain(0), -1);
        DUE.is("candidates() before any validate", x.candidates(), 0);
    }

    /** "the template of the tool has the fields 1, a, 0, 1000, a, 0, -1, -1, -1, 0, 0, 0, 0, and no serials to be revoked" */
    private static void newTemplate() {
        CertificateVault x = new CertificateVault();
        x.compose();
        byte[] first = Elements.signed(0, Elements.body(1, "a", "a", 0));
        DUE.is("the first certificate", Elements.draft(x), first);
        x.composeList();
        byte[] list = Elements.signed(0, Elements.listBody("a", 0, 1000));
        DUE.is("the first list", Elements.draft(x), list);
        x.set(6, 1);
        x.compose();
        byte[] basic = Elements.sequence(Elements.integer(1), Elements.flag(), Elements.sequence(Elements.flag()));
        DUE.is("the first reach is none", Elements.draft(x),
            Elements.signed(0, Elements.body(1, "a", "a", 0, basic)));
    }

    /** "Appends a byte to the draft: true; refused (false) when b is not 0 .. 255" */
    private static void putting() {
        CertificateVault x = new CertificateVault();
        DUE.is("put(0)", x.put(0), true);
        DUE.is("put(255)", x.put(255), true);
        DUE.is("put(256)", x.put(256), false);
        DUE.is("put(-1)", x.put(-1), false);
        DUE.is("put(MIN)", x.put(Integer.MIN_VALUE), false);
        DUE.is("put(MAX)", x.put(Integer.MAX_VALUE), false);
        DUE.is("at(-1)", x.at(-1), 2);
        DUE.is("at(0)", x.at(0), 0);
        DUE.is("at(1)", x.at(1), 255);
        DUE.is("at(2)", x.at(2), -1);
        DUE.is("at(-2)", x.at(-2), -1);
        DUE.is("at(MIN)", x.at(Integer.MIN_VALUE), -1);
        DUE.is("at(MAX)", x.at(Integer.MAX_VALUE), -1);
    }

    /** "or 200 are there" */
    private static void fullDraft() {
        CertificateVault x = new CertificateVault();
        for (int k = 0; k < 200; k++) {
            DUE.is("put " + k, x.put(k), true);
        }
        DUE.is("put into a full draft", x.put(7), false);
        DUE.is("at(-1) of a full draft", x.at(-1), 200);
        DUE.is("at(199)", x.at(199), 199);
        DUE.is("at(200)", x.at(200), -1);
        DUE.is("poke(199) of a full draft", x.poke(199, 3), true);
        DUE.is("poke(200) of a full draft", x.poke(200, 3), false);
        DUE.is("at(199) after poke", x.at(199), 3);
    }

    /** "Byte k of the draft becomes b: true; refused (false) when there is no byte k or b is not 0 .. 255." */
    private static void poking() {
        CertificateVault x = new CertificateVault();
        DUE.is("poke in an empty draft", x.poke(0, 1), false);
        x.put(5);
        x.put(6);
        DUE.is("poke(1, 255)", x.poke(1, 255), true);
        DUE.is("poke(0, 0)", x.poke(0, 0), true);
        DUE.is("poke(2, 0)", x.poke(2, 0), false);
        DUE.is("poke(-1, 0)", x.poke(-1, 0), false);
        DUE.is("poke(MIN, 0)", x.poke(Integer.MIN_VALUE, 0), false);
        DUE.is("poke(0, 256)", x.poke(0, 256), false);
        DUE.is("poke(0, -1)", x.poke(0, -1), false);
        DUE.is("at(0)", x.at(0), 0);
        DUE.is("at(1)", x.at(1), 255);
        DUE.is("at(-1)", x.at(-1), 2);
    }

    /** "Byte k of the draft; for k = -1 how many there are; otherwise NONE." */
    private static void asking() {
        CertificateVault x = new CertificateVault();
        for (int size = 0; size <= 200; size += 50) {
            DUE.is("at(-1) of " + size, x.at(-1), size);
            DUE.is("at(" + (size - 1) + ") of " + size, x.at(size - 1), size == 0 ? 0 : (size - 1) % 50);
            DUE.is("at(" + size + ") of " + size, x.at(size), -1);
            DUE.is("at(-2) of " + size, x.at(-2), -1);
            for (int k = 0; k < 50; k++) {
                x.put(k);
            }
        }
        x.clear();
        DUE.is("at(199) of a draft that was full", x.at(199), -1);
        DUE.is("at(0) of a draft that was full", x.at(0), -1);
    }

    /** "The draft is empty." */
    private static void clearing() {
        CertificateVault x = new CertificateVault();
        x.clear();
        DUE.is("at(-1) after clear of nothing", x.at(-1), 0);
        x.put(9);
        x.clear();
        DUE.is("at(-1) after clear", x.at(-1), 0);
        DUE.is("at(0) after clear", x.at(0), -1);
        DUE.is("poke after clear", x.poke(0, 1), false);
        x.put(8);
        DUE.is("at(0) of what is put after clear", x.at(0), 8);
    }
}
