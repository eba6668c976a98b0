import java.io.IOException;
import java.lang.management.ManagementFactory;
import java.lang.reflect.Constructor;
import java.lang.reflect.Field;
import java.lang.reflect.Method;
import java.lang.reflect.Modifier;
import java.nio.file.Files;
import java.nio.file.Path;
import java.util.Set;
import java.util.TreeSet;
import java.util.regex.Pattern;

/** The public face, some rules of LANGUAGE.md, and how much room the calls of one object take. */
public final class FaceTest {
    private static final Due DUE = new Due("FaceTest");

    private static final String[] FACE = {
        "public boolean CertificateVault.put(int)", "public boolean CertificateVault.poke(int,int)",
        "public void CertificateVault.clear()", "public int CertificateVault.at(int)",
        "public boolean CertificateVault.set(int,long)", "public boolean CertificateVault.revoke(long,long)",
        "public void CertificateVault.forgive()", "public int CertificateVault.compose()",
        "public int CertificateVault.composeList()", "public int CertificateVault.check(boolean)",
        "public int CertificateVault.store(int)", "public long CertificateVault.certificate(int,int)",
        "public long CertificateVault.list(int,int)", "public int CertificateVault.validate(int,long,int,boolean)",
        "public int CertificateVault.chain(int)", "public int CertificateVault.candidates()",
        "public long CertificateVault.sign(int,int)", "public boolean CertificateVault.good(long,long,long,int)"
    };

    public static void main(String[] args) throws IOException {
        face();
        classesInside();
        words();
        roomOfCalls();
        DUE.end();
    }

    private static void face() {
        Class<?> face = CertificateVault.class;
        DUE.isTrue("the class is public and final", face.getModifiers() == (Modifier.PUBLIC | Modifier.FINAL));
        Set<String> open = new TreeSet<>();
        for (Method method : face.getDeclaredMethods()) {
            if (!Modifier.isPrivate(method.getModifiers())) {
                open.add(method.toString());
            }
        }
        DUE.isTrue("the methods are those of the document: " + open, open.equals(new TreeSet<>(Set.of(FACE))));
        for (Field field : face.getDeclaredFields()) {
            boolean none = field.toString().equals("public static final int CertificateVault.NONE");
            DUE.isTrue(field + " is NONE or private", none || Modifier.isPrivate(field.getModifiers()));
        }
        Constructor<?>[] constructors = face.getDeclaredConstructors();
        DUE.is("constructors", constructors.length, 1);
        DUE.isTrue("a public constructor without arguments",
            constructors[0].toString().equals("public CertificateVault()"));
    }

    private static void classesInside() {
        Set<String> names = new TreeSet<>();
        for (Method method : CertificateVault.class.getMethods()) {
            if (method.getDeclaringClass() == CertificateVault.class) {
                names.add(method.getName());
            }
        }
        Class<?>[] inside = CertificateVault.class.getDeclaredClasses();
        DUE.isTrue("some twelve classes at most", inside.length <= 12);
        for (Class<?> one : inside) {
            DUE.isTrue(one + " is private or package-visible",
                !Modifier.isPublic(one.getModifiers()) && !Modifier.isProtected(one.getModifiers()));
            DUE.isTrue(one + " is static", Modifier.isStatic(one.getModifiers()));
            methodsOf(one, names);
            fieldsOf(one);
        }
        methodsOf(CertificateVault.class, names);
        fieldsOf(CertificateVault.class);
    }

    private static void methodsOf(Class<?> one, Set<String> publicNames) {
        for (Method method : one.getDeclaredMethods()) {
            boolean ownName = !Modifier.isPrivate(method.getModifiers()) || !publicNames.contains(method.getName());
            DUE.isTrue(method + " bears a name of its own", ownName);
            DUE.isTrue(method + " has at most seven parameters", method.getParameterCount() <= 7);
        }
    }

    private static void fieldsOf(Class<?> one) {
        int fields = 0;
        for (Field field : one.getDeclaredFields()) {
            boolean isStatic = Modifier.isStatic(field.getModifiers());
            DUE.isTrue(field + " is final if it is static", !isStatic || Modifier.isFinal(field.getModifiers()));
            fields += isStatic ? 0 : 1;
        }
        DUE.isTrue(one + " has some twenty fields at most", fields <= 20);
    }

    /** What LANGUAGE.md bars by a word that can be seen. */
    private static void words() throws IOException {
        String source = Files.readString(Path.of("src/main/java/CertificateVault.java"));
        String code = source.replaceAll("(?s)/\\*.*?\\*/|//[^\\n]*", "");
        String[] barred = {"\\bpackage\\b", "::", "\\)\\s*->", "Exact\\b", "\\bfinally\\b", "\\bsynchronized\\b",
            "\\bassert\\b", "\\bhashCode\\b", "\\bgetMessage\\b", "\\bThread\\b", "\\bRandom\\b", "\\brandom\\b",
            "\\bSystem\\.(?!arraycopy)", "\\bstatic\\s*\\{",
            "\\bimport\\s+(?!java\\.util\\.(ArrayList|List|Arrays|Iterator|NoSuchElementException);)"};
        for (String word : barred) {
            DUE.isTrue("the program does without " + word, !Pattern.compile(word).matcher(code).find());
        }
    }

    private static CertificateVault fullStore() {
        CertificateVault x = new CertificateVault();
        x.set(6, 1);
        for (int c = 0; c < 12; c++) {
            x.set(12, c == 11 ? 1 : 0);
            x.compose();
            x.store(c == 0 ? 0 : 1);
        }
        x.set(12, 0);
        for (int l = 0; l < 6; l++) {
            x.composeList();
            x.store(2);
        }
        return x;
    }

    private static int dearestCalls(CertificateVault x) {
        int sum = 0;
        for (int k = 0; k < 90; k++) {
            sum += x.validate(11, 5, 5, true);
            sum += x.check(true) + x.check(false) + x.store(1) + x.compose();
        }
        return sum;
    }

    /** The room of a run has 7.3 million fields and elements; 512 calls here make a few thousand. */
    private static void roomOfCalls() {
        var threads = (com.sun.management.ThreadMXBean) ManagementFactory.getThreadMXBean();
        dearestCalls(fullStore());
        long thread = Thread.currentThread().getId();
        long before = threads.getThreadAllocatedBytes(thread);
        CertificateVault x = fullStore();
        long made = threads.getThreadAllocatedBytes(thread);
        dearestCalls(x);
        long called = threads.getThreadAllocatedBytes(thread);
        DUE.isTrue("a new object takes little room: " + (made - before), made - before < 100000);
        DUE.isTrue("450 calls take little room: " + (called - made), called - made < 1000000);
    }
}
