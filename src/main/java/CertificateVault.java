/**
 * A store of certificates: a tool that writes and signs them, a strict reader, and a search for the
 * first chain that holds. What each call owes its caller is said in the document (shared/DOC.md).
 */
public final class CertificateVault {
    public static final int NONE = -1;

    private static final int FAULTY = -2;

    private static final int KIND_ANCHOR = 0;
    private static final int KIND_OTHER = 1;
    private static final int KIND_LIST = 2;

    private static final int MOST_CERTIFICATES = 12;
    private static final int MOST_LISTS = 6;
    private static final int MOST_REVOKED = 4;
    private static final int MOST_DEPTH = 5;
    private static final int MOST_CANDIDATES = 40;

    private static final int TAG_TRUE = 1;
    private static final int TAG_INTEGER = 2;
    private static final int TAG_OPAQUE = 4;
    private static final int TAG_NAME = 19;
    private static final int TAG_SEQUENCE = 48;
    private static final int TAG_ALLOWED = 128;
    private static final int TAG_BARRED = 129;

    private static final int LAST_SHORT_LENGTH = 127;
    private static final int LONG_LENGTH = 129;

    private static final int ID_BASIC = 1;
    private static final int ID_USAGE = 2;
    private static final int ID_REALM = 3;
    private static final int ID_OF_TOOL = 9;

    private static final int USAGE_CERTIFICATES = 1;
    private static final int USAGE_LISTS = 2;

    private final Draft draft;
    private final Tool tool;
    private final Shelf shelf;
    private Search latest;

    public CertificateVault() {
        draft = new Draft();
        tool = new Tool();
        shelf = new Shelf();
        latest = null;
    }

    public boolean put(int b) {
        return draft.append(b);
    }

    public boolean poke(int k, int b) {
        return draft.replace(k, b);
    }

    public void clear() {
        draft.empty();
    }

    public int at(int k) {
        if (k == -1) {
            return draft.size;
        }
        return draft.has(k) ? draft.bytes[k] : NONE;
    }

    public boolean set(int field, long v) {
        return tool.accept(field, v);
    }

    public boolean revoke(long serial, long date) {
        return tool.addRevoked(serial, date);
    }

    public void forgive() {
        tool.dropRevoked();
    }

    public int compose() {
        return tool.writeCertificate(draft);
    }

    public int composeList() {
        return tool.writeList(draft);
    }

    public int check(boolean certificate) {
        Reader reader = new Reader(draft);
        return certificate
            ? reader.readCertificate(shelf.nextCertificate())
            : reader.readList(shelf.nextList());
    }

    public int store(int kind) {
        if (kind == KIND_LIST && shelf.listCount < MOST_LISTS) {
            int fault = new Reader(draft).readList(shelf.nextList());
            return fault == 0 ? shelf.keepList() : FAULTY;
        }
        boolean isCertificate = kind == KIND_ANCHOR || kind == KIND_OTHER;
        if (isCertificate && shelf.certificateCount < MOST_CERTIFICATES) {
            int fault = new Reader(draft).readCertificate(shelf.nextCertificate());
            return fault == 0 ? shelf.keepCertificate(kind == KIND_ANCHOR) : FAULTY;
        }
        return NONE;
    }

    public long certificate(int c, int what) {
        return shelf.hasCertificate(c) ? shelf.certificates[c].tell(what) : NONE;
    }

    public long list(int l, int what) {
        return l >= 0 && l < shelf.listCount ? shelf.lists[l].tell(what) : NONE;
    }

    public int validate(int target, long time, int depth, boolean strictly) {
        if (!shelf.hasCertificate(target) || time < 0 || depth < 1 || depth > MOST_DEPTH) {
            return NONE;
        }
        latest = new Search(shelf, time, depth, strictly);
        return latest.lookFor(target);
    }

    public int chain(int k) {
        return latest == null ? NONE : latest.foundAt(k);
    }

    public int candidates() {
        return latest == null ? 0 : latest.tried;
    }

    public long sign(int key, int h) {
        return Numbers.isKey(key) ? Numbers.signature(key, h) : NONE;
    }

    public boolean good(long signature, long modulus, long exponent, int h) {
        return Numbers.isGood(signature, modulus, exponent, h);
    }

    /** The row of bytes that is written and read, and the ways to append a whole element to it. */
    private static final class Draft {
        static final int ROOM = 200;

        final int[] bytes = new int[ROOM];
        int size = 0;

        boolean has(int k) {
            return k >= 0 && k < size;
        }

        void empty() {
            size = 0;
        }

        boolean append(int b) {
            if (!isByte(b) || size >= ROOM) {
                return false;
            }
            bytes[size] = b;
            size++;
            return true;
        }

        boolean replace(int k, int b) {
            if (!has(k) || !isByte(b)) {
                return false;
            }
            bytes[k] = b;
            return true;
        }

        void appendTrue() {
            append(TAG_TRUE);
            append(1);
            append(255);
        }

        void appendInteger(long v) {
            // the highest bit written must be 0, so seven bits of the first byte count
            int length = 1;
            while (length < 8 && v >>> 8 * length - 1 != 0) {
                length++;
            }
            append(TAG_INTEGER);
            append(length);
            for (int k = length - 1; k >= 0; k--) {
                append((int) (v >>> 8 * k) & 255);
            }
        }

        void appendName(int tag, long name) {
            append(tag);
            append(Names.length(name));
            for (long rest = name; rest != 0; rest >>>= Names.BITS) {
                append(Names.toAscii((int) rest & Names.MASK));
            }
        }

        /** Makes all bytes from start on the content of one element: its length is known only now. */
        void wrap(int start, int tag) {
            int length = size - start;
            int header = length > LAST_SHORT_LENGTH ? 3 : 2;
            if (start < 0 || length < 0 || size + header > ROOM) {
                return;
            }
            System.arraycopy(bytes, start, bytes, start + header, length);
            size += header;
            bytes[start] = tag;
            if (header == 3) {
                bytes[start + 1] = LONG_LENGTH;
            }
            bytes[start + header - 1] = length;
        }

        /** The hash of the bytes from start to before stop, both within the draft. */
        int hash(int start, int stop) {
            int h = -2128831035;
            for (int k = start; k < stop; k++) {
                h = (h ^ bytes[k]) * 16777619;
            }
            return h ^ h >>> 15;
        }

        private static boolean isByte(int b) {
            return b >= 0 && b <= 255;
        }
    }

    /** Names as longs. */
    private static final class Names {
        static final int BITS = 5;
        static final int MASK = 31;
        static final int MOST = 8;

        private static final int DOT = 27;
        private static final int NO_CHARACTER = 31;

        static boolean isName(long v) {
            if (v <= 0 || v >>> BITS * MOST != 0) {
                return false;
            }
            // a dot thought before the first character bars a first dot as it bars a second one
            int before = DOT;
            for (long rest = v; rest != 0; rest >>>= BITS) {
                int character = (int) rest & MASK;
                if (character == 0 || character > DOT || character == DOT && before == DOT) {
                    return false;
                }
                before = character;
            }
            return before != DOT;
        }

        static boolean isWithin(long name, long outer) {
            if (name == outer) {
                return true;
            }
            long ending = outer << BITS | DOT;
            for (long rest = name; rest != 0; rest >>>= BITS) {
                if (rest == ending) {
                    return true;
                }
            }
            return false;
        }

        static int length(long name) {
            int length = 0;
            for (long rest = name; rest != 0; rest >>>= BITS) {
                length++;
            }
            return length;
        }

        static int toAscii(int character) {
            return character == DOT ? '.' : 'a' - 1 + character;
        }

        /** NO_CHARACTER, and not 0, stands for a wrong byte: a 0 at the end of a name would not be seen. */
        static int fromAscii(int b) {
            if (b == '.') {
                return DOT;
            }
            return b >= 'a' && b <= 'z' ? b - 'a' + 1 : NO_CHARACTER;
        }
    }

    /** Powers, signatures and the keys of the tool. */
    private static final class Numbers {
        static final long[] MODULI = {
            1200000049400000287L, 1430000491000037023L, 1536351190290809371L,
            1728395075795061493L, 1697785988597898509L, 1597490175708938519L
        };
        static final long[] EXPONENTS = {3, 17, 257, 65537, 5, 11};

        private static final long[] PRIVATE_EXPONENTS = {
            800000031466666827L, 84117675800002153L, 579867958021467505L,
            1604812069470515813L, 339557197186246361L, 1161811034953791779L
        };

        private static final long LEAST_MODULUS = 1L << 57;
        private static final long MOST_MODULUS = (1L << 62) - 1;
        private static final long LEAST_EXPONENT = 3;
        private static final long MOST_EXPONENT = (1L << 31) - 1;

        private static final int HALF_BITS = 31;
        private static final long HALF_MASK = (1L << HALF_BITS) - 1;

        static boolean isKey(long key) {
            return key >= 0 && key < MODULI.length;
        }

        static long signature(int key, int h) {
            return power(block(h), PRIVATE_EXPONENTS[key], MODULI[key]);
        }

        static boolean isGood(long signature, long modulus, long exponent, int h) {
            return modulus >= LEAST_MODULUS && modulus <= MOST_MODULUS && (modulus & 1) == 1
                && exponent >= LEAST_EXPONENT && exponent <= MOST_EXPONENT
                && signature >= 0 && signature < modulus
                && power(signature, exponent, modulus) == block(h);
        }

        private static long block(int h) {
            return 130816L * 4294967296L + (h & 4294967295L);
        }

        private static long power(long base, long exponent, long modulus) {
            long answer = 1;
            long square = base;
            for (long rest = exponent; rest > 0; rest >>= 1) {
                if ((rest & 1) == 1) {
                    answer = times(answer, square, modulus);
                }
                square = times(square, square, modulus);
            }
            return answer;
        }

        /** a * b % modulus for a and b below a modulus below 2^62; halves, as a * b does not fit. */
        private static long times(long a, long b, long modulus) {
            long highA = a >> HALF_BITS;
            long lowA = a & HALF_MASK;
            long highB = b >> HALF_BITS;
            long lowB = b & HALF_MASK;
            long high = lift(highA * highB % modulus, modulus);
            long middle = (highA * lowB + lowA * highB) % modulus;
            long upper = lift((high + middle) % modulus, modulus);
            return (upper + lowA * lowB % modulus) % modulus;
        }

        /**
         * r * 2^31 % modulus for r below the modulus. The quotient is guessed with the modulus
         * rounded up to a multiple of 2^31, so it is never too great, and what is left then is less
         * than 2^62 + modulus: it fits, though r * 2^31 itself may wrap.
         */
        private static long lift(long r, long modulus) {
            long quotient = r / ((modulus >> HALF_BITS) + 1);
            return ((r << HALF_BITS) - quotient * modulus) % modulus;
        }
    }

    /** The template and the serials to be revoked, and what is written from them. */
    private static final class Tool {
        private static final int SERIAL = 0;
        private static final int ISSUER = 1;
        private static final int FROM = 2;
        private static final int TO = 3;
        private static final int SUBJECT = 4;
        private static final int BORNE_KEY = 5;
        private static final int BASIC = 6;
        private static final int REACH = 7;
        private static final int USAGE = 8;
        private static final int ALLOWED = 9;
        private static final int BARRED = 10;
        private static final int OWN_EXTENSION = 11;
        private static final int SIGNING_KEY = 12;

        private final long[] fields = {1, 1, 0, 1000, 1, 0, -1, -1, -1, 0, 0, 0, 0};
        private final long[] serials = new long[MOST_REVOKED];
        private final long[] dates = new long[MOST_REVOKED];
        private int revoked = 0;

        boolean accept(int field, long v) {
            if (!isAllowed(field, v)) {
                return false;
            }
            fields[field] = v;
            return true;
        }

        private static boolean isAllowed(int field, long v) {
            switch (field) {
                case SERIAL:
                case FROM:
                case TO:
                    return v >= 0;
                case ISSUER:
                case SUBJECT:
                    return Names.isName(v);
                case BORNE_KEY:
                case SIGNING_KEY:
                    return Numbers.isKey(v);
                case BASIC:
                    return v >= -1 && v <= 1;
                case REACH:
                    return v >= -1 && v <= 9;
                case USAGE:
                    return v == -1 || v >= 1 && v <= 7;
                case ALLOWED:
                case BARRED:
                    return v == 0 || Names.isName(v);
                case OWN_EXTENSION:
                    return v >= 0 && v <= 2;
                default:
                    return false;
            }
        }

        boolean addRevoked(long serial, long date) {
            if (serial < 0 || date < 0 || revoked >= MOST_REVOKED) {
                return false;
            }
            serials[revoked] = serial;
            dates[revoked] = date;
            revoked++;
            return true;
        }

        void dropRevoked() {
            revoked = 0;
        }

        int writeCertificate(Draft draft) {
            int key = (int) fields[BORNE_KEY];
            draft.empty();
            draft.appendInteger(fields[SERIAL]);
            draft.appendName(TAG_NAME, fields[ISSUER]);
            draft.appendInteger(fields[FROM]);
            draft.appendInteger(fields[TO]);
            draft.appendName(TAG_NAME, fields[SUBJECT]);
            draft.appendInteger(Numbers.MODULI[key]);
            draft.appendInteger(Numbers.EXPONENTS[key]);
            writeExtensions(draft);
            return finish(draft);
        }

        int writeList(Draft draft) {
            draft.empty();
            draft.appendName(TAG_NAME, fields[ISSUER]);
            draft.appendInteger(fields[FROM]);
            draft.appendInteger(fields[TO]);
            int entries = draft.size;
            for (int k = 0; k < revoked; k++) {
                int entry = draft.size;
                draft.appendInteger(serials[k]);
                draft.appendInteger(dates[k]);
                draft.wrap(entry, TAG_SEQUENCE);
            }
            draft.wrap(entries, TAG_SEQUENCE);
            return finish(draft);
        }

        /** Turns a draft that holds the content of a body into the whole, signed. */
        private int finish(Draft draft) {
            draft.wrap(0, TAG_SEQUENCE);
            int h = draft.hash(0, draft.size);
            draft.appendInteger(Numbers.signature((int) fields[SIGNING_KEY], h));
            draft.wrap(0, TAG_SEQUENCE);
            return draft.size;
        }

        private void writeExtensions(Draft draft) {
            int start = draft.size;
            if (fields[BASIC] >= 0) {
                writeBasic(draft);
            }
            if (fields[USAGE] >= 0) {
                writeUsage(draft);
            }
            if (fields[ALLOWED] != 0 || fields[BARRED] != 0) {
                writeRealm(draft);
            }
            if (fields[OWN_EXTENSION] > 0) {
                writeOwnExtension(draft);
            }
            if (draft.size > start) {
                draft.wrap(start, TAG_SEQUENCE);
            }
        }

        private void writeBasic(Draft draft) {
            int start = draft.size;
            draft.appendInteger(ID_BASIC);
            draft.appendTrue();
            int value = draft.size;
            if (fields[BASIC] == 1) {
                draft.appendTrue();
                if (fields[REACH] >= 0) {
                    draft.appendInteger(fields[REACH]);
                }
            }
            draft.wrap(value, TAG_SEQUENCE);
            draft.wrap(start, TAG_SEQUENCE);
        }

        private void writeUsage(Draft draft) {
            int start = draft.size;
            draft.appendInteger(ID_USAGE);
            draft.appendTrue();
            draft.appendInteger(fields[USAGE]);
            draft.wrap(start, TAG_SEQUENCE);
        }

        private void writeRealm(Draft draft) {
            int start = draft.size;
            draft.appendInteger(ID_REALM);
            draft.appendTrue();
            int value = draft.size;
            if (fields[ALLOWED] != 0) {
                draft.appendName(TAG_ALLOWED, fields[ALLOWED]);
            }
            if (fields[BARRED] != 0) {
                draft.appendName(TAG_BARRED, fields[BARRED]);
            }
            draft.wrap(value, TAG_SEQUENCE);
            draft.wrap(start, TAG_SEQUENCE);
        }

        private void writeOwnExtension(Draft draft) {
            int start = draft.size;
            draft.appendInteger(ID_OF_TOOL);
            if (fields[OWN_EXTENSION] == 2) {
                draft.appendTrue();
            }
            draft.wrap(draft.size, TAG_OPAQUE);
            draft.wrap(start, TAG_SEQUENCE);
        }
    }

    /**
     * Reads a draft once, from left to right. The first fault stays: behind it every step does
     * nothing, so the steps stand one after the other without a look at the fault between them.
     */
    private static final class Reader {
        private static final int END = 1;
        private static final int TAG = 2;
        private static final int LENGTH = 3;
        private static final int CONTENT = 4;
        private static final int MORE = 5;

        private final Draft draft;
        private int position = 0;
        private int fault = 0;

        Reader(Draft draft) {
            this.draft = draft;
        }

        /** Answers the fault, 0 without one; only then all of the certificate is filled. */
        int readCertificate(Certificate into) {
            into.forget();
            int whole = open(TAG_SEQUENCE, draft.size);
            int start = position;
            int body = open(TAG_SEQUENCE, whole);
            into.serial = readInteger(body);
            into.issuer = readName(TAG_NAME, body);
            into.from = readInteger(body);
            into.to = readInteger(body);
            into.subject = readName(TAG_NAME, body);
            into.modulus = readInteger(body);
            into.exponent = readInteger(body);
            if (isNext(TAG_SEQUENCE, body)) {
                readExtensions(into, body);
            }
            close(body);
            readSignature(into, start, whole);
            return fault;
        }

        /** Answers the fault, 0 without one; only then all of the list is filled. */
        int readList(RevokedList into) {
            into.count = 0;
            int whole = open(TAG_SEQUENCE, draft.size);
            int start = position;
            int body = open(TAG_SEQUENCE, whole);
            into.issuer = readName(TAG_NAME, body);
            into.from = readInteger(body);
            into.to = readInteger(body);
            int entries = open(TAG_SEQUENCE, body);
            for (int k = 0; k < MOST_REVOKED && isNext(TAG_SEQUENCE, entries); k++) {
                int entry = open(TAG_SEQUENCE, entries);
                into.serials[k] = readInteger(entry);
                into.dates[k] = readInteger(entry);
                into.count++;
                close(entry);
            }
            close(entries);
            close(body);
            readSignature(into, start, whole);
            return fault;
        }

        /** Goes on behind the body, which began at start. */
        private void readSignature(Signed into, int start, int whole) {
            if (fault != 0) {
                return;
            }
            into.hash = draft.hash(start, position);
            into.signature = readInteger(whole);
            close(whole);
            close(draft.size);
        }

        private void readExtensions(Certificate into, int end) {
            int stop = open(TAG_SEQUENCE, end);
            long id = -1;
            // no draft holds as many extensions as it has bytes
            for (int k = 0; k < Draft.ROOM && (k == 0 || isNext(TAG_SEQUENCE, stop)); k++) {
                id = readExtension(into, id, stop);
            }
            close(stop);
        }

        private long readExtension(Certificate into, long idBefore, int end) {
            int stop = open(TAG_SEQUENCE, end);
            int place = position;
            long id = readInteger(stop);
            if (id <= idBefore) {
                fail(CONTENT, place);
            }
            boolean critical = readFlag(stop);
            if (id == ID_BASIC) {
                readBasic(into, stop);
            } else if (id == ID_USAGE) {
                readUsage(into, stop);
            } else if (id == ID_REALM) {
                readRealm(into, stop);
            } else {
                skipOpaque(stop);
                into.strange = into.strange || critical;
            }
            into.extensions++;
            close(stop);
            return id;
        }

        private void readBasic(Certificate into, int end) {
            int stop = open(TAG_SEQUENCE, end);
            into.basic = true;
            into.authority = readFlag(stop);
            if (into.authority && isNext(TAG_INTEGER, stop)) {
                into.reach = readInteger(stop);
            }
            close(stop);
        }

        private void readUsage(Certificate into, int end) {
            int place = position;
            long usage = readInteger(end);
            if (usage < 1 || usage > 7) {
                fail(CONTENT, place);
            }
            into.usage = usage;
        }

        private void readRealm(Certificate into, int end) {
            int place = position;
            int stop = open(TAG_SEQUENCE, end);
            if (position == stop) {
                fail(CONTENT, place);
            }
            if (isNext(TAG_ALLOWED, stop)) {
                into.allowed = readName(TAG_ALLOWED, stop);
            }
            if (isNext(TAG_BARRED, stop)) {
                into.barred = readName(TAG_BARRED, stop);
            }
            close(stop);
        }

        private void skipOpaque(int end) {
            int stop = open(TAG_OPAQUE, end);
            if (fault == 0) {
                position = stop;
            }
        }

        private long readInteger(int end) {
            int place = position;
            int stop = open(TAG_INTEGER, end);
            if (fault != 0) {
                return 0;
            }
            if (!isInteger(stop)) {
                fail(CONTENT, place);
                return 0;
            }
            long v = 0;
            for (; position < stop; position++) {
                v = v << 8 | draft.bytes[position];
            }
            return v;
        }

        private boolean isInteger(int stop) {
            int length = stop - position;
            if (length < 1 || length > 8) {
                return false;
            }
            int first = draft.bytes[position];
            return first < 128 && (first > 0 || length == 1 || draft.bytes[position + 1] >= 128);
        }

        private long readName(int tag, int end) {
            int place = position;
            int stop = open(tag, end);
            if (fault != 0) {
                return 0;
            }
            long name = 0;
            if (stop - position <= Names.MOST) {
                for (int k = stop - 1; k >= position; k--) {
                    name = name << Names.BITS | Names.fromAscii(draft.bytes[k]);
                }
            }
            if (!Names.isName(name)) {
                fail(CONTENT, place);
            }
            position = stop;
            return name;
        }

        /** Whether a TRUE, which may be missing, is there. */
        private boolean readFlag(int end) {
            if (!isNext(TAG_TRUE, end)) {
                return false;
            }
            int place = position;
            int stop = open(TAG_TRUE, end);
            if (fault != 0) {
                return false;
            }
            if (stop - position != 1 || draft.bytes[position] != 255) {
                fail(CONTENT, place);
            }
            position = stop;
            return true;
        }

        private boolean isNext(int tag, int end) {
            return fault == 0 && position < end && draft.bytes[position] == tag;
        }

        /**
         * Goes behind the tag and length of an element that must lie before end; answers where its
         * content stops. The answer means nothing when there is a fault.
         */
        private int open(int tag, int end) {
            int place = position;
            if (fault != 0) {
                return place;
            }
            if (position >= end) {
                return fail(END, place);
            }
            if (draft.bytes[position] != tag) {
                return fail(TAG, place);
            }
            position++;
            if (position >= end) {
                return fail(END, place);
            }
            int length = draft.bytes[position];
            position++;
            if (length > LAST_SHORT_LENGTH) {
                if (length != LONG_LENGTH) {
                    return fail(LENGTH, place);
                }
                if (position >= end) {
                    return fail(END, place);
                }
                length = draft.bytes[position];
                position++;
                if (length <= LAST_SHORT_LENGTH) {
                    return fail(LENGTH, place);
                }
            }
            return length > end - position ? fail(END, place) : position + length;
        }

        private void close(int stop) {
            if (position < stop) {
                fail(MORE, position);
            }
        }

        private int fail(int kind, int place) {
            if (fault == 0) {
                fault = kind + 16 * place;
            }
            return place;
        }
    }

    /** What certificates and lists have in common. */
    private abstract static class Signed {
        long issuer;
        long from;
        long to;
        long signature;
        int hash;
        private int signers = 0;

        boolean isTimely(long time) {
            return from <= time && time <= to;
        }

        /** Bit c is set when the key of certificate c, whose subject is the issuer, signed this. */
        boolean isSignedBy(int c) {
            return (signers >> c & 1) == 1;
        }

        void noteSigner(int c, Certificate signer) {
            if (issuer == signer.subject
                && Numbers.isGood(signature, signer.modulus, signer.exponent, hash)) {
                signers |= 1 << c;
            }
        }
    }

    private static final class Certificate extends Signed {
        long serial;
        long subject;
        long modulus;
        long exponent;
        long reach;
        long usage;
        long allowed;
        long barred;
        int extensions;
        boolean basic;
        boolean authority;
        boolean strange;
        boolean anchor;

        /** What may be missing is set as missing; the rest is always read. */
        void forget() {
            reach = NONE;
            usage = 0;
            allowed = 0;
            barred = 0;
            extensions = 0;
            basic = false;
            authority = false;
            strange = false;
        }

        boolean isSelfIssued() {
            return issuer == subject;
        }

        boolean isFitFor(int use) {
            return usage == 0 || (usage & use) != 0;
        }

        long tell(int what) {
            switch (what) {
                case 0:
                    return serial;
                case 1:
                    return issuer;
                case 2:
                    return from;
                case 3:
                    return to;
                case 4:
                    return subject;
                case 5:
                    return modulus;
                case 6:
                    return exponent;
                case 7:
                    return signature;
                case 8:
                    return hash;
                case 9:
                    return reach;
                case 10:
                    return usage;
                case 11:
                    return allowed;
                case 12:
                    return barred;
                case 13:
                    return extensions;
                case 14:
                    return (anchor ? 1 : 0) + (basic ? 2 : 0) + (authority ? 4 : 0);
                default:
                    return NONE;
            }
        }
    }

    private static final class RevokedList extends Signed {
        final long[] serials = new long[MOST_REVOKED];
        final long[] dates = new long[MOST_REVOKED];
        int count;

        boolean revokes(long serial, long time) {
            for (int k = 0; k < count; k++) {
                if (serials[k] == serial && dates[k] <= time) {
                    return true;
                }
            }
            return false;
        }

        long tell(int what) {
            switch (what) {
                case 0:
                    return issuer;
                case 1:
                    return from;
                case 2:
                    return to;
                case 3:
                    return count;
                case 4:
                    return signature;
                case 5:
                    return hash;
                default:
                    return NONE;
            }
        }
    }

    /**
     * What is stored. The place behind the last stored one is there too, for what is being read:
     * keeping it is then only counting it. Signatures are looked at when a thing is kept, once for
     * each pair whose names meet, so that a search of many candidates need not do it again.
     */
    private static final class Shelf {
        final Certificate[] certificates = new Certificate[MOST_CERTIFICATES + 1];
        final RevokedList[] lists = new RevokedList[MOST_LISTS + 1];
        int certificateCount = 0;
        int listCount = 0;

        Shelf() {
            for (int c = 0; c < certificates.length; c++) {
                certificates[c] = new Certificate();
            }
            for (int l = 0; l < lists.length; l++) {
                lists[l] = new RevokedList();
            }
        }

        boolean hasCertificate(int c) {
            return c >= 0 && c < certificateCount;
        }

        Certificate nextCertificate() {
            return certificates[certificateCount];
        }

        RevokedList nextList() {
            return lists[listCount];
        }

        int keepCertificate(boolean anchor) {
            int number = certificateCount;
            Certificate kept = certificates[number];
            kept.anchor = anchor;
            for (int c = 0; c < number; c++) {
                kept.noteSigner(c, certificates[c]);
                certificates[c].noteSigner(number, kept);
            }
            for (int l = 0; l < listCount; l++) {
                lists[l].noteSigner(number, kept);
            }
            certificateCount++;
            return number;
        }

        int keepList() {
            int number = listCount;
            for (int c = 0; c < certificateCount; c++) {
                lists[number].noteSigner(c, certificates[c]);
            }
            listCount++;
            return number;
        }
    }

    /** One search for a chain. Chains grow from the target, so they stand here with it in front. */
    private static final class Search {
        private final Shelf shelf;
        private final long time;
        private final int depth;
        private final boolean strictly;
        private final int[] part = new int[MOST_DEPTH];
        private int found = 0;
        private int reason = 0;
        int tried = 0;

        Search(Shelf shelf, long time, int depth, boolean strictly) {
            this.shelf = shelf;
            this.time = time;
            this.depth = depth;
            this.strictly = strictly;
        }

        int lookFor(int target) {
            part[0] = target;
            if (goOn(1)) {
                return found;
            }
            return tried == 0 ? 0 : -10 - reason;
        }

        int foundAt(int k) {
            return k >= 0 && k < found ? part[found - 1 - k] : NONE;
        }

        /** Goes on with a part of so many certificates; answers whether a chain holds. */
        private boolean goOn(int length) {
            if (inPart(length - 1).anchor) {
                return tryCandidate(length);
            }
            return length < depth && (goThrough(length, true) || goThrough(length, false));
        }

        private boolean goThrough(int length, boolean anchors) {
            long issuer = inPart(length - 1).issuer;
            for (int c = 0; c < shelf.certificateCount && tried < MOST_CANDIDATES; c++) {
                Certificate next = shelf.certificates[c];
                if (next.anchor == anchors && next.subject == issuer && !isInPart(c, length)) {
                    part[length] = c;
                    if (goOn(length + 1)) {
                        return true;
                    }
                }
            }
            return false;
        }

        private boolean isInPart(int c, int length) {
            for (int k = 0; k < length; k++) {
                if (part[k] == c) {
                    return true;
                }
            }
            return false;
        }

        private Certificate inPart(int k) {
            return shelf.certificates[part[k]];
        }

        private boolean tryCandidate(int length) {
            tried++;
            reason = 0;
            for (int k = length - 2; k >= 0 && reason == 0; k--) {
                reason = reasonAgainst(k, length);
            }
            if (reason != 0) {
                return false;
            }
            found = length;
            return true;
        }

        private int reasonAgainst(int k, int length) {
            Certificate looked = inPart(k);
            if (!looked.isSignedBy(part[k + 1])) {
                return 1;
            }
            if (!looked.isTimely(time)) {
                return 2;
            }
            RevokedList taken = takeList(looked, part[k + 1]);
            if (taken != null && taken.revokes(looked.serial, time)) {
                return 3;
            }
            if (taken == null && strictly) {
                return 4;
            }
            if (!isInRealms(k, length)) {
                return 5;
            }
            if (looked.strange) {
                return 6;
            }
            if (k == 0) {
                return 0;
            }
            if (!looked.authority) {
                return 7;
            }
            if (looked.reach != NONE && countBefore(k) > looked.reach) {
                return 8;
            }
            return looked.isFitFor(USAGE_CERTIFICATES) ? 0 : 9;
        }

        /** Of the lists that count for a certificate the one that is taken, null without one. */
        private RevokedList takeList(Certificate looked, int issuer) {
            if (!shelf.certificates[issuer].isFitFor(USAGE_LISTS)) {
                return null;
            }
            RevokedList taken = null;
            for (int l = 0; l < shelf.listCount; l++) {
                RevokedList other = shelf.lists[l];
                if (other.issuer == looked.issuer && other.isTimely(time) && other.isSignedBy(issuer)
                    && (taken == null || other.from > taken.from)) {
                    taken = other;
                }
            }
            return taken;
        }

        /** Whether the subject keeps to the realms of all between the anchor, at length - 1, and it. */
        private boolean isInRealms(int k, int length) {
            long subject = inPart(k).subject;
            for (int above = k + 1; above < length - 1; above++) {
                Certificate looked = inPart(above);
                if (looked.allowed != 0 && !Names.isWithin(subject, looked.allowed)) {
                    return false;
                }
                if (looked.barred != 0 && Names.isWithin(subject, looked.barred)) {
                    return false;
                }
            }
            return true;
        }

        /** How many between the target and it count against its reach. */
        private int countBefore(int k) {
            int count = 0;
            for (int below = 1; below < k; below++) {
                if (!inPart(below).isSelfIssued()) {
                    count++;
                }
            }
            return count;
        }
    }
}
