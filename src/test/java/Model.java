import java.math.BigInteger;
import java.nio.charset.StandardCharsets;
import java.util.ArrayList;
import java.util.List;

/** The document once more, written for the tests in another way: to be compared with the program. */
final class Model {
    record Fault(int kind, int place) {
        int answer() {
            return kind + 16 * place;
        }
    }

    static final class FaultFound extends RuntimeException {
        private static final long serialVersionUID = 1;
        final transient Fault fault;

        FaultFound(int kind, int place) {
            super("fault", null, false, false);
            fault = new Fault(kind, place);
        }
    }

    static final class Certificate {
        boolean anchor;
        long serial;
        String issuer;
        long from;
        long to;
        String subject;
        long modulus;
        long exponent;
        long signature;
        int hash;
        boolean basic;
        boolean authority;
        Long reach;
        Long usage;
        String allowed;
        String barred;
        int extensions;
        boolean strange;

        long tell(int what) {
            return switch (what) {
                case 0 -> serial;
                case 1 -> Elements.nameValue(issuer);
                case 2 -> from;
                case 3 -> to;
                case 4 -> Elements.nameValue(subject);
                case 5 -> modulus;
                case 6 -> exponent;
                case 7 -> signature;
                case 8 -> hash;
                case 9 -> reach == null ? -1 : reach;
                case 10 -> usage == null ? 0 : usage;
                case 11 -> allowed == null ? 0 : Elements.nameValue(allowed);
                case 12 -> barred == null ? 0 : Elements.nameValue(barred);
                case 13 -> extensions;
                case 14 -> (anchor ? 1 : 0) + (basic ? 2 : 0) + (authority ? 4 : 0);
                default -> -1;
            };
        }
    }

    record Entry(long serial, long date) {
    }

    static final class Revoked {
        String issuer;
        long from;
        long to;
        long signature;
        int hash;
        final List<Entry> entries = new ArrayList<>();

        long tell(int what) {
            return switch (what) {
                case 0 -> Elements.nameValue(issuer);
                case 1 -> from;
                case 2 -> to;
                case 3 -> entries.size();
                case 4 -> signature;
                case 5 -> hash;
                default -> -1;
            };
        }
    }

    /** The bytes from start to before end of which next is the first that has not been read. */
    private static final class Row {
        final byte[] bytes;
        final int tagPlace;
        final int start;
        final int end;
        int next;

        Row(byte[] bytes, int tagPlace, int start, int end) {
            this.bytes = bytes;
            this.tagPlace = tagPlace;
            this.start = start;
            this.end = end;
            this.next = start;
        }

        boolean offers(int tag) {
            return next < end && (bytes[next] & 255) == tag;
        }

        int take(int faultPlace) {
            if (next >= end) {
                throw new FaultFound(1, faultPlace);
            }
            return bytes[next++] & 255;
        }

        Row inner(int tag) {
            int place = next;
            if (take(place) != tag) {
                throw new FaultFound(2, place);
            }
            int length = take(place);
            if (length == 128 || length > 129) {
                throw new FaultFound(3, place);
            }
            if (length == 129) {
                length = take(place);
                if (length < 128) {
                    throw new FaultFound(3, place);
                }
            }
            if (next + length > end) {
                throw new FaultFound(1, place);
            }
            Row inner = new Row(bytes, place, next, next + length);
            next += length;
            return inner;
        }

        byte[] content() {
            return java.util.Arrays.copyOfRange(bytes, start, end);
        }

        long integer() {
            Row inner = inner(2);
            byte[] content = inner.content();
            if (content.length == 0 || content.length > 8) {
                throw new FaultFound(4, inner.tagPlace);
            }
            BigInteger value = new BigInteger(content);
            if (value.signum() < 0 || value.toByteArray().length != content.length) {
                throw new FaultFound(4, inner.tagPlace);
            }
            return value.longValueExact();
        }

        String name(int tag) {
            Row inner = inner(tag);
            String text = new String(inner.content(), StandardCharsets.ISO_8859_1);
            if (!isName(text)) {
                throw new FaultFound(4, inner.tagPlace);
            }
            return text;
        }

        boolean flag() {
            if (!offers(1)) {
                return false;
            }
            Row inner = inner(1);
            if (inner.end - inner.start != 1 || bytes[inner.start] != -1) {
                throw new FaultFound(4, inner.tagPlace);
            }
            return true;
        }

        void done() {
            if (next < end) {
                throw new FaultFound(5, next);
            }
        }
    }

    static boolean isName(String text) {
        return text.length() <= 8 && text.matches("[a-z]+(\\.[a-z]+)*\\z");
    }

    static Certificate readCertificate(byte[] draft) {
        Row outermost = new Row(draft, 0, 0, draft.length);
        Row whole = outermost.inner(48);
        Row body = whole.inner(48);
        Certificate c = new Certificate();
        c.serial = body.integer();
        c.issuer = body.name(19);
        c.from = body.integer();
        c.to = body.integer();
        c.subject = body.name(19);
        c.modulus = body.integer();
        c.exponent = body.integer();
        if (body.offers(48)) {
            readExtensions(c, body.inner(48));
        }
        body.done();
        c.hash = Elements.hash(java.util.Arrays.copyOfRange(draft, body.tagPlace, body.end));
        c.signature = whole.integer();
        whole.done();
        outermost.done();
        return c;
    }

    private static void readExtensions(Certificate c, Row row) {
        long before = -1;
        boolean first = true;
        while (first || row.offers(48)) {
            first = false;
            Row extension = row.inner(48);
            int place = extension.next;
            long id = extension.integer();
            if (id <= before) {
                throw new FaultFound(4, place);
            }
            before = id;
            readValue(c, extension, id);
            extension.done();
            c.extensions++;
        }
        row.done();
    }

    private static void readValue(Certificate c, Row extension, long id) {
        boolean critical = extension.flag();
        int place = extension.next;
        if (id == 1) {
            Row value = extension.inner(48);
            c.basic = true;
            c.authority = value.flag();
            if (c.authority && value.offers(2)) {
                c.reach = value.integer();
            }
            value.done();
        } else if (id == 2) {
            c.usage = extension.integer();
            if (c.usage < 1 || c.usage > 7) {
                throw new FaultFound(4, place);
            }
        } else if (id == 3) {
            Row value = extension.inner(48);
            if (value.start == value.end) {
                throw new FaultFound(4, place);
            }
            c.allowed = value.offers(128) ? value.name(128) : null;
            c.barred = value.offers(129) ? value.name(129) : null;
            value.done();
        } else {
            extension.inner(4);
            c.strange |= critical;
        }
    }

    static Revoked readList(byte[] draft) {
        Row outermost = new Row(draft, 0, 0, draft.length);
        Row whole = outermost.inner(48);
        Row body = whole.inner(48);
        Revoked list = new Revoked();
        list.issuer = body.name(19);
        list.from = body.integer();
        list.to = body.integer();
        Row entries = body.inner(48);
        while (list.entries.size() < 4 && entries.offers(48)) {
            Row entry = entries.inner(48);
            list.entries.add(new Entry(entry.integer(), entry.integer()));
            entry.done();
        }
        entries.done();
        body.done();
        list.hash = Elements.hash(java.util.Arrays.copyOfRange(draft, body.tagPlace, body.end));
        list.signature = whole.integer();
        whole.done();
        outermost.done();
        return list;
    }

    static int check(byte[] draft, boolean certificate) {
        try {
            if (certificate) {
                readCertificate(draft);
            } else {
                readList(draft);
            }
            return 0;
        } catch (FaultFound found) {
            return found.fault.answer();
        }
    }

    static boolean good(long s, long n, long e, int h) {
        if (n % 2 != 1 || n < 1L << 57 || n >= 1L << 62 || e < 3 || e >= 1L << 31 || s < 0 || s >= n) {
            return false;
        }
        return BigInteger.valueOf(s).modPow(BigInteger.valueOf(e), BigInteger.valueOf(n)).equals(Elements.block(h));
    }

    static boolean within(String name, String outer) {
        return name.equals(outer) || name.endsWith("." + outer);
    }

    final List<Certificate> certificates = new ArrayList<>();
    final List<Revoked> lists = new ArrayList<>();
    List<Integer> chain = List.of();
    int candidates = 0;

    int validate(int target, long time, int depth, boolean strictly) {
        List<List<Integer>> all = new ArrayList<>();
        collect(List.of(target), depth, all);
        chain = List.of();
        candidates = 0;
        int reason = 0;
        for (List<Integer> candidate : all) {
            candidates++;
            reason = reason(candidate, time, strictly);
            if (reason == 0) {
                chain = candidate;
                return candidate.size();
            }
        }
        return candidates == 0 ? 0 : -10 - reason;
    }

    /** Of all the candidates the first forty, each from the anchor on. */
    private void collect(List<Integer> part, int depth, List<List<Integer>> all) {
        Certificate first = certificates.get(part.get(0));
        if (first.anchor) {
            if (all.size() < 40) {
                all.add(part);
            }
            return;
        }
        if (part.size() == depth) {
            return;
        }
        List<Integer> anchors = new ArrayList<>();
        List<Integer> others = new ArrayList<>();
        for (int c = 0; c < certificates.size(); c++) {
            if (certificates.get(c).subject.equals(first.issuer) && !part.contains(c)) {
                (certificates.get(c).anchor ? anchors : others).add(c);
            }
        }
        anchors.addAll(others);
        for (int c : anchors) {
            List<Integer> longer = new ArrayList<>();
            longer.add(c);
            longer.addAll(part);
            collect(longer, depth, all);
        }
    }

    private int reason(List<Integer> candidate, long time, boolean strictly) {
        for (int p = 1; p < candidate.size(); p++) {
            int reason = reason(candidate, p, time, strictly);
            if (reason != 0) {
                return reason;
            }
        }
        return 0;
    }

    private int reason(List<Integer> candidate, int p, long time, boolean strictly) {
        Certificate c = certificates.get(candidate.get(p));
        Certificate issuer = certificates.get(candidate.get(p - 1));
        if (!good(c.signature, issuer.modulus, issuer.exponent, c.hash)) {
            return 1;
        }
        if (time < c.from || time > c.to) {
            return 2;
        }
        Revoked taken = taken(c, issuer, time);
        if (taken != null && taken.entries.stream().anyMatch(e -> e.serial == c.serial && e.date <= time)) {
            return 3;
        }
        if (taken == null && strictly) {
            return 4;
        }
        for (int q = 1; q < p; q++) {
            Certificate above = certificates.get(candidate.get(q));
            if (above.allowed != null && !within(c.subject, above.allowed)
                || above.barred != null && within(c.subject, above.barred)) {
                return 5;
            }
        }
        if (c.strange) {
            return 6;
        }
        return p == candidate.size() - 1 ? 0 : authorityReason(candidate, p);
    }

    private int authorityReason(List<Integer> candidate, int p) {
        Certificate c = certificates.get(candidate.get(p));
        if (!c.basic || !c.authority) {
            return 7;
        }
        long between = candidate.subList(p + 1, candidate.size() - 1).stream()
            .filter(k -> !certificates.get(k).issuer.equals(certificates.get(k).subject)).count();
        if (c.reach != null && between > c.reach) {
            return 8;
        }
        return c.usage != null && c.usage % 2 == 0 ? 9 : 0;
    }

    private Revoked taken(Certificate c, Certificate issuer, long time) {
        Revoked taken = null;
        for (Revoked list : lists) {
            boolean counts = list.issuer.equals(c.issuer) && list.from <= time && time <= list.to
                && good(list.signature, issuer.modulus, issuer.exponent, list.hash)
                && (issuer.usage == null || issuer.usage / 2 % 2 == 1);
            if (counts && (taken == null || list.from > taken.from)) {
                taken = list;
            }
        }
        return taken;
    }
}
