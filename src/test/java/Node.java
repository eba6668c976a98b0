import java.util.ArrayList;
import java.util.Arrays;
import java.util.List;

/** An element of a draft that knows its place and can be written with a fault in it. */
final class Node {
    final String what;
    final int tag;
    private final byte[] content;
    private final List<Node> kids = new ArrayList<>();
    private Node parent = null;
    private byte[] instead = null;
    private byte[] behind = new byte[0];
    private boolean endsParent = false;

    private Node(String what, int tag, byte[] content) {
        this.what = what;
        this.tag = tag;
        this.content = content;
    }

    static Node leaf(String what, byte[] element) {
        return new Node(what, element[0] & 255, Arrays.copyOfRange(element, 2, element.length));
    }

    static Node sequence(String what, Node... kids) {
        Node node = new Node(what, 48, new byte[0]);
        for (Node kid : kids) {
            node.add(kid);
        }
        return node;
    }

    Node add(Node kid) {
        kid.parent = this;
        kids.add(kid);
        return kid;
    }

    Node find(String wanted) {
        if (what.equals(wanted)) {
            return this;
        }
        for (Node kid : kids) {
            Node found = kid.find(wanted);
            if (found != null) {
                return found;
            }
        }
        return null;
    }

    /** All elements, each before those in it. */
    List<Node> all() {
        List<Node> all = new ArrayList<>();
        all.add(this);
        for (Node kid : kids) {
            all.addAll(kid.all());
        }
        return all;
    }

    boolean isSequence() {
        return tag == 48;
    }

    /** These bytes are written, in the place of the whole element. */
    Node become(byte[]... parts) {
        instead = Elements.join(parts);
        return this;
    }

    /** The element around it ends behind it; what stands behind that one stays. */
    Node last() {
        endsParent = true;
        return this;
    }

    Node parent() {
        return parent;
    }

    /** These bytes are written behind the element, in the one around it. */
    Node before(byte[] bytes) {
        behind = bytes;
        return this;
    }

    byte[] content() {
        byte[] all = content;
        for (Node kid : kids) {
            all = Elements.join(all, kid.bytes());
            if (kid.endsParent) {
                break;
            }
        }
        return all;
    }

    byte[] bytes() {
        return Elements.join(instead != null ? instead : Elements.element(tag, content()), behind);
    }

    /** The place of its tag in the draft. */
    int place() {
        if (parent == null) {
            return 0;
        }
        int place = parent.place() + (parent.content().length < 128 ? 2 : 3);
        for (Node kid : parent.kids) {
            if (kid == this) {
                break;
            }
            place += kid.bytes().length;
        }
        return place;
    }

    Node root() {
        return parent == null ? this : parent.root();
    }
}
