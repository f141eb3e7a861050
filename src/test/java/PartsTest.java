import java.util.NoSuchElementException;

/** Promises 17 to 22: the nine parts, copies, and what is alike. */
public final class PartsTest {
    private static final int[] WRONG_SLOTS = {-1, 4, Integer.MIN_VALUE, Integer.MAX_VALUE};
    private static final char[] WRONG_PARTS = {'x', 'S', 'W', ' ', (char) 0, '0', (char) 65535, 't', 'g', (char) 371};
    private static final String PARTS = "smauhpqfw";

    public static void main(String[] args) {
        parts();
        partSigns();
        append();
        copy();
        alike();
        wrongs();
        Due.end("PartsTest");
    }

    /** The parts are given as pairs of begin and size in the order of the nine, behind the text. */
    private static void parts() {
        partsOf("", -1, -1, 0, 0, -1, -1, -1, -1, -1, -1, 0, 0, -1, -1, -1, -1, 0, 0);
        partsOf("a", -1, -1, 0, 1, -1, -1, -1, -1, -1, -1, 0, 1, -1, -1, -1, -1, 0, 1);
        partsOf("?#", -1, -1, 0, 1, -1, -1, -1, -1, -1, -1, 0, 0, 1, 0, 2, 0, 0, 2);
        partsOf("#f", -1, -1, 0, 0, -1, -1, -1, -1, -1, -1, 0, 0, -1, -1, 1, 1, 0, 2);
        partsOf("ab:cd#ef", 0, 2, 3, 2, -1, -1, -1, -1, -1, -1, -1, -1, -1, -1, 6, 2, 0, 8);
        partsOf("ab:c?d", 0, 2, 3, 3, -1, -1, -1, -1, -1, -1, -1, -1, -1, -1, -1, -1, 0, 6);
        partsOf("a://u@h:9/p?q#f", 0, 1, 2, 11, 4, 5, 4, 1, 6, 1, 9, 2, 12, 1, 14, 1, 0, 15);
        partsOf("//@h:", -1, -1, 0, 5, 2, 3, 2, 0, 3, 1, 5, 0, -1, -1, -1, -1, 0, 5);
        partsOf("//a_b?", -1, -1, 0, 6, 2, 3, -1, -1, -1, -1, 5, 0, 6, 0, -1, -1, 0, 6);
        partsOf("a:///p#", 0, 1, 2, 4, -1, -1, -1, -1, -1, -1, 4, 2, -1, -1, 7, 0, 0, 7);
        partsOf("////", -1, -1, 0, 4, -1, -1, -1, -1, -1, -1, 2, 2, -1, -1, -1, -1, 0, 4);
        partsOf("//?", -1, -1, 0, 3, -1, -1, -1, -1, -1, -1, 2, 0, 3, 0, -1, -1, 0, 3);
        partsOf("a://h?q", 0, 1, 2, 5, 4, 1, -1, -1, 4, 1, 5, 0, 6, 1, -1, -1, 0, 7);
        partsOf("%41/%00", -1, -1, 0, 7, -1, -1, -1, -1, -1, -1, 0, 7, -1, -1, -1, -1, 0, 7);
    }

    private static void partsOf(String text, int... beginsAndSizes) {
        for (int slot = 0; slot < 4; slot++) {
            Linkloom x = new Linkloom();
            Due.parse(x, slot, text);
            for (int i = 0; i < PARTS.length(); i++) {
                char part = PARTS.charAt(i);
                Due.due("begin " + part + " of " + text, x.begin(slot, part), beginsAndSizes[2 * i]);
                Due.due("size " + part + " of " + text, x.size(slot, part), beginsAndSizes[2 * i + 1]);
            }
        }
    }

    private static void partSigns() {
        Linkloom x = new Linkloom();
        Due.parse(x, 0, "http://u:p@w.x-y.com:81/p/%7e?x=1#f");
        x.wipe();
        String[] want = {"http", "//u:p@w.x-y.com:81/p/%7e?x=1", "u:p@w.x-y.com:81", "u:p", "w.x-y.com", "/p/%7e",
            "x=1", "f", "http://u:p@w.x-y.com:81/p/%7e?x=1#f"};
        for (int i = 0; i < want.length; i++) {
            char part = PARTS.charAt(i);
            Due.due("part " + part, "" + Due.part(x, 0, part), want[i]);
            int[] wrong = {-1, want[i].length(), 60, Integer.MIN_VALUE, Integer.MAX_VALUE};
            for (int place : wrong) {
                Due.dueThrow("partSign " + part + place, x, NoSuchElementException.class,
                        () -> x.partSign(0, part, place));
            }
        }
        Due.parse(x, 1, "?");
        for (int i = 0; i < PARTS.length() - 1; i++) {
            char part = PARTS.charAt(i);
            if (part != 'm') {
                Due.dueThrow("partSign " + part, x, NoSuchElementException.class, () -> x.partSign(1, part, 0));
                Due.dueThrow("partSign " + part, x, NoSuchElementException.class, () -> x.partSign(1, part, -1));
            }
        }
    }

    private static void append() {
        Linkloom x = new Linkloom();
        Due.parse(x, 0, "a://u@h:9/p%41?q%7e%7E#");
        x.wipe();
        String text = "";
        for (int i = 0; i < PARTS.length() - 1; i++) {
            char part = PARTS.charAt(i);
            String signs = Due.part(x, 0, part);
            if ((text + signs).length() <= 60) {
                text += signs;
                Due.due("append " + part, x.append(0, part), text.length());
                Due.due("text", Due.text(x), text);
            }
        }
        x.wipe();
        x.append(0, 'q');
        Due.due("drop() of an escape", x.drop(), 4);
        Due.due("drop() of an escape", x.drop(), 1);
        Due.due("drop() of a sign", x.drop(), 0);
        Due.due("append of the empty part", x.append(0, 'f'), 0);
        Due.parse(x, 1, "a:b");
        String missing = "auhpqf";
        for (int i = 0; i < missing.length(); i++) {
            char part = missing.charAt(i);
            Due.dueThrow("append " + part, x, NoSuchElementException.class, () -> x.append(1, part));
        }
        appendToTheEnd();
    }

    private static void appendToTheEnd() {
        Linkloom x = new Linkloom();
        Due.parse(x, 2, "abcdefghij");
        for (int i = 2; i <= 6; i++) {
            Due.due("append", x.append(2, 'w'), 10 * i);
        }
        Due.dueThrow("append beyond 60", x, IllegalStateException.class, () -> x.append(2, 'p'));
        Due.dueThrow("append beyond 60", x, NoSuchElementException.class, () -> x.append(2, 's'));
        Due.dueThrow("append beyond 60", x, IllegalArgumentException.class, () -> x.append(2, 'x'));
        Due.due("parse of 60", x.parse(0), -1);
        Due.due("size of 60", x.size(0, 'w'), 60);
        Due.due("partSign 59", x.partSign(0, 'p', 59), 'j');
        Due.parse(x, 1, "#");
        x.wipe();
        Due.due("append of 60", x.append(0, 'p'), 60);
        Due.due("append of none to 60", x.append(1, 'f'), 60);
        x.drop();
        Due.dueThrow("append to 61", x, IllegalStateException.class, () -> x.append(2, 'p'));
    }

    private static void copy() {
        Linkloom x = new Linkloom();
        Due.due("copy of none", x.copy(0, 1), 0);
        Due.parse(x, 0, "a://u@h:9/p?q#f");
        Due.due("copy", x.copy(0, 3), 2);
        Due.due("copied", "" + Due.part(x, 3, 'w'), "a://u@h:9/p?q#f");
        Due.due("copied port", x.port(3), 9);
        Due.due("alike", x.alike(0, 3), 9);
        Due.due("copy to itself", x.copy(3, 3), 2);
        Due.due("copied", "" + Due.part(x, 3, 'w'), "a://u@h:9/p?q#f");
        Due.parse(x, 0, "/b");
        Due.due("a copy stays", "" + Due.part(x, 3, 'u'), "u");
        Due.due("copy", x.copy(0, 3), 2);
        Due.due("copied", "" + Due.part(x, 3, 'u'), "null");
        Due.due("copied port", x.port(3), -1);
        Due.due("copy of none", x.copy(1, 0), 1);
        Due.due("isThere", x.isThere(0), false);
        Due.dueThrow("port", x, NoSuchElementException.class, () -> x.port(0));
        Due.due("copy of none to itself", x.copy(1, 1), 1);
        Due.due("copy", x.copy(3, 0) + x.copy(3, 1) + x.copy(3, 2), 2 + 3 + 4);
        for (int wrong : WRONG_SLOTS) {
            Due.dueThrow("copy", x, IndexOutOfBoundsException.class, () -> x.copy(wrong, 0));
            Due.dueThrow("copy", x, IndexOutOfBoundsException.class, () -> x.copy(0, wrong));
            Due.dueThrow("copy", x, IndexOutOfBoundsException.class, () -> x.copy(wrong, wrong));
        }
    }

    private static void alike() {
        alikes("", "", 9);
        alikes("a", "b", 6);
        alikes("a:b", "c:b", 7);
        alikes("a:b", "A:b", 7);
        alikes("a:b", "a:b#", 7);
        alikes("file:///p/q", "file:/p/q", 7);
        alikes("http://h", "http://h:", 6);
        alikes("//h:1", "//h:11", 6);
        alikes("?", "", 6);
        alikes("//@h", "//h", 5);
        alikes("#%7e", "#%7E", 7);
        alikes("ab", "abc", 6);
        alikes("a:b", "a/b", 5);
        alikes("a://u@h:9/p?q#f", "b:c", 0);
        Linkloom x = new Linkloom();
        Due.dueThrow("alike", x, NoSuchElementException.class, () -> x.alike(0, 0));
        Due.parse(x, 0, "a");
        for (int wrong : WRONG_SLOTS) {
            for (int slot = 0; slot < 2; slot++) {
                int right = slot;
                Due.dueThrow("alike", x, IndexOutOfBoundsException.class, () -> x.alike(wrong, right));
                Due.dueThrow("alike", x, IndexOutOfBoundsException.class, () -> x.alike(right, wrong));
            }
        }
        Due.dueThrow("alike", x, NoSuchElementException.class, () -> x.alike(0, 1));
        Due.dueThrow("alike", x, NoSuchElementException.class, () -> x.alike(1, 0));
        Due.due("alike itself", x.alike(0, 0), 9);
    }

    private static void alikes(String one, String other, int want) {
        Linkloom x = new Linkloom();
        Due.parse(x, 1, one);
        Due.parse(x, 2, other);
        Due.due("alike of " + one + " and " + other, x.alike(1, 2), want);
        Due.due("alike of " + other + " and " + one, x.alike(2, 1), want);
    }

    private static void wrongs() {
        Linkloom x = new Linkloom();
        Due.parse(x, 1, "a");
        for (int slot : WRONG_SLOTS) {
            wrong(x, slot, 'w', IndexOutOfBoundsException.class);
            wrong(x, slot, 'x', IndexOutOfBoundsException.class);
        }
        for (char part : WRONG_PARTS) {
            wrong(x, 0, part, IllegalArgumentException.class);
            wrong(x, 1, part, IllegalArgumentException.class);
        }
        for (int i = 0; i < PARTS.length(); i++) {
            wrong(x, 0, PARTS.charAt(i), NoSuchElementException.class);
        }
    }

    private static void wrong(Linkloom x, int slot, char part, Class<? extends RuntimeException> want) {
        Due.dueThrow("size", x, want, () -> x.size(slot, part));
        Due.dueThrow("partSign", x, want, () -> x.partSign(slot, part, 0));
        Due.dueThrow("partSign", x, want, () -> x.partSign(slot, part, -1));
        Due.dueThrow("begin", x, want, () -> x.begin(slot, part));
        Due.dueThrow("append", x, want, () -> x.append(slot, part));
    }
}
