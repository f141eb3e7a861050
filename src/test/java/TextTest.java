import java.util.NoSuchElementException;

/** Promises 1 to 8: a new object, and the text. */
public final class TextTest {
    private static final String[] WORDS = {
        "http", "file", "mailto", "a", ":", "//", "/", "?", "#", "@", "user", "u:p", "host",
        "w.x-y.com", "1.2.3.4", "1.2.3.256", ":81", "-", ".", "a-", "9", "_", "p/q", "..",
        "x=1&y=2", ";v=1", "%41%7e", "~(!)*'", "$", "{", "<>", "2147483648"};

    public static void main(String[] args) {
        newObject();
        type();
        escape();
        word();
        drop();
        wipe();
        lengthAndSignAt();
        Due.end("TextTest");
    }

    private static Linkloom full(int signs) {
        Linkloom x = new Linkloom();
        for (int i = 0; i < signs; i++) {
            x.type('a');
        }
        return x;
    }

    private static void newObject() {
        Linkloom x = new Linkloom();
        Due.due("new length()", x.length(), 0);
        Due.due("new refusals()", x.refusals(), 0);
        for (int slot = 0; slot < 4; slot++) {
            Due.due("new isThere", x.isThere(slot), false);
        }
        Due.due("new isTrue()", x.isTrue(), true);
        Due.due("two objects", full(3).length() + new Linkloom().length(), 3);
    }

    private static void type() {
        for (int code = 0; code <= 0xffff; code++) {
            char sign = (char) code;
            Linkloom x = new Linkloom();
            boolean isTyped = code >= 33 && code <= 126 && "%[]0".indexOf(sign) < 0;
            if (isTyped) {
                Due.due("type " + code, x.type(sign), 1);
                Due.due("typed " + code, x.signAt(0), code);
            } else {
                Due.dueThrow("type " + code, x, IllegalArgumentException.class, () -> x.type(sign));
            }
        }
        Linkloom x = full(59);
        Due.due("type the 60th", x.type('~'), 60);
        Due.dueThrow("type the 61st", x, IllegalStateException.class, () -> x.type('a'));
        Due.dueThrow("type a wrong 61st", x, IllegalArgumentException.class, () -> x.type('%'));
    }

    private static void escape() {
        for (int value = 0; value <= 255; value++) {
            Linkloom x = new Linkloom();
            Due.due("escape " + value, x.escape(value, true), 3);
            Due.due("escape " + value, x.escape(value, false), 6);
            String want = String.format("%%%02x%%%02X", value, value);
            Due.due("escape " + value, Due.text(x), want);
        }
        int[] wrong = {-1, 256, Integer.MIN_VALUE, Integer.MAX_VALUE};
        Linkloom full = full(60);
        for (int value : wrong) {
            Linkloom x = new Linkloom();
            Due.dueThrow("escape " + value, x, IllegalArgumentException.class, () -> x.escape(value, true));
            Due.dueThrow("escape " + value, full, IllegalArgumentException.class, () -> full.escape(value, false));
        }
        Due.due("escape to the 60th", full(57).escape(1, true), 60);
        Linkloom x = full(58);
        Due.dueThrow("escape to the 61st", x, IllegalStateException.class, () -> x.escape(1, true));
    }

    private static void word() {
        for (int which = 0; which < WORDS.length; which++) {
            Linkloom x = new Linkloom();
            Due.due("word " + which, x.word(which), WORDS[which].length());
            Due.due("word " + which, Due.text(x), WORDS[which]);
            pieces(x, "word " + which);
            Linkloom y = full(60 - WORDS[which].length());
            Due.due("word to the 60th", y.word(which), 60);
            int number = which;
            Linkloom z = full(61 - WORDS[which].length());
            Due.dueThrow("word to the 61st", z, IllegalStateException.class, () -> z.word(number));
        }
        int[] wrong = {-1, 32, Integer.MIN_VALUE, Integer.MAX_VALUE};
        Linkloom full = full(60);
        for (int which : wrong) {
            Linkloom x = new Linkloom();
            Due.dueThrow("word " + which, x, IndexOutOfBoundsException.class, () -> x.word(which));
            Due.dueThrow("word " + which, full, IndexOutOfBoundsException.class, () -> full.word(which));
        }
    }

    /** Drops the whole text: each sign is a piece, and each escape. */
    private static void pieces(Linkloom x, String what) {
        String text = Due.text(x);
        while (!text.isEmpty()) {
            int escape = text.lastIndexOf('%');
            int left = escape >= 0 && escape == text.length() - 3 ? escape : text.length() - 1;
            Due.due(what + " drop()", x.drop(), left);
            text = text.substring(0, left);
            Due.due(what + " drop()", Due.text(x), text);
        }
    }

    private static void drop() {
        Linkloom x = new Linkloom();
        Due.dueThrow("drop() of nothing", x, NoSuchElementException.class, x::drop);
        x.type('a');
        x.escape(0, true);
        x.escape(37, false);
        x.type('4');
        x.type('1');
        pieces(x, "a%00%2541");
        Due.dueThrow("drop() of nothing", x, NoSuchElementException.class, x::drop);
        Linkloom y = full(60);
        Due.due("drop() of the 60th", y.drop(), 59);
        Due.due("type again", y.type('b'), 60);
    }

    private static void wipe() {
        Linkloom x = full(60);
        Due.due("wipe() of 60", x.wipe(), 60);
        Due.due("wipe() of none", x.wipe(), 0);
        Due.due("length() then", x.length(), 0);
        Due.due("word then", x.word(13), 9);
        Due.due("text then", Due.text(x), "w.x-y.com");
    }

    private static void lengthAndSignAt() {
        Linkloom x = new Linkloom();
        Due.dueThrow("signAt of nothing", x, IndexOutOfBoundsException.class, () -> x.signAt(0));
        Due.typeAll(x, "a%7e~");
        Due.due("length()", x.length(), 5);
        Due.due("signAt 1", x.signAt(1), '%');
        Due.due("signAt 4", x.signAt(4), '~');
        int[] wrong = {-1, 5, 60, Integer.MIN_VALUE, Integer.MAX_VALUE};
        for (int place : wrong) {
            Due.dueThrow("signAt " + place, x, IndexOutOfBoundsException.class, () -> x.signAt(place));
        }
        x.drop();
        Due.dueThrow("signAt of a dropped one", x, IndexOutOfBoundsException.class, () -> x.signAt(4));
    }
}
