import java.util.NoSuchElementException;

/** Promises 23 to 26: parts put together, the theorem, and the sum. */
public final class TogetherTest {
    private static final int[] WRONG_SLOTS = {-1, 4, Integer.MIN_VALUE, Integer.MAX_VALUE};
    private static final String PARTS = "smauhpqfw";
    private static final String FULL = "http://u:p@h:9/p?q#f";

    public static void main(String[] args) {
        together();
        mix();
        mixTooLong();
        mixWrongs();
        isTrue();
        checksum();
        Due.end("TogetherTest");
    }

    private static void together() {
        String[] whole = {"", "a", FULL, "a:b", "a:b#", "a:/b", "//h", "//h?#", "?", "#", "/b%41", "a:b//c?d"};
        for (String text : whole) {
            together(text, text, true);
        }
        together("a:///b", "a:/b", false);
        together("///", "/", false);
        together("////b", "//b", false);
        together("//?", "?", false);
        together("//#", "#", false);
        together("a:///?q#f", "a:/?q#f", false);
        Linkloom x = new Linkloom();
        for (int wrong : WRONG_SLOTS) {
            Due.dueThrow("together", x, IndexOutOfBoundsException.class, () -> Due.asLong(x.together(wrong)));
        }
        Due.dueThrow("together", x, NoSuchElementException.class, () -> Due.asLong(x.together(0)));
    }

    private static void together(String text, String want, boolean isWhole) {
        Linkloom x = new Linkloom();
        Due.parse(x, 2, text);
        x.type('z');
        Due.due("together of " + text, x.together(2), isWhole);
        Due.due("together of " + text, Due.text(x), want);
        Due.due("the slot stays", "" + Due.part(x, 2, 'w'), text);
        int pieces = want.replaceAll("%..", "%").length();
        for (int i = 0; i < pieces; i++) {
            x.drop();
        }
        Due.due("pieces of " + text, x.length(), 0);
    }

    private static void mix() {
        mixed(FULL, "a://b/c?d#e", 's', "a://u:p@h:9/p?q#f");
        mixed(FULL, "a://b/c?d#e", 'a', "http://b/p?q#f");
        mixed(FULL, "a://b/c?d#e", 'p', "http://u:p@h:9/c?q#f");
        mixed(FULL, "a://b/c?d#e", 'q', "http://u:p@h:9/p?d#f");
        mixed(FULL, "a://b/c?d#e", 'f', "http://u:p@h:9/p?q#e");
        mixed(FULL, "", 's', "//u:p@h:9/p?q#f");
        mixed(FULL, "", 'a', "http:/p?q#f");
        mixed(FULL, "", 'p', "http://u:p@h:9?q#f");
        mixed(FULL, "", 'q', "http://u:p@h:9/p#f");
        mixed(FULL, "", 'f', "http://u:p@h:9/p?q");
        mixed("", FULL, 's', "http:");
        mixed("", FULL, 'a', "//u:p@h:9");
        mixed("", FULL, 'p', "/p");
        mixed("", FULL, 'q', "?q");
        mixed("", FULL, 'f', "#f");
        mixed("a", "?#", 'q', "a?");
        mixed("a", "?#", 'f', "a#");
        mixed("a", "//@h:", 'a', "//@h:a");
        mixed("file:///p/q", "//1.2.3.4:81", 'a', "file://1.2.3.4:81/p/q");
        mixed("a:////b", "c:/", 's', "c://b");
        mixed("/a", "b%41", 'p', "b%41");
        Linkloom x = new Linkloom();
        Due.parse(x, 0, "///p");
        x.type('z');
        Due.due("mix with itself", x.mix(0, 0, 'a'), 2);
        Due.due("mix with itself", Due.text(x), "/p");
    }

    private static void mixed(String text, String other, char part, String want) {
        Linkloom x = new Linkloom();
        Due.parse(x, 3, text);
        Due.parse(x, 1, other);
        x.type('z');
        Due.due("mix " + text + " " + other + " " + part, x.mix(3, 1, part), want.length());
        Due.due("mix " + text + " " + other + " " + part, Due.text(x), want);
        Due.due("the slots stay", Due.part(x, 3, 'w') + Due.part(x, 1, 'w'), text + other);
        if (want.endsWith("%41")) {
            Due.due("drop() of an escape", x.drop(), want.length() - 3);
        }
    }

    private static void mixTooLong() {
        String path = "/aaaaaaaaaaaaaaaaaaaaaaaaaaaaaaaaaaaaaaaa";
        Linkloom x = new Linkloom();
        Due.parse(x, 0, "a://h" + path);
        Due.parse(x, 1, "a:/?bbbbbbbbbbbbb");
        Due.parse(x, 2, "a:/?bbbbbbbbbbbbbb");
        Due.parse(x, 3, "//" + path.substring(1) + "bbbbbbbbbbbbbbbbb");
        Due.due("mix to 60", x.mix(0, 1, 'q'), 60);
        Due.dueThrow("mix to 61", x, IllegalStateException.class, () -> x.mix(0, 2, 'q'));
        Due.dueThrow("mix to over 100", x, IllegalStateException.class, () -> x.mix(0, 3, 'a'));
        Due.due("mix to fewer", x.mix(3, 0, 'a'), 3);
        Due.parse(x, 1, "?" + path + "bbbbbbbbbbbbbbbbbb");
        Due.parse(x, 2, "#" + path + "bbbbbbbbbbbbbbbbbb");
        Due.dueThrow("mix to 120", x, IllegalStateException.class, () -> x.mix(1, 2, 'f'));
        Due.dueThrow("mix to 120", x, IllegalStateException.class, () -> x.mix(2, 1, 'q'));
        Due.due("the text stays", Due.text(x), "#" + path + "bbbbbbbbbbbbbbbbbb");
    }

    private static void mixWrongs() {
        String long60 = "/aaaaaaaaaaaaaaaaaaaaaaaaaaaaaaaaaaaaaaaaaaaaaaaaaaaaaaaaaaa";
        Linkloom x = new Linkloom();
        Due.parse(x, 0, long60);
        Due.parse(x, 1, "a:b");
        Due.parse(x, 2, "?q");
        char[] wrongParts = {'m', 'u', 'h', 'w', 'x', 'S', (char) 0, (char) 65535};
        for (int wrong : WRONG_SLOTS) {
            for (int i = 0; i < 4; i++) {
                int slot = i;
                Due.dueThrow("mix", x, IndexOutOfBoundsException.class, () -> x.mix(wrong, slot, 'x'));
                Due.dueThrow("mix", x, IndexOutOfBoundsException.class, () -> x.mix(slot, wrong, 'x'));
            }
        }
        for (char part : wrongParts) {
            Due.dueThrow("mix", x, NoSuchElementException.class, () -> x.mix(3, 1, part));
            Due.dueThrow("mix", x, NoSuchElementException.class, () -> x.mix(1, 3, part));
            Due.dueThrow("mix", x, IllegalArgumentException.class, () -> x.mix(0, 1, part));
            Due.dueThrow("mix", x, IllegalArgumentException.class, () -> x.mix(1, 0, part));
            Due.dueThrow("mix", x, IllegalArgumentException.class, () -> x.mix(0, 2, part));
        }
        for (char part : "sapqf".toCharArray()) {
            Due.dueThrow("mix", x, NoSuchElementException.class, () -> x.mix(3, 1, part));
            Due.dueThrow("mix", x, UnsupportedOperationException.class, () -> x.mix(0, 1, part));
            Due.dueThrow("mix", x, UnsupportedOperationException.class, () -> x.mix(1, 0, part));
            Due.dueThrow("mix", x, UnsupportedOperationException.class, () -> x.mix(1, 1, part));
        }
        Due.dueThrow("mix", x, IllegalStateException.class, () -> x.mix(0, 2, 'q'));
        Due.due("mix", x.mix(0, 2, 'f'), 60);
    }

    private static void isTrue() {
        Linkloom x = new Linkloom();
        String[] texts = {"", "a:b#c", "a:///b?c#", "////", "//?", FULL, "//a_b:9", "/%41", "//@h:2147483647/"};
        for (int i = 0; i < texts.length; i++) {
            Due.parse(x, i % 4, texts[i]);
            long before = x.checksum();
            Due.due("isTrue() with " + texts[i], x.isTrue(), true);
            Due.due("isTrue() changes nothing", x.checksum(), before);
            Due.due("isTrue() leaves the text", Due.text(x), texts[i]);
        }
        Due.due("parse", Due.parse(x, 0, "<"), 0);
        Due.due("isTrue()", x.isTrue(), true);
        Due.due("refusals() stays", x.refusals(), 1);
    }

    private static void checksum() {
        Linkloom x = new Linkloom();
        sum(x);
        Due.due("checksum() of a new one", x.checksum(), ((((7L * 31) * 31) * 31) * 31) * 31);
        Due.typeAll(x, "ab");
        sum(x);
        Due.parse(x, 1, "{");
        sum(x);
        Due.parse(x, 2, FULL);
        sum(x);
        Due.parse(x, 0, "a:b#");
        Due.parse(x, 3, "//h:2147483647");
        sum(x);
        x.copy(1, 0);
        sum(x);
        Due.parse(x, 1, "a/b");
        for (int i = 0; i < 20; i++) {
            x.parse(1);
            x.type('}');
            sum(x);
        }
    }

    /** The sum, put together by the other calls' answers. */
    private static void sum(Linkloom x) {
        long sum = 7;
        for (int place = 0; place < x.length(); place++) {
            sum = 31 * sum + x.signAt(place);
        }
        sum = 31 * sum + x.refusals();
        for (int slot = 0; slot < 4; slot++) {
            if (!x.isThere(slot)) {
                sum = 31 * sum;
            } else {
                for (char part : PARTS.toCharArray()) {
                    sum = 31 * sum + x.size(slot, part);
                }
                sum = 31 * sum + x.port(slot);
            }
        }
        Due.due("checksum()", x.checksum(), sum);
        Due.due("checksum() again", x.checksum(), sum);
    }
}
