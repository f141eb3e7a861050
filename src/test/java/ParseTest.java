import java.util.NoSuchElementException;

/** Promises 9 to 16: what is taken and refused by the rules 1 to 6, and what is told of it. */
public final class ParseTest {
    private static final int[] WRONG_SLOTS = {-1, 4, Integer.MIN_VALUE, Integer.MAX_VALUE};
    private static final String BAD_SIGNS = "\"<>\\^`{|}";

    public static void main(String[] args) {
        taken();
        refused();
        badInAuthority();
        eachSign();
        slotsAndRefusals();
        servers();
        kinds();
        wrongSlots();
        Due.end("ParseTest");
    }

    private static void taken() {
        String[] texts = {
            "", "a", "a:b", "a:b#", "a:b#c", "/", "?", "#", "?#", "//a", "///", "//?", "//#", "a:/", "a:///",
            "a:////", "////", "/a:b", "?a:b", "#a:b", "aZ9+-.:b", "a:?", "a:b/c?d#e/?:@", "%41", "%41/%00?%ff#%7E",
            "a:%41", "//%41", "//%41@b", "~(!)*'-_.", "/;:@&=+$,", "?;/?:@&=+$,", "#;/?:@&=+$,",
            "//$,;:@&=+", "//~(!)*'", "a:;", "a:@", "a:b:c", "+", "9", "-a/b:c"};
        for (String text : texts) {
            Due.due("parse of " + text, Due.parse(new Linkloom(), 0, text), -1);
        }
    }

    private static void refused() {
        refusedAt(":", 0);
        refusedAt(":a", 0);
        refusedAt("://a", 0);
        refusedAt("9:a", 0);
        refusedAt("9", -1);
        refusedAt("+a:b", 0);
        refusedAt("%41:b", 0);
        refusedAt("a%41:b", 1);
        refusedAt("a@b:c", 1);
        refusedAt("ab_:c", 2);
        refusedAt("a{:c", 1);
        refusedAt("{:c", 0);
        refusedAt("a:", 2);
        refusedAt("a:#b", 2);
        refusedAt("a:#", 2);
        refusedAt("9:", 0);
        refusedAt("//", 2);
        refusedAt("a://", 4);
        refusedAt("9a://", 0);
        refusedAt("a:b##", 4);
        refusedAt("##", 1);
        refusedAt("#a#", 2);
        refusedAt("#a{#", 2);
        refusedAt("//a#?#", 5);
        for (int i = 0; i < BAD_SIGNS.length(); i++) {
            char bad = BAD_SIGNS.charAt(i);
            refusedAt("a:b" + bad, 3);
            refusedAt("a:" + bad + "#" + bad, 2);
            refusedAt("/a" + bad + "?" + bad, 2);
            refusedAt("" + bad, 0);
            refusedAt("?a" + bad + "#" + bad, 2);
            refusedAt("?%41" + bad, 4);
            refusedAt("//a/" + bad, 4);
            refusedAt("//a?" + bad, 4);
            refusedAt("//a#" + bad, 4);
            refusedAt("#a" + bad, 2);
            refusedAt("a:b#" + bad, 4);
            refusedAt("///" + bad, 3);
        }
    }

    private static void refusedAt(String text, int place) {
        Linkloom x = new Linkloom();
        Due.due("parse of " + text, Due.parse(x, 1, text), place);
        Due.due("isThere after " + text, x.isThere(1), place == -1);
        Due.due("refusals() after " + text, x.refusals(), place == -1 ? 0 : 1);
        if (place != -1) {
            Due.due("refusedAt() after " + text, x.refusedAt(), place);
            Due.due("isTold() after " + text, x.isTold(), true);
        }
    }

    private static void badInAuthority() {
        for (int i = 0; i < BAD_SIGNS.length(); i++) {
            char bad = BAD_SIGNS.charAt(i);
            String[] texts = {
                "//" + bad, "//a" + bad + "b", "a://a@" + bad, "//a:9" + bad + "/p", "://" + bad, "9://a" + bad,
                "a{b://" + bad, "//" + bad + "#a#", "//a" + bad + "?{", "//%41" + bad};
            for (String text : texts) {
                Linkloom x = new Linkloom();
                Due.parse(x, 0, "a");
                x.wipe();
                Due.typeAll(x, text);
                Due.dueThrow("parse of " + text, x, IllegalStateException.class, () -> x.parse(0));
                Due.dueThrow("parse of " + text, x, IndexOutOfBoundsException.class, () -> x.parse(4));
                Due.dueThrow("refusedAt after " + text, x, NoSuchElementException.class, x::refusedAt);
            }
        }
        // These have no authority, or the bad sign stands behind it.
        refusedAt("a/b://{", 6);
        refusedAt("/a//{", 4);
        refusedAt("a:b//{", 5);
        refusedAt("//?{", 3);
        refusedAt("a:///{", 5);
    }

    /** Each sign that can be typed, at each kind of place where the rules tell signs apart. */
    private static void eachSign() {
        for (char sign = '!'; sign <= '~'; sign++) {
            if ("%[]0".indexOf(sign) < 0) {
                String s = String.valueOf(sign);
                boolean isLetter = s.matches("[a-zA-Z]");
                boolean isScheme = s.matches("[a-zA-Z1-9+.-]");
                if (":/?#".indexOf(sign) < 0) {
                    refusedAt(s + ":b", isLetter ? -1 : 0);
                    refusedAt("a" + s + ":b", isScheme ? -1 : 1);
                }
                if ("/?#@:".indexOf(sign) < 0 && BAD_SIGNS.indexOf(sign) < 0) {
                    hostOf(s, s.matches("[a-zA-Z1-9]"));
                    hostOf("a" + s + "b", s.matches("[a-zA-Z1-9.-]"));
                    hostOf("a." + s, isLetter);
                    server("h:" + s, null, s.matches("[1-9]") ? "h" : null, s.matches("[1-9]") ? sign - '0' : -1);
                }
                boolean isBad = BAD_SIGNS.indexOf(sign) >= 0;
                refusedAt("a:b" + s, isBad ? 3 : -1);
                refusedAt("/" + s, isBad ? 1 : sign == '/' ? 2 : -1);
                refusedAt("?" + s, isBad ? 1 : -1);
                refusedAt("#" + s, isBad || sign == '#' ? 1 : -1);
            }
        }
    }

    private static void hostOf(String host, boolean isHost) {
        server(host, null, isHost ? host : null, -1);
    }

    private static void slotsAndRefusals() {
        Linkloom x = new Linkloom();
        Due.dueThrow("refusedAt()", x, NoSuchElementException.class, x::refusedAt);
        Due.dueThrow("isTold()", x, NoSuchElementException.class, () -> Due.asLong(x.isTold()));
        for (int slot = 0; slot < 4; slot++) {
            Due.due("parse", Due.parse(x, slot, "a:b" + (slot + 1)), -1);
            for (int other = 0; other < 4; other++) {
                Due.due("isThere", x.isThere(other), other <= slot);
            }
        }
        Due.due("refusals()", x.refusals(), 0);
        Due.dueThrow("refusedAt()", x, NoSuchElementException.class, x::refusedAt);
        Due.due("parse", Due.parse(x, 2, "a:"), 2);
        Due.due("parse", Due.parse(x, 2, "<"), 0);
        Due.due("refusals()", x.refusals(), 2);
        Due.due("refusedAt()", x.refusedAt(), 0);
        Due.due("the slot stays", Due.part(x, 2, 'w'), "a:b3");
        Due.due("parse", Due.parse(x, 2, "/c"), -1);
        Due.due("the slot has it", Due.part(x, 2, 'w'), "/c");
        Due.due("the others stay", Due.part(x, 1, 'w') + Due.part(x, 3, 'w'), "a:b2a:b4");
        Due.due("refusals()", x.refusals(), 2);
        Due.due("refusedAt()", x.refusedAt(), 0);
        Due.due("isTold()", x.isTold(), true);
        x.type('d');
        Due.due("typing leaves the slot", Due.part(x, 2, 'w'), "/c");
        for (int i = 3; i <= 300; i++) {
            x.parse(0);
            x.type('>');
            x.parse(0);
            x.drop();
        }
        Due.due("refusals()", x.refusals(), 300);
    }

    /** Authorities: user info, host and port, and those that have none of them. */
    private static void servers() {
        server("host", null, "host", -1);
        server("host:", null, "host", -1);
        server("host:81", null, "host", 81);
        server("@host", "", "host", -1);
        server("u:p@host:9", "u:p", "host", 9);
        server("u%41;&=+$,~(!)*'@host", "u%41;&=+$,~(!)*'", "host", -1);
        server("a.", null, "a.", -1);
        server("a.:81", null, "a.", 81);
        server("9", null, "9", -1);
        server("9.", null, "9.", -1);
        server("9a-b", null, "9a-b", -1);
        server("9.a", null, "9.a", -1);
        server("9.a9.", null, "9.a9.", -1);
        server("a--b.c", null, "a--b.c", -1);
        server("1.2.3.4", null, "1.2.3.4", -1);
        server("255.255.255.255:1", null, "255.255.255.255", 1);
        server("1.2.3.4.a", null, "1.2.3.4.a", -1);
        server("host:2147483647", null, "host", 2147483647);
        server("u@1.2.3.4:2147483647", "u", "1.2.3.4", 2147483647);
        String[] none = {
            "@", ":", ":81", "u@", "u@:81", ".", "..", ".a", "a..", "a..b", "-", "-a", "a-", "a-.b", "a.-b", "a.b-",
            "a.9", "a.9.", "9.9", "1.2.3", "1.2.3.4.", "1.2.3.4.5", "1.2.3.256", "1.2.3.1111", "1.2.3.4a", "a_b", "_",
            "%41", "a%41", "host:a", "host:8a", "host:8:1", "host::", "host:-1", "host:+1", "host:%31",
            "host:2147483648", "host:9999999999999999999999999999999999999999999999999", "a@b@c", "u@h@", "a$", "a,b",
            "a;b", "a&b", "a=b", "a+b", "a~", "host:81@", "1.2.3.4:99999999999", "1..2.3", ".1.2.3.4", "1.2.3.4..",
            "256.1.1.1", "4294967297.1.1.1", "99999999999999999999.1.1.1"};
        for (String authority : none) {
            server(authority, null, null, -1);
        }
    }

    private static void server(String authority, String user, String host, int port) {
        String[] ahead = {"//", "a://"};
        String[] behind = {"", "/", "/p", "?q", "#f"};
        for (String a : ahead) {
            for (String b : behind) {
                String text = a + authority + b;
                if (text.length() <= 60) {
                    Linkloom x = new Linkloom();
                    Due.due("parse of " + text, Due.parse(x, 3, text), -1);
                    Due.due("authority of " + text, "" + Due.part(x, 3, 'a'), authority);
                    Due.due("user info of " + text, "" + Due.part(x, 3, 'u'), "" + user);
                    Due.due("host of " + text, "" + Due.part(x, 3, 'h'), "" + host);
                    Due.due("port of " + text, x.port(3), port);
                }
            }
        }
    }

    private static void kinds() {
        kind("", false, false);
        kind("a", false, false);
        kind("//a:b", false, false);
        kind("a:b", true, true);
        kind("a:?b", true, true);
        kind("a:b/c#d", true, true);
        kind("a:/b", true, false);
        kind("a://b", true, false);
        kind("?a:b", false, false);
    }

    private static void kind(String text, boolean isAbsolute, boolean isOpaque) {
        Linkloom x = new Linkloom();
        Due.parse(x, 0, text);
        Due.due("isAbsolute of " + text, x.isAbsolute(0), isAbsolute);
        Due.due("isOpaque of " + text, x.isOpaque(0), isOpaque);
    }

    private static void wrongSlots() {
        Linkloom x = new Linkloom();
        Due.typeAll(x, "//<");
        for (int slot : WRONG_SLOTS) {
            Due.dueThrow("parse", x, IndexOutOfBoundsException.class, () -> x.parse(slot));
            Due.dueThrow("isThere", x, IndexOutOfBoundsException.class, () -> Due.asLong(x.isThere(slot)));
            Due.dueThrow("isAbsolute", x, IndexOutOfBoundsException.class, () -> Due.asLong(x.isAbsolute(slot)));
            Due.dueThrow("isOpaque", x, IndexOutOfBoundsException.class, () -> Due.asLong(x.isOpaque(slot)));
            Due.dueThrow("port", x, IndexOutOfBoundsException.class, () -> x.port(slot));
        }
        for (int i = 0; i < 4; i++) {
            int slot = i;
            Due.dueThrow("isAbsolute", x, NoSuchElementException.class, () -> Due.asLong(x.isAbsolute(slot)));
            Due.dueThrow("isOpaque", x, NoSuchElementException.class, () -> Due.asLong(x.isOpaque(slot)));
            Due.dueThrow("port", x, NoSuchElementException.class, () -> x.port(slot));
        }
    }
}
