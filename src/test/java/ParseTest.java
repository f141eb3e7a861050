import java.math.BigInteger;

/** Promise 9: what is an address by the rules 1 to 6, its parts, and where any other text is refused. */
final class ParseTest {
    private static final String BAD_SIGNS = "\"<>\\^`{|}";

    public static void main(String[] args) {
        Due.run(ParseTest.class);
    }

    /** The text is an address with just these parts, as Due.parts() tells them. */
    private static void cut(String text, String parts) {
        Linkloom x = new Linkloom();
        Due.due("parse of " + text, Due.parse(x, 0, text), -1);
        Due.due("parts of " + text, Due.parts(x, 0), parts);
        Due.due("the whole of " + text, Due.part(x, 0, 'w'), text);
    }

    private static void taken(String text) {
        Due.due("parse of " + text, Due.parse(new Linkloom(), 0, text), -1);
    }

    private static void refusedAt(int place, String text) {
        Linkloom x = Due.made("", null, "a:b");
        Due.due("parse of " + text, Due.parse(x, 1, text), place);
        Due.due("what the slot has after " + text, Due.part(x, 1, 'w'), "a:b");
    }

    private static void badAuthority(String text) {
        Due.refused("parse of " + text, IllegalStateException.class, () -> Due.made(text, "a:b"), x -> x.parse(0));
    }

    /** The authority has just these; "none" is told for a user info or a host that it does not have. */
    private static void server(String authority, String user, String host, int port) {
        for (String text : new String[] {"//" + authority, "a://" + authority + "/", "//" + authority + "?@:9#:9"}) {
            if (text.length() <= 60) {
                Linkloom x = Due.made("", text);
                Due.due("authority of " + text, Due.part(x, 0, 'a'), authority);
                Due.due("user info of " + text, Due.part(x, 0, 'u'), user);
                Due.due("host of " + text, Due.part(x, 0, 'h'), host);
                Due.due("port of " + text, x.port(0), port);
            }
        }
    }

    private static void host(String host) {
        server(host, "none", host, -1);
        server("u@" + host + ":9", "u", host, 9);
    }

    private static void noHost(String host) {
        server(host, "none", "none", -1);
        server("u@" + host + ":9", "none", "none", -1);
    }

    // ---- promise 9: the call

    @Says({"Asks whether the text is an address; if it is, the slot has that address then",
            "Returns -1 if it is one"})
    static void promise09AnAddressIsInTheSlotThen() {
        Linkloom x = Due.made("", "a:b", "c:d");
        Due.due("parse", Due.parse(x, 1, "/p?q"), -1);
        Due.due("the slot", Due.part(x, 1, 'w'), "/p?q");
        Due.due("another slot", Due.part(x, 0, 'w'), "a:b");
        Due.due("the text", Due.text(x), "/p?q");
    }

    @Says("Asks whether the text is an address; if it is, the slot has that address then")
    static void promise09TheAddressStaysWhenTheTextChanges() {
        Linkloom x = Due.made("a:b");
        x.parse(0);
        x.drop();
        x.type('c');
        x.wipe();
        Due.due("the slot", Due.part(x, 0, 'w'), "a:b");
    }

    @Says("otherwise the slot stays.")
    static void promise09TheSlotStaysWhenTheTextIsRefused() {
        Linkloom x = Due.made("a:", "//u@h:9/p?q#f");
        Due.due("parse", x.parse(0), 2);
        Due.due("the slot", Due.parts(x, 0), "m=//u@h:9/p?q a=u@h:9 u=u h=h p=/p q=q f=f");
        Due.due("the port", x.port(0), 9);
        Due.due("an empty slot", x.parse(3), 2);
        Due.due("isThere 3", x.isThere(3), false);
    }

    @Says("otherwise the place at which it is refused.")
    static void promise09TheFirstAndTheLastPlaceOfAll() {
        refusedAt(0, "{" + Due.signs(59));
        refusedAt(59, Due.signs(59) + "{");
        refusedAt(60, Due.signs(59) + ":");
        refusedAt(60, Due.signs(57) + "://");
    }

    @Says("`slot`: 0 to 3")
    static void promise09TheSlots0And3AreTaken() {
        for (int slot = 0; slot < 4; slot++) {
            Linkloom x = Due.made("a");
            Due.due("parse " + slot, x.parse(slot), -1);
            for (int other = 0; other < 4; other++) {
                Due.due("isThere " + other, x.isThere(other), other == slot);
            }
        }
    }

    @Says("Throws `IndexOutOfBoundsException` if there is no such slot")
    static void promise09ThereAreNoSlotsBelow0AndAbove3() {
        for (int slot : new int[] {-1, 4, 256, Integer.MIN_VALUE, Integer.MAX_VALUE}) {
            Due.refused("parse " + slot, IndexOutOfBoundsException.class, () -> Due.made("a", "b"),
                    x -> x.parse(slot));
            Due.refused("parse " + slot, IndexOutOfBoundsException.class, () -> Due.made("a:", "b"),
                    x -> x.parse(slot));
        }
    }

    @Says("If several exceptions apply, the one that is documented first is thrown.")
    static void promise09AWrongSlotComesAheadOfABadAuthority() {
        for (int slot : new int[] {-1, 4}) {
            Due.refused("parse " + slot, IndexOutOfBoundsException.class, () -> Due.made("//{", "b"),
                    x -> x.parse(slot));
        }
    }

    @Says("Throws `IllegalStateException` if a bad sign stands in its authority, as cut out by the rules 1 and 3")
    static void promise09ABadSignInTheAuthorityThrows() {
        for (char bad : BAD_SIGNS.toCharArray()) {
            badAuthority("//" + bad);
            badAuthority("//a" + bad + "b");
            badAuthority("a://h:9" + bad + "/p");
            badAuthority("//%41" + bad + "?q");
            badAuthority("//u" + bad + "@h#f");
        }
    }

    @Says("whatever else is refused")
    static void promise09ABadAuthorityThrowsWhateverElseIsRefused() {
        badAuthority("://{");
        badAuthority("9://{");
        badAuthority("a_://{");
        badAuthority("{://{");
        badAuthority("//{#a#");
        badAuthority("//{?{");
        badAuthority("//{/{");
    }

    @Says("A method that throws an exception changes nothing.")
    static void promise09ABadAuthorityIsNoRefusal() {
        Due.refused("parse of //<", IllegalStateException.class, () -> {
            Linkloom x = Due.made("a:", "b");
            x.parse(0);
            x.wipe();
            Due.typeAll(x, "//<");
            return x;
        }, x -> x.parse(0));
    }

    @Says("as cut out by the rules 1 and 3")
    static void promise09ABadSignElsewhereDoesNotThrow() {
        refusedAt(3, "//?{");
        refusedAt(3, "//#{");
        refusedAt(3, "///{");
        refusedAt(4, "//h/{");
        refusedAt(0, "{//h");
        refusedAt(1, "a{://h");
        refusedAt(5, "a:b//{");
        refusedAt(4, "/a//{");
        refusedAt(6, "a/b://{");
        refusedAt(3, "?//{");
        refusedAt(1, "/{//a");
    }

    // ---- promise 9: the terms ahead of the rules

    @Says({"A text that can be typed here is an address just if the rules 1 to 6 take it, and has then just the parts "
            + "that they cut out", "Rules. Each part begins where the rules before have come to."})
    static void promise09AnAddressHasJustThePartsThatTheRulesCut() {
        cut("a://u:p@h:81/p/q?x=1#f", "s=a m=//u:p@h:81/p/q?x=1 a=u:p@h:81 u=u:p h=h p=/p/q q=x=1 f=f");
        cut("a:b?c#d", "s=a m=b?c f=d");
        cut("a", "m=a p=a");
    }

    @Says("it may be empty")
    static void promise09TheEmptyTextIsAnAddress() {
        cut("", "m= p=");
    }

    @Says("any other one is refused at the first place at which they refuse it.")
    static void promise09TheFirstOfSeveralPlacesIsTold() {
        refusedAt(0, "9_:{#{#");
        refusedAt(1, "a_:{#{#");
        refusedAt(2, "a:{#{#");
        refusedAt(1, "/{?{#{#");
        refusedAt(3, "/a?{#{#");
        refusedAt(1, "a_:");
        refusedAt(0, ":");
        refusedAt(0, "://");
        refusedAt(1, "a_://");
        refusedAt(2, "a:#{");
    }

    @Says("Letters and digits are those of this alphabet.")
    static void promise09LettersAndDigitsEndWhereTheAlphabetDoes() {
        for (String letter : "a z A Z".split(" ")) {
            taken(letter + ":b");
            host("h." + letter);
        }
        for (String digit : "1 9".split(" ")) {
            taken("a" + digit + ":b");
            host("h" + digit);
        }
        for (String neither : "@ ^ ` { ; _".split(" ")) {
            refusedAt(0, neither + "x:b");
            refusedAt(1, "a" + neither + ":b");
        }
        noHost("h;");
    }

    @Says("The marks are - _ . ! ~ * ' ( and ).")
    static void promise09MarksAreNotBad() {
        String marks = "-_.!~*'()";
        cut("a:" + marks, "s=a m=" + marks);
        cut("//" + marks, "m=//" + marks + " a=" + marks + " p=");
        cut("//" + marks + "@h", "m=//" + marks + "@h a=" + marks + "@h u=" + marks + " h=h p=");
        cut(marks, "m=" + marks + " p=" + marks);
        cut("?" + marks, "m=?" + marks + " p= q=" + marks);
        cut("#" + marks, "m= p= f=" + marks);
    }

    @Says("but no part can have them.")
    static void promise09NoPartCanHaveABadSign() {
        for (char bad : BAD_SIGNS.toCharArray()) {
            refusedAt(1, "a" + bad + ":b");
            refusedAt(3, "a:b" + bad);
            refusedAt(1, "a" + bad);
            refusedAt(2, "?a" + bad);
            refusedAt(2, "#a" + bad);
            badAuthority("//h" + bad);
            badAuthority("//u" + bad + "@h");
        }
    }

    @Says("but no part can have them.")
    static void promise09EveryOtherSignCanStandInPartsThatItDoesNotEnd() {
        for (char sign = '!'; sign <= '~'; sign++) {
            if ("%[]0".indexOf(sign) < 0 && BAD_SIGNS.indexOf(sign) < 0) {
                if (sign != '#') {
                    taken("a:b" + sign);
                    taken("?" + sign);
                    taken("#" + sign);
                }
                if ("#?/".indexOf(sign) < 0) {
                    taken("//" + sign);
                    taken("/" + sign);
                }
            }
        }
    }

    @Says("Escapes count as one sign each where it is told which signs a part can have")
    static void promise09AnEscapeIsNoSignThatItStandsFor() {
        // The values of : / ? # @ and of the bad signs { and <.
        cut("a%3Ab", "m=a%3Ab p=a%3Ab");
        cut("a:%2F", "s=a m=%2F");
        cut("%2F%2Fh", "m=%2F%2Fh p=%2F%2Fh");
        cut("a%3F", "m=a%3F p=a%3F");
        cut("a%23", "m=a%23 p=a%23");
        cut("//u%40h", "m=//u%40h a=u%40h p=");
        cut("//h%3a9", "m=//h%3a9 a=h%3a9 p=");
        cut("#%23", "m= p= f=%23");
        cut("//%7B?%3C#%7b", "m=//%7B?%3C a=%7B p= q=%3C f=%7b");
        cut("a:%7B", "s=a m=%7B");
        cut("/%00%ff", "m=/%00%ff p=/%00%ff");
    }

    @Says("Escapes count as one sign each where it is told which signs a part can have")
    static void promise09SchemeHostAndPortHaveNoEscapes() {
        refusedAt(0, "%61:b");
        refusedAt(1, "a%61:b");
        noHost("%61");
        noHost("a%61");
        noHost("1.2.3.%34");
        server("h:%39", "none", "none", -1);
        server("h:9%39", "none", "none", -1);
        server("%75@h", "%75", "h", -1);
    }

    @Says("as places of the text they are three.")
    static void promise09APlaceBehindAnEscapeCountsItThree() {
        refusedAt(3, "%41{");
        refusedAt(8, "a:%41%42{");
        refusedAt(4, "?%41{");
        refusedAt(5, "#%41a#");
    }

    // ---- promise 9: rule 1

    private static final String RULE_1 = "1. If a ':' stands in the text, and none of / ? # ahead of the first one, what "
            + "stands ahead of it is the scheme, and the rest begins behind it; ";

    @Says(RULE_1)
    static void promise09WhatStandsAheadOfTheFirstColonIsTheScheme() {
        cut("a:b:c", "s=a m=b:c");
        cut("http:/b:c", "s=http m=/b:c p=/b:c");
        cut(Due.signs(58) + ":b", "s=" + Due.signs(58) + " m=b");
        cut("a:b/c?d", "s=a m=b/c?d");
    }

    @Says({"Otherwise there is no scheme, and the rest begins at 0.", "and none of / ? # ahead of the first one"})
    static void promise09ThereIsNoSchemeBehindASlashAQuestionMarkOrAHash() {
        cut("a/b:c", "m=a/b:c p=a/b:c");
        cut("a?b:c", "m=a?b:c p=a q=b:c");
        cut("a#b:c", "m=a p=a f=b:c");
        cut("/:", "m=/: p=/:");
        cut("?:", "m=?: p= q=:");
        cut("#:", "m= p= f=:");
    }

    @Says("Otherwise there is no scheme, and the rest begins at 0.")
    static void promise09ThereIsNoSchemeWithoutAColon() {
        cut("a", "m=a p=a");
        cut("9", "m=9 p=9");
        cut("+", "m=+ p=+");
        cut("//h", "m=//h a=h h=h p=");
    }

    @Says("refused at 0 if the text begins with it")
    static void promise09ATextThatBeginsWithTheColonIsRefusedAt0() {
        refusedAt(0, ":");
        refusedAt(0, ":a");
        refusedAt(0, ":/a");
        refusedAt(0, "::");
        refusedAt(0, "://h");
    }

    @Says("otherwise at the first sign of the scheme that is not right: the first one has to be a letter")
    static void promise09TheFirstSignOfASchemeIsALetter() {
        for (String first : "9 1 + - . _ @ $ ; { <".split(" ")) {
            refusedAt(0, first + ":b");
            refusedAt(0, first + "a:/b");
        }
        taken("a:b");
        taken("Z:b");
    }

    @Says("the others letters, digits, + - or a point.")
    static void promise09TheOtherSignsOfASchemeAreLettersDigitsPlusMinusAndPoint() {
        cut("aZz19+-.:b", "s=aZz19+-. m=b");
        for (char sign = '!'; sign <= '~'; sign++) {
            if (("%[]0:/?#").indexOf(sign) < 0) {
                boolean isRight = String.valueOf(sign).matches("[a-zA-Z1-9+.-]");
                Linkloom x = new Linkloom();
                Due.due("parse of a" + sign + ":b", Due.parse(x, 0, "a" + sign + ":b"), isRight ? -1 : 1);
                Due.due("parse of ab" + sign + ":b", Due.parse(x, 0, "ab" + sign + ":b"), isRight ? -1 : 2);
            }
        }
    }

    @Says("at the first sign of the scheme that is not right")
    static void promise09TheFirstAndTheLastSignOfALongScheme() {
        refusedAt(1, "a_a_:b");
        refusedAt(57, Due.signs(57) + "_:b");
        refusedAt(0, "_" + Due.signs(57) + ":b");
    }

    // ---- promise 9: rule 2

    @Says("2. If there is a scheme, and the rest does not begin with '/', the address is opaque: what stands up to the "
            + "first '#', or the end, is its scheme-specific part")
    static void promise09AnOpaqueAddressHasJustItsSchemeSpecificPart() {
        cut("a:b", "s=a m=b");
        cut("a:b//c/d?e@f:9", "s=a m=b//c/d?e@f:9");
        cut("a:?b", "s=a m=?b");
        cut("a:b#c", "s=a m=b f=c");
        cut("a:@", "s=a m=@");
    }

    @Says("If there is a scheme, and the rest does not begin with '/'")
    static void promise09WithoutASchemeOrWithASlashItIsNotOpaque() {
        cut("a:/", "s=a m=/ p=/");
        cut("b", "m=b p=b");
    }

    @Says("refused where it begins if it is empty")
    static void promise09AnEmptySchemeSpecificPartIsRefused() {
        refusedAt(2, "a:");
        refusedAt(2, "a:#");
        refusedAt(2, "a:#b");
        refusedAt(5, "http:");
        taken("a:b");
        taken("a:?");
    }

    @Says("otherwise at its first bad sign.")
    static void promise09AnOpaqueAddressIsRefusedAtItsFirstBadSign() {
        refusedAt(2, "a:{");
        refusedAt(3, "a:b{c{");
        refusedAt(4, "a:b?{");
        refusedAt(3, "a:b{#f{");
    }

    @Says("Then the rule 6.")
    static void promise09AnOpaqueAddressCanHaveAFragment() {
        cut("a:b#", "s=a m=b f=");
        cut("a:b#c/d?e:f", "s=a m=b f=c/d?e:f");
        refusedAt(5, "a:b#c#");
        refusedAt(4, "a:b#{");
    }

    // ---- promise 9: rule 3

    @Says("3. Otherwise, if the rest begins with two slashes, what stands behind them up to the next of / ? #, or the "
            + "end, is the authority")
    static void promise09TheAuthorityStandsBehindTwoSlashes() {
        cut("//h", "m=//h a=h h=h p=");
        cut("//h/p", "m=//h/p a=h h=h p=/p");
        cut("//h?q", "m=//h?q a=h h=h p= q=q");
        cut("//h#f", "m=//h a=h h=h p= f=f");
        cut("a://h", "s=a m=//h a=h h=h p=");
        cut("//a:b", "m=//a:b a=a:b p=");
    }

    @Says("if the rest begins with two slashes")
    static void promise09OneSlashIsNotTwo() {
        cut("/h", "m=/h p=/h");
        cut("a:/h", "s=a m=/h p=/h");
        cut("/h//i", "m=/h//i p=/h//i");
        cut("h//i", "m=h//i p=h//i");
        cut("/", "m=/ p=/");
    }

    @Says("if it is empty there is no authority")
    static void promise09AnEmptyAuthorityIsNone() {
        cut("///p", "m=///p p=/p");
        cut("a:///p", "s=a m=///p p=/p");
        cut("///", "m=/// p=/");
        cut("////", "m=//// p=//");
        cut("////h", "m=////h p=//h");
        cut("//?", "m=//? p= q=");
        cut("//#", "m=// p= f=");
        cut("a://?q#f", "s=a m=//?q p= q=q f=f");
    }

    @Says("and the text is refused there if that is its end.")
    static void promise09TwoSlashesAtTheEndAreRefused() {
        refusedAt(2, "//");
        refusedAt(4, "a://");
        refusedAt(60, Due.signs(57) + "://");
    }

    // ---- promise 9: rules 4 to 6

    @Says("4. What stands from there up to the next ? or #, or the end, is the path")
    static void promise09ThePathStandsUpToAQuestionMarkOrAHash() {
        cut("a;v=1/b:c@d&e=+$,", "m=a;v=1/b:c@d&e=+$, p=a;v=1/b:c@d&e=+$,");
        cut("/p?q", "m=/p?q p=/p q=q");
        cut("/p#f", "m=/p p=/p f=f");
        cut("//h/p//q", "m=//h/p//q a=h h=h p=/p//q");
        cut(Due.signs(60), "m=" + Due.signs(60) + " p=" + Due.signs(60));
    }

    @Says("is the path; it may be empty; refused at its first bad sign.")
    static void promise09ThePathMayBeEmpty() {
        cut("?", "m=? p= q=");
        cut("#", "m= p= f=");
        cut("//h?", "m=//h? a=h h=h p= q=");
    }

    @Says("is the path; it may be empty; refused at its first bad sign.")
    static void promise09APathIsRefusedAtItsFirstBadSign() {
        refusedAt(0, "{");
        refusedAt(1, "a<>");
        refusedAt(4, "//h/{");
        refusedAt(3, "a:/{");
    }

    @Says("5. If a '?' is next, what stands behind it up to the next '#', or the end, is the query")
    static void promise09TheQueryStandsUpToAHash() {
        cut("?a/b?c:d@e", "m=?a/b?c:d@e p= q=a/b?c:d@e");
        cut("??", "m=?? p= q=?");
        cut("p?q#f", "m=p?q p=p q=q f=f");
        cut("a:/?q", "s=a m=/?q p=/ q=q");
    }

    @Says("is the query; it may be empty; refused at its first bad sign.")
    static void promise09TheQueryMayBeEmpty() {
        cut("p?", "m=p? p=p q=");
        cut("p?#f", "m=p? p=p q= f=f");
    }

    @Says("is the query; it may be empty; refused at its first bad sign.")
    static void promise09AQueryIsRefusedAtItsFirstBadSign() {
        refusedAt(1, "?{");
        refusedAt(2, "?a<>#");
        refusedAt(4, "//h?{");
    }

    @Says("6. If a '#' is next, what stands behind it is the fragment")
    static void promise09TheFragmentStandsBehindTheHash() {
        cut("#a/b?c:d@e", "m= p= f=a/b?c:d@e");
        cut("p#f", "m=p p=p f=f");
        cut("a:/p#//h", "s=a m=/p p=/p f=//h");
    }

    @Says("is the fragment; it may be empty")
    static void promise09TheFragmentMayBeEmpty() {
        cut("p#", "m=p p=p f=");
        cut("a:b#", "s=a m=b f=");
    }

    @Says("refused at its first sign that is bad or '#'.")
    static void promise09AFragmentIsRefusedAtABadSignOrAHash() {
        refusedAt(1, "##");
        refusedAt(2, "#a#");
        refusedAt(1, "#{");
        refusedAt(2, "#a{#");
        refusedAt(2, "#a#{");
        refusedAt(59, "#" + Due.signs(58) + "#");
    }

    @Says("An address that is not opaque has as its scheme-specific part what stands from where its rest begins to ahead "
            + "of the '#' of its fragment, or to the end.")
    static void promise09TheSchemeSpecificPartIsTheRest() {
        cut("a:/p?q#f", "s=a m=/p?q p=/p q=q f=f");
        cut("//h/p?q", "m=//h/p?q a=h h=h p=/p q=q");
        cut("p#", "m=p p=p f=");
        cut("#f", "m= p= f=f");
    }

    // ---- promise 9: the authority

    @Says("Authority. What stands ahead of the first '@' in it is the user info")
    static void promise09TheUserInfoStandsAheadOfTheFirstAt() {
        server("u@h", "u", "h", -1);
        server("u:p@h", "u:p", "h", -1);
        server("u:9@h:8", "u:9", "h", 8);
        server("-_.!~*'();:&=+$,@h", "-_.!~*'();:&=+$,", "h", -1);
        server("@h", "", "h", -1);
        // What is behind the first '@' has another one then, and is no host.
        server("u@h@i", "none", "none", -1);
        server("u@@h", "none", "none", -1);
    }

    @Says("there is none without a '@'.")
    static void promise09ThereIsNoUserInfoWithoutAnAt() {
        server("h", "none", "h", -1);
        server("h:9", "none", "h", 9);
        cut("//h/u@i", "m=//h/u@i a=h h=h p=/u@i");
        cut("//h?u@i", "m=//h?u@i a=h h=h p= q=u@i");
    }

    @Says("Of what is behind that the host is what stands up to the first ':', or the end")
    static void promise09TheHostStandsUpToTheFirstColon() {
        server("h:9", "none", "h", 9);
        server("h.i", "none", "h.i", -1);
        server("u:p@h:9", "u:p", "h", 9);
        server("h:9:9", "none", "none", -1);
        server("h::", "none", "none", -1);
    }

    @Says("behind that ':' stands the port, of digits alone, none, too.")
    static void promise09ThePortIsOfDigitsAloneOrOfNone() {
        server("h:", "none", "h", -1);
        server("u@h:", "u", "h", -1);
        server("h:1", "none", "h", 1);
        server("1.2.3.4:", "none", "1.2.3.4", -1);
        for (String port : "a 9a a9 -1 +1 9. .9 9@ 9_ _".split(" ")) {
            server("h:" + port, "none", "none", -1);
        }
    }

    @Says("A host is one to any number of labels with a point between each two")
    static void promise09AHostHasOneToAnyNumberOfLabels() {
        host("a");
        host("a.b");
        host("w.x-y.com");
        server("a.".repeat(26) + "a", "none", "a.".repeat(26) + "a", -1);
        server(Due.signs(58), "none", Due.signs(58), -1);
        server("u@", "none", "none", -1);
        server("u@:9", "none", "none", -1);
        server(":9", "none", "none", -1);
        noHost("a..b");
        noHost(".a");
        noHost(".");
        noHost("..");
    }

    @Says("and perhaps one point behind the last one")
    static void promise09OnePointMayStandBehindTheLastLabel() {
        host("a.");
        host("a.b.");
        host("9.");
        noHost("a..");
        noHost("a.b..");
    }

    @Says("a label is of letters, digits and '-'")
    static void promise09ALabelIsOfLettersDigitsAndMinus() {
        host("aZ19");
        host("a-9.z9-a");
        for (char sign = '!'; sign <= '~'; sign++) {
            if ("%[]0:/?#@".indexOf(sign) < 0 && BAD_SIGNS.indexOf(sign) < 0) {
                String label = "a" + sign + "b";
                if (String.valueOf(sign).matches("[a-zA-Z1-9.-]")) {
                    host(label);
                } else {
                    noHost(label);
                }
            }
        }
    }

    @Says("neither beginning nor ending with '-'")
    static void promise09ALabelNeitherBeginsNorEndsWithMinus() {
        host("a-b");
        host("a--b");
        for (String host : "- -- -a a- -a.b a-.b a.-b a.b- a.b-. a.-.b".split(" ")) {
            noHost(host);
        }
    }

    @Says("if there are several, the last one begins with a letter.")
    static void promise09TheLastOfSeveralLabelsBeginsWithALetter() {
        host("9");
        host("9a");
        host("9.a");
        host("9.a9");
        host("9.8.a.");
        host("1.2.3.4.a");
        noHost("a.9");
        noHost("a.9.");
        noHost("a.9b");
        noHost("9.9");
        noHost("a.b.9");
    }

    @Says("Or it is four numbers from 1 to 255 with points between them.")
    static void promise09FourNumbersFrom1To255AreAHost() {
        host("1.1.1.1");
        host("255.255.255.255");
        host("1.2.3.4");
        host("99.111.199.249");
    }

    @Says("four numbers from 1 to 255")
    static void promise09ANumberAbove255IsNone() {
        noHost("256.1.1.1");
        noHost("1.256.1.1");
        noHost("1.1.256.1");
        noHost("1.2.3.256");
        noHost("1.2.3.999");
        noHost("1.2.3.1111");
        // 1 again, if numbers went round at 2 to the 32 or to the 64.
        noHost("4294967297.1.1.1");
        noHost("1.1.1.4294967297");
        noHost("1.1.1." + roundAt64());
    }

    @Says("four numbers")
    static void promise09ThreeAndFiveNumbersAreNone() {
        noHost("1.2");
        noHost("1.2.3");
        noHost("1.2.3.4.5");
    }

    @Says("with points between them.")
    static void promise09NumbersHavePointsOnlyBetweenThem() {
        noHost("1.2.3.4.");
        noHost(".1.2.3.4");
        noHost("1..2.3");
        noHost("1.2.3.");
        noHost("1.2.3.4..");
        noHost("1.2.3.4a");
        noHost("1.2.3.-4");
    }

    @Says("If host or port is not so, or the port is above 2147483647")
    static void promise09ThePort2147483647IsTheLast() {
        server("h:2147483647", "none", "h", 2147483647);
        server("u@1.2.3.4:2147483647", "u", "1.2.3.4", 2147483647);
        server("h:2147483648", "none", "none", -1);
        server("u@h:2147483648", "none", "none", -1);
        server("h:2147483649", "none", "none", -1);
        server("h:9999999999", "none", "none", -1);
    }

    @Says("or the port is above 2147483647")
    static void promise09NoPortGoesRound() {
        server("h:4294967297", "none", "none", -1);
        server("h:" + roundAt64(), "none", "none", -1);
        server("h:" + "9".repeat(56), "none", "none", -1);
    }

    /** A number without the digit 0 that is from 1 to 255 if numbers go round at 2 to the 64. */
    private static String roundAt64() {
        BigInteger round = BigInteger.ONE.shiftLeft(64);
        BigInteger number = round;
        while (true) {
            for (int more = 1; more <= 255; more++) {
                String digits = number.add(BigInteger.valueOf(more)).toString();
                if (digits.indexOf('0') < 0) {
                    return digits;
                }
            }
            number = number.add(round);
        }
    }

    @Says("the address has the authority, but neither user info nor host nor port.")
    static void promise09AnAuthorityWithoutAHostIsTakenAllTheSame() {
        cut("//u@a_b:9/p", "m=//u@a_b:9/p a=u@a_b:9 p=/p");
        cut("//u@h:x", "m=//u@h:x a=u@h:x p=");
        cut("//@", "m=//@ a=@ p=");
        cut("//:", "m=//: a=: p=");
        cut("//:9", "m=//:9 a=:9 p=");
        cut("//u@:9", "m=//u@:9 a=u@:9 p=");
        Due.due("port", Due.made("", "//u@a_b:9/p").port(0), -1);
    }

    // ---- promise 9: which addresses have which parts

    @Says("Each address has 'm' and 'w'; one that is not opaque has 'p'.")
    static void promise09EachAddressHasTheWholeAndTheSchemeSpecificPart() {
        for (String text : new String[] {"", "a", "a:b", "#", "//h", "a:b#f"}) {
            Linkloom x = Due.made("", text);
            Due.due("size m of " + text, x.size(0, 'm') >= 0, true);
            Due.due("size w of " + text, x.size(0, 'w'), text.length());
            Due.due("size p of " + text, x.size(0, 'p') >= 0, !text.startsWith("a:"));
        }
    }
}
