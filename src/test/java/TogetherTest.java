import java.math.BigInteger;
import java.util.NoSuchElementException;

/** Promises 23 to 26: parts put together, the theorem, and the sum. */
final class TogetherTest {
    private static final int[] WRONG_SLOTS = {-1, 4, 256, Integer.MIN_VALUE, Integer.MAX_VALUE};
    private static final String PARTS = "smauhpqfw";
    private static final String MIXED = "sapqf";
    private static final String ALL = "ab://u:p@h.i:9/pq?x=1#f";

    public static void main(String[] args) {
        Due.run(TogetherTest.class);
    }

    // ---- promise 23: together

    private static void together(String text, String want, boolean isWhole) {
        Linkloom x = Due.made("z", null, text);
        Due.due("together of " + text, x.together(1), isWhole);
        Due.due("the text of " + text, Due.text(x), want);
        Due.due("the slot", Due.part(x, 1, 'w'), text);
    }

    private static void whole(String text) {
        together(text, text, true);
    }

    @Says({"Makes the text what the parts of an address are, put together by the rule 7",
            "Returns whether it is the whole address.", "Put together by the rule 7 its parts are the address again, "
            + "sign by sign"})
    static void promise23TheTextIsTheAddressAgain() {
        whole(ALL);
        whole("a:b");
        whole("a:b//c?d#e");
        whole("//u@a_b:9/p");
        whole("a:/p");
        whole("a");
    }

    @Says({"unless the rest that rule 3 looks at begins with two slashes and there is no authority: then they are it "
            + "without these two.", "Returns whether it is the whole address."})
    static void promise23TwoSlashesWithoutAnAuthorityAreLeftOut() {
        together("///p", "/p", false);
        together("a:///p?q#f", "a:/p?q#f", false);
        together("///", "/", false);
        together("////h", "//h", false);
        together("//?", "?", false);
        together("//#", "#", false);
        together("a://?", "a:?", false);
    }

    @Says("unless the rest that rule 3 looks at begins with two slashes")
    static void promise23OtherSlashesAreNotLeftOut() {
        whole("/");
        whole("/a//b");
        whole("a//b");
        whole("a:b//c");
        whole("?//");
        whole("//h//p");
    }

    @Says("Rule 7. Parts are put together in this order: the scheme and ':'; of an opaque address the scheme-specific "
            + "part, of any other one two slashes and the authority, the path, '?' and the query; '#' and the fragment")
    static void promise23ThePartsStandInTheOrderOfTheRule() {
        whole("a://b/c?d#e");
        whole("a:b?c#d");
    }

    @Says("each with its signs only if the address has it.")
    static void promise23EmptyPartsHaveTheirSignsAndNoPartsHaveNone() {
        whole("");
        whole("?");
        whole("#");
        whole("?#");
        whole("//h?#");
        whole("//@h:");
        whole("a:b#");
        whole("a:/#");
        whole("/p?");
    }

    @Says("each of its signs, and each escape in it, is a piece.")
    static void promise23EachSignAndEachEscapeIsAPiece() {
        Linkloom x = Due.made("zzzzzz", "a:///p%41?%7eq");
        x.together(0);
        Due.due("the text", Due.text(x), "a:/p%41?%7eq");
        Due.due("drops", Due.drops(x), "11 8 7 4 3 2 1 0");
    }

    @Says("Makes the text what the parts of an address are")
    static void promise23TheLongestAddressIsPutTogether() {
        whole(Due.signs(60));
        whole("a://h/" + Due.signs(54));
        together("///" + Due.signs(57), "/" + Due.signs(57), false);
    }

    @Says("Makes the text what the parts of an address are")
    static void promise23TheTextThatWasThereIsGone() {
        Linkloom x = Due.made(Due.signs(60), "", "b");
        x.together(1);
        Due.due("the text", Due.text(x), "b");
        x.together(0);
        Due.due("length", x.length(), 0);
        Due.due("drop", Due.answer(x, Linkloom::drop), NoSuchElementException.class.getName());
    }

    @Says("`slot`: 0 to 3")
    static void promise23TheSlots0And3AreTaken() {
        Linkloom x = Due.made("", "a", null, null, "b");
        x.together(3);
        Due.due("the text", Due.text(x), "b");
        x.together(0);
        Due.due("the text", Due.text(x), "a");
    }

    @Says({"Throws `IndexOutOfBoundsException` if there is no such slot",
            "If several exceptions apply, the one that is documented first is thrown."})
    static void promise23ThereAreNoSlotsBelow0AndAbove3() {
        for (int slot : WRONG_SLOTS) {
            Due.refused("together " + slot, IndexOutOfBoundsException.class, () -> Due.made("z%41", "a"),
                    x -> Due.asLong(x.together(slot)));
            Due.refused("together " + slot, IndexOutOfBoundsException.class, Linkloom::new,
                    x -> Due.asLong(x.together(slot)));
        }
    }

    @Says("Throws `NoSuchElementException` if it has no address")
    static void promise23ASlotWithoutAnAddressIsRefused() {
        for (int slot = 1; slot < 4; slot++) {
            int empty = slot;
            Due.refused("together " + slot, NoSuchElementException.class, () -> Due.made("z%41", "a"),
                    x -> Due.asLong(x.together(empty)));
        }
    }

    // ---- promise 24: mix

    private static void mixed(String one, String other, char part, String want) {
        Linkloom x = Due.made("z", null, one, null, other);
        Due.due("mix of " + one + " and " + other + " " + part, x.mix(1, 3, part), want.length());
        Due.due("the text of " + one + " and " + other + " " + part, Due.text(x), want);
        Due.due("the slot", Due.part(x, 1, 'w'), one);
        Due.due("the other slot", Due.part(x, 3, 'w'), other);
    }

    @Says("Makes the text what the parts of an address are, put together by the rule 7, but one part from another "
            + "address instead: with that part if the other one has it")
    static void promise24OnePartIsTakenFromTheOther() {
        mixed(ALL, "c://d/e?g#j", 's', "c://u:p@h.i:9/pq?x=1#f");
        mixed(ALL, "c://d/e?g#j", 'a', "ab://d/pq?x=1#f");
        mixed(ALL, "c://d/e?g#j", 'p', "ab://u:p@h.i:9/e?x=1#f");
        mixed(ALL, "c://d/e?g#j", 'q', "ab://u:p@h.i:9/pq?g#f");
        mixed(ALL, "c://d/e?g#j", 'f', "ab://u:p@h.i:9/pq?x=1#j");
    }

    @Says("with that part if the other one has it")
    static void promise24APartIsPutWhereThereWasNone() {
        mixed("", ALL, 's', "ab:");
        mixed("", ALL, 'a', "//u:p@h.i:9");
        mixed("", ALL, 'p', "/pq");
        mixed("", ALL, 'q', "?x=1");
        mixed("", ALL, 'f', "#f");
        mixed("///p", "//h", 'a', "//h/p");
    }

    @Says("with that part if the other one has it")
    static void promise24AnEmptyPartIsPutWithItsSign() {
        mixed("a", "?#", 'q', "a?");
        mixed("a", "?#", 'f', "a#");
        mixed("/a?b#c", "?#", 'q', "/a?#c");
        mixed("/a?b#c", "?#", 'p', "?b#c");
    }

    @Says("and without it if it does not")
    static void promise24APartThatTheOtherDoesNotHaveIsLeftOut() {
        mixed(ALL, "", 's', "//u:p@h.i:9/pq?x=1#f");
        mixed(ALL, "", 'a', "ab:/pq?x=1#f");
        mixed(ALL, "", 'p', "ab://u:p@h.i:9?x=1#f");
        mixed(ALL, "", 'q', "ab://u:p@h.i:9/pq#f");
        mixed(ALL, "", 'f', "ab://u:p@h.i:9/pq?x=1");
        mixed(ALL, "///p", 'a', "ab:/pq?x=1#f");
    }

    @Says("put together by the rule 7")
    static void promise24NoOneAsksWhetherItIsAnAddress() {
        mixed("a", "b:/", 's', "b:a");
        mixed("a:////b", "c:/", 's', "c://b");
        mixed("///a", "b", 'p', "b");
        mixed("//h/a", "b", 'p', "//hb");
        mixed("", "a:/", 's', "a:");
    }

    @Says("put together by the rule 7")
    static void promise24AnAddressIsMixedWithItself() {
        for (char part : MIXED.toCharArray()) {
            Linkloom x = Due.made("z", "a:///p?q#f");
            Due.due("mix " + part, x.mix(0, 0, part), 8);
            Due.due("the text", Due.text(x), "a:/p?q#f");
        }
    }

    @Says("each of its signs, and each escape in it, is a piece.")
    static void promise24EachSignAndEachEscapeIsAPiece() {
        Linkloom x = Due.made("zzzzzz", "/a%41?b", "?%7ec");
        x.mix(0, 1, 'q');
        Due.due("the text", Due.text(x), "/a%41?%7ec");
        Due.due("drops", Due.drops(x), "9 6 5 2 1 0");
    }

    @Says("Returns how many signs the text has then.")
    static void promise24MixReturnsHowManySignsThereAre() {
        Linkloom x = Due.made(Due.signs(60), "/ab", "c");
        Due.due("mix", x.mix(0, 1, 'p'), 1);
        Due.due("mix", x.mix(0, 1, 'f'), 3);
        Due.due("mix of nothing", Due.made("z", "#", "").mix(0, 1, 'f'), 0);
    }

    @Says("`part`: 's', 'a', 'p', 'q' or 'f'")
    static void promise24FivePartsCanBeMixed() {
        for (char part : MIXED.toCharArray()) {
            Due.due("mix " + part, Due.made("z", "/p", "/q").mix(0, 1, part), 2);
        }
    }

    @Says("Throws `IllegalArgumentException` if there is no such part, or it is none of the five")
    static void promise24NoOtherPartCanBeMixed() {
        for (char part : new char[] {'m', 'u', 'h', 'w', 'x', 'b', 'S', 'F', ' ', (char) 0, (char) (256 + 's')}) {
            Due.refused("mix " + part, IllegalArgumentException.class, () -> Due.made("z", ALL, ALL),
                    x -> x.mix(0, 1, part));
        }
    }

    @Says({"`slot`: 0 to 3", "`other`: the slot of the other address"})
    static void promise24TheSlots0And3AreTaken() {
        Linkloom x = Due.made("", "/a?b", null, null, "/c?d");
        x.mix(0, 3, 'q');
        Due.due("the text", Due.text(x), "/a?d");
        x.mix(3, 0, 'q');
        Due.due("the text", Due.text(x), "/c?b");
    }

    @Says("Throws `IndexOutOfBoundsException` if there is no such slot, for either")
    static void promise24ThereAreNoSlotsBelow0AndAbove3() {
        for (int slot : WRONG_SLOTS) {
            Due.refused("mix", IndexOutOfBoundsException.class, () -> Due.made("z", "a"), x -> x.mix(slot, 0, 'p'));
            Due.refused("mix", IndexOutOfBoundsException.class, () -> Due.made("z", "a"), x -> x.mix(0, slot, 'p'));
            Due.refused("mix", IndexOutOfBoundsException.class, () -> Due.made("z", "a"), x -> x.mix(slot, slot, 'p'));
        }
    }

    @Says("Throws `NoSuchElementException` if one of both has no address")
    static void promise24BothSlotsNeedAnAddress() {
        Due.refused("mix", NoSuchElementException.class, () -> Due.made("z", "a"), x -> x.mix(0, 1, 'p'));
        Due.refused("mix", NoSuchElementException.class, () -> Due.made("z", "a"), x -> x.mix(1, 0, 'p'));
        Due.refused("mix", NoSuchElementException.class, () -> Due.made("z", "a"), x -> x.mix(2, 3, 'p'));
    }

    @Says("Throws `UnsupportedOperationException` if one of both is opaque")
    static void promise24NoOpaqueAddressIsMixed() {
        for (char part : MIXED.toCharArray()) {
            notMixed("a:b#c", "/a", part);
            notMixed("/a", "a:b#c", part);
            notMixed("a:b", "c:d", part);
        }
        Due.refused("mix with itself", UnsupportedOperationException.class, () -> Due.made("z", "a:b"),
                x -> x.mix(0, 0, 'f'));
    }

    private static void notMixed(String one, String other, char part) {
        Due.refused("mix of " + one + " and " + other + " " + part, UnsupportedOperationException.class,
                () -> Due.made("z", one, other), x -> x.mix(0, 1, part));
    }

    @Says("The text has at most 60 signs")
    static void promise24AMixOfSixtySignsIsTaken() {
        mixed("a://h/" + Due.signs(40), "?" + Due.signs(13), 'q', "a://h/" + Due.signs(40) + "?" + Due.signs(13));
        mixed("/" + Due.signs(58), "#", 'f', "/" + Due.signs(58) + "#");
        mixed("/" + Due.signs(59), "//h", 'q', "/" + Due.signs(59));
    }

    @Says("Throws `IllegalStateException` if the text would have more than 60 signs")
    static void promise24AMixOfMoreSignsIsRefused() {
        mixTooLong("a://h/" + Due.signs(40), "?" + Due.signs(14), 'q');
        mixTooLong("/" + Due.signs(59), "#", 'f');
        mixTooLong("/" + Due.signs(59), "?", 'q');
        mixTooLong("/" + Due.signs(58), "a:/", 's');
        mixTooLong("/" + Due.signs(57), "//h", 'a');
    }

    @Says("Throws `IllegalStateException` if the text would have more than 60 signs")
    static void promise24TheLongestMixesAreRefused() {
        mixTooLong("?" + Due.signs(59), "#" + Due.signs(59), 'f');
        mixTooLong("#" + Due.signs(59), "?" + Due.signs(59), 'q');
        mixTooLong("/" + Due.signs(59), Due.signs(58) + ":/", 's');
        mixTooLong("/" + Due.signs(59), "//" + Due.signs(58), 'a');
        mixTooLong("a://h?" + Due.signs(54), Due.signs(60), 'p');
    }

    private static void mixTooLong(String one, String other, char part) {
        Linkloom x = Due.made("z%41", one, other);
        Due.due("mix of " + one + " and " + other, Due.answer(x, y -> y.mix(0, 1, part)),
                IllegalStateException.class.getName());
        Due.due("the text", Due.text(x), "z%41");
        Due.due("the slots", Due.part(x, 0, 'w') + " " + Due.part(x, 1, 'w'), one + " " + other);
        Due.due("drop", x.drop(), 1);
    }

    @Says("If several exceptions apply, the one that is documented first is thrown.")
    static void promise24AWrongSlotComesAheadOfAllElse() {
        for (int slot : WRONG_SLOTS) {
            Due.refused("mix", IndexOutOfBoundsException.class, () -> Due.made("z", "a:b"), x -> x.mix(slot, 1, 'x'));
            Due.refused("mix", IndexOutOfBoundsException.class, () -> Due.made("z", "a:b"), x -> x.mix(1, slot, 'x'));
            Due.refused("mix", IndexOutOfBoundsException.class, () -> Due.made("z", "a:b"), x -> x.mix(0, slot, 's'));
        }
    }

    @Says("If several exceptions apply, the one that is documented first is thrown.")
    static void promise24ASlotWithoutAnAddressComesAheadOfThePartAndAnOpaqueOne() {
        for (char part : "mxs".toCharArray()) {
            Due.refused("mix", NoSuchElementException.class, () -> Due.made("z", "a:b"), x -> x.mix(0, 1, part));
            Due.refused("mix", NoSuchElementException.class, () -> Due.made("z", "a:b"), x -> x.mix(1, 0, part));
        }
    }

    @Says("If several exceptions apply, the one that is documented first is thrown.")
    static void promise24AWrongPartComesAheadOfAnOpaqueAddress() {
        for (char part : "mx".toCharArray()) {
            Due.refused("mix", IllegalArgumentException.class, () -> Due.made("z", "a:b", "/c"),
                    x -> x.mix(0, 1, part));
            Due.refused("mix", IllegalArgumentException.class, () -> Due.made("z", "a:b", "/c"),
                    x -> x.mix(1, 0, part));
        }
    }

    @Says("If several exceptions apply, the one that is documented first is thrown.")
    static void promise24AllOthersComeAheadOfTooManySigns() {
        String longest = "a:" + Due.signs(58);
        String query = "?" + Due.signs(59);
        Due.refused("mix", UnsupportedOperationException.class, () -> Due.made("z", longest, query),
                x -> x.mix(0, 1, 'q'));
        Due.refused("mix", IllegalArgumentException.class, () -> Due.made("z", "/" + Due.signs(59), query),
                x -> x.mix(0, 1, 'x'));
    }

    // ---- promise 25: isTrue

    private static void isTrue(String text) {
        Due.asks("isTrue with " + text, 1, () -> Due.made("z%41", null, text), x -> Due.asLong(x.isTrue()));
    }

    @Says({"Checks the theorem for all addresses that there are: each, parsed anew as it is told whole, has the same "
            + "parts", "Returns whether it is so.", "Parsed anew it has the same parts."})
    static void promise25TheTheoremIsTrueOfEachKindOfAddress() {
        for (String text : ("a:b a:b#c a:/p ab://u@h:9/p?q#f //a_b:9 //h:2147483647 //1.2.3.4: a/b %41%7e? ?q# #f / "
                + "a:b//c").split(" ")) {
            isTrue(text);
        }
        isTrue(Due.signs(60));
    }

    @Says({"its scheme, scheme-specific part and fragment, put together with ':' and '#', are it", "An address is its "
            + "scheme and ':', if there is a scheme, its scheme-specific part, and '#' and its fragment, if there is a "
            + "fragment."})
    static void promise25ThreePartsAreTheAddress() {
        for (String text : new String[] {"", ALL, "a:b", "a:b#", "#f", "//h?q#", "///p", "a:////#f"}) {
            Linkloom x = Due.made("", text);
            String scheme = x.size(0, 's') < 0 ? "" : Due.part(x, 0, 's') + ":";
            String fragment = x.size(0, 'f') < 0 ? "" : "#" + Due.part(x, 0, 'f');
            Due.due("three parts of " + text, scheme + Due.part(x, 0, 'm') + fragment, text);
            isTrue(text);
        }
    }

    @Says("and the parts put together by the rule 7 are it, as the theorem tells.")
    static void promise25ItIsTrueOfTwoSlashesWithoutAnAuthority() {
        for (String text : "/// //// ////h //? //# a:///p a://? a:////".split(" ")) {
            isTrue(text);
        }
    }

    @Says("for all addresses that there are")
    static void promise25ItIsTrueIfThereAreNoAddressesOrFour() {
        Due.asks("isTrue", 1, Linkloom::new, x -> Due.asLong(x.isTrue()));
        Due.asks("isTrue", 1, () -> Due.made("{", "a:b", "///p", "//h:9?q", "#f"), x -> Due.asLong(x.isTrue()));
    }

    @Says("Checks the theorem")
    static void promise25TheCheckIsNoRefusalAndNoParse() {
        Linkloom x = Due.made("9:", "a:b");
        x.parse(1);
        Due.due("isTrue", x.isTrue(), true);
        Due.due("refusals", x.refusals(), 1);
        Due.due("refusedAt", x.refusedAt(), 0);
        Due.due("isThere", x.isThere(1), false);
        Due.due("the text", Due.text(x), "9:");
    }

    // ---- promise 26: checksum

    private static void sum(String what, Linkloom x, BigInteger want) {
        Due.due("checksum of " + what, x.checksum(), want.longValue());
    }

    private static BigInteger sum(int... numbers) {
        BigInteger sum = BigInteger.valueOf(7);
        for (int number : numbers) {
            sum = sum.multiply(BigInteger.valueOf(31)).add(BigInteger.valueOf(number));
        }
        return sum;
    }

    @Says({"Returns a sum over all", "Returns 7 at first"})
    static void promise26TheSumOfANewObject() {
        sum("a new object", new Linkloom(), sum(0, 0, 0, 0, 0));
    }

    @Says("then, for each sign of the text, 31 times itself plus its code")
    static void promise26EachSignOfTheTextCounts() {
        sum("ab", Due.made("ab"), sum('a', 'b', 0, 0, 0, 0, 0));
        sum("%7e", Due.made("%7e"), sum('%', '7', 'e', 0, 0, 0, 0, 0));
    }

    @Says("then likewise refusals()")
    static void promise26RefusalsCount() {
        Linkloom x = Due.made("{");
        x.parse(0);
        x.parse(1);
        x.parse(2);
        sum("three refusals", x, sum('{', 3, 0, 0, 0, 0));
    }

    @Says({"then, for each slot, likewise 0 if it has no address", "otherwise each of the nine parts' size() in their "
            + "order, then port()."})
    static void promise26TheSizesAndThePortOfEachAddressCount() {
        sum("one address", Due.made("", ALL), sum(0, 2, 18, 9, 3, 3, 3, 3, 1, 23, 9, 0, 0, 0));
        sum("the last slot's", Due.made("", null, null, null, "a"), sum(0, 0, 0, 0, -1, 1, -1, -1, -1, 1, -1, -1, 1, -1));
        sum("two addresses", Due.made("z", null, "a:b#", "//h:2147483647"), sum('z', 0, 0,
                1, 1, -1, -1, -1, -1, -1, 0, 4, -1, -1, 14, 12, -1, 1, 0, -1, -1, 14, 2147483647, 0));
    }

    @Says("otherwise each of the nine parts' size() in their order, then port().")
    static void promise26TheSumIsPutTogetherByTheOtherCalls() {
        Linkloom x = Due.made("a%41", ALL, "a:b", null, "///p");
        x.parse(2);
        x.word(29);
        x.parse(2);
        BigInteger sum = sum();
        for (char sign : Due.text(x).toCharArray()) {
            sum = next(sum, sign);
        }
        sum = next(sum, x.refusals());
        for (int slot = 0; slot < 4; slot++) {
            for (char part : PARTS.toCharArray()) {
                sum = next(sum, x.size(slot, part));
            }
            sum = next(sum, x.port(slot));
        }
        sum("four addresses", x, sum);
    }

    private static BigInteger next(BigInteger sum, int number) {
        return sum.multiply(BigInteger.valueOf(31)).add(BigInteger.valueOf(number));
    }

    @Says("a long that goes round.")
    static void promise26TheSumGoesRound() {
        int[] numbers = new int[65];
        for (int i = 0; i < 60; i++) {
            numbers[i] = '~';
        }
        BigInteger want = sum(numbers);
        Due.due("the sum is no long", want.bitLength() > 63, true);
        sum("60 signs", Due.made("~".repeat(60)), want);
    }

    @Says("Returns a sum over all")
    static void promise26TheSumChangesNothing() {
        Due.asks("checksum", sum('a', 0, 0, 0, 0, 0).longValue(), () -> Due.made("a"), Linkloom::checksum);
        Linkloom x = Due.made("a", "b");
        Due.due("checksum again", x.checksum(), x.checksum());
    }

    @Says("An object is used for at most 512 calls after it has been made")
    static void promise26The512thCallAnswers() {
        Linkloom x = refusedToThe511thCall();
        Due.due("refusals", x.refusals(), 510);
        sum("510 refusals", refusedToThe511thCall(), sum('{', 510, 0, 0, 0, 0));
        Due.due("type", refusedToThe511thCall().type('a'), 2);
        Due.due("type", Due.answer(refusedToThe511thCall(), y -> y.type('0')),
                IllegalArgumentException.class.getName());
    }

    private static Linkloom refusedToThe511thCall() {
        Linkloom x = new Linkloom();
        x.type('{');
        for (int call = 2; call <= 511; call++) {
            x.parse(0);
        }
        return x;
    }
}
