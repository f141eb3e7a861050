import java.util.NoSuchElementException;

/** Promises 17 to 22: the nine parts, copies, and what is alike. */
final class PartsTest {
    private static final int[] WRONG_SLOTS = {-1, 4, 256, Integer.MIN_VALUE, Integer.MAX_VALUE};
    private static final char[] WRONG_PARTS = {
        'x', 't', 'g', 'r', 'b', 'S', 'W', '`', '{', ' ', '0', (char) 0, (char) (256 + 's'), (char) 65535};
    private static final String PARTS = "smauhpqfw";
    private static final String ALL = "ab://u:p@h.i:9/pq?x=1#f";

    public static void main(String[] args) {
        Due.run(PartsTest.class);
    }

    /** A call of a slot and a part, so that the calls can be asked alike. */
    private interface Call {
        long of(Linkloom x, int slot, char part);
    }

    private static Linkloom some() {
        return Due.made("z", ALL, "a:b");
    }

    private static void wrongSlots(String call, Call asking) {
        for (int slot : WRONG_SLOTS) {
            Due.refused(call + slot, IndexOutOfBoundsException.class, PartsTest::some, x -> asking.of(x, slot, 'w'));
        }
    }

    /** A wrong slot has no address either, but that is documented behind the other two. */
    private static void wrongSlotsAndParts(String call, Call asking) {
        for (int slot : WRONG_SLOTS) {
            Due.refused(call + slot, IndexOutOfBoundsException.class, PartsTest::some, x -> asking.of(x, slot, 'x'));
        }
        for (char part : WRONG_PARTS) {
            Due.refused(call + part, IllegalArgumentException.class, PartsTest::some, x -> asking.of(x, 2, part));
        }
    }

    private static void wrongParts(String call, Call asking) {
        for (char part : WRONG_PARTS) {
            Due.refused(call + part, IllegalArgumentException.class, PartsTest::some, x -> asking.of(x, 0, part));
            Due.refused(call + part, IllegalArgumentException.class, PartsTest::some, x -> asking.of(x, 1, part));
        }
    }

    private static void emptySlots(String call, Call asking) {
        for (char part : PARTS.toCharArray()) {
            Due.refused(call + part, NoSuchElementException.class, PartsTest::some, x -> asking.of(x, 2, part));
            Due.refused(call + part, NoSuchElementException.class, PartsTest::some, x -> asking.of(x, 3, part));
            Due.refused(call + part, NoSuchElementException.class, Linkloom::new, x -> asking.of(x, 0, part));
        }
    }

    // ---- promise 17: size

    private static void sizes(String text, int... wants) {
        for (int i = 0; i < wants.length; i++) {
            char part = PARTS.charAt(i);
            Due.asks("size " + part + " of " + text, wants[i], () -> Due.made("z", null, text), x -> x.size(1, part));
        }
    }

    @Says({"Returns how many signs a part of an address has.", "Returns how many"})
    static void promise17SizeIsHowManySignsAPartHas() {
        sizes(ALL, 2, 18, 9, 3, 3, 3, 3, 1, 23);
        sizes("a:b/c#de", 1, 3, -1, -1, -1, -1, -1, 2, 8);
    }

    @Says({"`part`: the letter of the part", "Parts have letters: 's' the scheme, 'm' the scheme-specific part, 'a' the "
            + "authority, 'u' the user info, 'h' the host, 'p' the path, 'q' the query, 'f' the fragment, 'w' the whole "
            + "address", "in this order they are the nine parts."})
    static void promise17EachLetterIsItsPart() {
        Linkloom x = some();
        String[] wants = {"ab", "//u:p@h.i:9/pq?x=1", "u:p@h.i:9", "u:p", "h.i", "/pq", "x=1", "f", ALL};
        for (int i = 0; i < wants.length; i++) {
            Due.due("size " + PARTS.charAt(i), x.size(0, PARTS.charAt(i)), wants[i].length());
            Due.due("part " + PARTS.charAt(i), Due.part(x, 0, PARTS.charAt(i)), wants[i]);
        }
    }

    @Says("-1 if the address does not have that part.")
    static void promise17APartThatIsNotThereHasTheSizeMinus1() {
        sizes("a:b", 1, 1, -1, -1, -1, -1, -1, -1, 3);
        sizes("//a_b", -1, 5, 3, -1, -1, 0, -1, -1, 5);
        sizes("///", -1, 3, -1, -1, -1, 1, -1, -1, 3);
    }

    @Says("-1 if the address does not have that part.")
    static void promise17AnEmptyPartHasTheSize0() {
        sizes("", -1, 0, -1, -1, -1, 0, -1, -1, 0);
        sizes("?#", -1, 1, -1, -1, -1, 0, 0, 0, 2);
        sizes("//@h", -1, 4, 2, 0, 1, 0, -1, -1, 4);
        sizes("a:b#", 1, 1, -1, -1, -1, -1, -1, 0, 4);
    }

    @Says("Returns how many")
    static void promise17AnAddressHas60SignsAtMost() {
        Due.due("size", Due.made("", Due.signs(60)).size(0, 'w'), 60);
        Due.due("size", Due.made("", Due.signs(60)).size(0, 'p'), 60);
        Due.due("size", Due.made("", Due.signs(57) + "%41").size(0, 'm'), 60);
        Due.due("size", Due.made("", "#" + Due.signs(59)).size(0, 'f'), 59);
        Due.due("size", Due.made("", Due.signs(58) + ":b").size(0, 's'), 58);
    }

    @Says("`slot`: 0 to 3")
    static void promise17TheSlots0And3AreTold() {
        Due.asks("size", 1, () -> Due.made("", "a", null, null, "bc"), x -> x.size(0, 'w'));
        Due.asks("size", 2, () -> Due.made("", "a", null, null, "bc"), x -> x.size(3, 'w'));
    }

    @Says("Throws `IndexOutOfBoundsException` if there is no such slot")
    static void promise17ThereAreNoSlotsBelow0AndAbove3() {
        wrongSlots("size ", Linkloom::size);
    }

    @Says("Throws `IllegalArgumentException` if there is no such part")
    static void promise17ThereIsNoPartOfAnotherLetter() {
        wrongParts("size ", Linkloom::size);
    }

    @Says("Throws `NoSuchElementException` if it has no address")
    static void promise17ASlotWithoutAnAddressIsRefused() {
        emptySlots("size ", Linkloom::size);
    }

    @Says("If several exceptions apply, the one that is documented first is thrown.")
    static void promise17TheSlotComesAheadOfThePartAndThatOfTheAddress() {
        wrongSlotsAndParts("size ", Linkloom::size);
    }

    // ---- promise 18: partSign

    private static void noPlace(String text, char part, int place) {
        Due.refused("partSign " + part + place + " of " + text, NoSuchElementException.class,
                () -> Due.made("z", null, text), x -> x.partSign(1, part, place));
    }

    @Says({"Returns a sign of a part.", "Returns the sign."})
    static void promise18EachSignIsAtItsPlaceOfThePart() {
        String[] wants = {"ab", "//u%41@h.i:9/p%7e?x=1", "u%41@h.i:9", "u%41", "h.i", "/p%7e", "x=1", "f%00"};
        Linkloom x = Due.made("", "ab://u%41@h.i:9/p%7e?x=1#f%00");
        for (int i = 0; i < wants.length; i++) {
            Due.due("part " + PARTS.charAt(i), Due.part(x, 0, PARTS.charAt(i)), wants[i]);
        }
        Due.due("part w", Due.part(x, 0, 'w'), "ab://u%41@h.i:9/p%7e?x=1#f%00");
    }

    @Says({"`place`: its place in the part, from 0", "`part`: the letter of the part"})
    static void promise18TheFirstAndTheLastPlaceOfEachPart() {
        Linkloom x = some();
        String firsts = "a/uuh/xfa";
        String lasts = "b19pqi1ff";
        for (int i = 0; i < PARTS.length(); i++) {
            char part = PARTS.charAt(i);
            Due.due("the first of " + part, x.partSign(0, part, 0), firsts.charAt(i));
        }
        Due.due("the last of s", x.partSign(0, 's', 1), 'b');
        Due.due("the last of m", x.partSign(0, 'm', 17), '1');
        Due.due("the last of a", x.partSign(0, 'a', 8), '9');
        Due.due("the last of u", x.partSign(0, 'u', 2), 'p');
        Due.due("the last of h", x.partSign(0, 'h', 2), 'i');
        Due.due("the last of p", x.partSign(0, 'p', 2), 'q');
        Due.due("the last of q", x.partSign(0, 'q', 2), '1');
        Due.due("the last of w", x.partSign(0, 'w', 22), 'f');
        Due.due("the 60th", Due.made("", Due.signs(59) + "~").partSign(0, 'w', 59), '~');
    }

    @Says("or the part no such place")
    static void promise18ThereIsNoPlaceBelow0AndBehindTheLast() {
        int[] sizes = {2, 18, 9, 3, 3, 3, 3, 1, 23};
        for (int i = 0; i < sizes.length; i++) {
            // Ahead of most of the parts and behind them the whole address has signs.
            noPlace(ALL, PARTS.charAt(i), -1);
            noPlace(ALL, PARTS.charAt(i), sizes[i]);
            noPlace(ALL, PARTS.charAt(i), Integer.MIN_VALUE);
            noPlace(ALL, PARTS.charAt(i), Integer.MAX_VALUE);
        }
        noPlace(Due.signs(60), 'w', 60);
    }

    @Says("or the part no such place")
    static void promise18AnEmptyPartHasNoPlace() {
        noPlace("", 'm', 0);
        noPlace("", 'w', 0);
        noPlace("//@h?#", 'u', 0);
        noPlace("//@h?#", 'p', 0);
        noPlace("//@h?#", 'q', 0);
        noPlace("//@h?#", 'f', 0);
    }

    @Says("a part that the address does not have has none")
    static void promise18APartThatIsNotThereHasNoPlace() {
        for (char part : "auhpqf".toCharArray()) {
            noPlace("a:b", part, 0);
            noPlace("a:b", part, 1);
            noPlace("a:b", part, -1);
        }
        noPlace("b", 's', 0);
        noPlace("//a_b:9", 'h', 0);
    }

    @Says("`slot`: 0 to 3")
    static void promise18TheSlots0And3AreTold() {
        Due.asks("partSign", 'a', () -> Due.made("", "a", null, null, "b"), x -> x.partSign(0, 'w', 0));
        Due.asks("partSign", 'b', () -> Due.made("", "a", null, null, "b"), x -> x.partSign(3, 'w', 0));
    }

    @Says("Throws `IndexOutOfBoundsException` if there is no such slot")
    static void promise18ThereAreNoSlotsBelow0AndAbove3() {
        wrongSlots("partSign ", (x, slot, part) -> x.partSign(slot, part, 0));
    }

    @Says("Throws `IllegalArgumentException` if there is no such part")
    static void promise18ThereIsNoPartOfAnotherLetter() {
        wrongParts("partSign ", (x, slot, part) -> x.partSign(slot, part, 0));
    }

    @Says("Throws `NoSuchElementException` if the slot has no address")
    static void promise18ASlotWithoutAnAddressIsRefused() {
        emptySlots("partSign ", (x, slot, part) -> x.partSign(slot, part, 0));
    }

    @Says("If several exceptions apply, the one that is documented first is thrown.")
    static void promise18TheSlotComesAheadOfThePartAndThatOfThePlace() {
        wrongSlotsAndParts("partSign ", (x, slot, part) -> x.partSign(slot, part, -1));
        wrongParts("partSign ", (x, slot, part) -> x.partSign(slot, part, 60));
    }

    // ---- promise 19: begin

    private static void begins(String text, int... wants) {
        for (int i = 0; i < wants.length; i++) {
            char part = PARTS.charAt(i);
            Due.asks("begin " + part + " of " + text, wants[i], () -> Due.made("z", null, text), x -> x.begin(1, part));
        }
    }

    @Says({"Returns at which place of the whole address a part begins", "Returns the place",
            "`part`: the letter of the part"})
    static void promise19EachPartBeginsWhereItsFirstSignStands() {
        begins(ALL, 0, 3, 5, 5, 9, 14, 18, 22, 0);
        begins("a:b#c", 0, 2, -1, -1, -1, -1, -1, 4, 0);
        begins("a%41?%42", -1, 0, -1, -1, -1, 0, 5, -1, 0);
    }

    @Says("an empty one begins where it would.")
    static void promise19AnEmptyPartBeginsWhereItWould() {
        begins("", -1, 0, -1, -1, -1, 0, -1, -1, 0);
        begins("?#", -1, 0, -1, -1, -1, 0, 1, 2, 0);
        begins("#", -1, 0, -1, -1, -1, 0, -1, 1, 0);
        begins("//@h", -1, 0, 2, 2, 3, 4, -1, -1, 0);
        begins("//h:", -1, 0, 2, -1, 2, 4, -1, -1, 0);
        begins("//h?#", -1, 0, 2, -1, 2, 3, 4, 5, 0);
        begins("a:b#", 0, 2, -1, -1, -1, -1, -1, 4, 0);
    }

    @Says("an empty one begins where it would.")
    static void promise19APathWithoutAnAuthorityBeginsBehindTheTwoSlashes() {
        begins("//?", -1, 0, -1, -1, -1, 2, 3, -1, 0);
        begins("a:///p", 0, 2, -1, -1, -1, 4, -1, -1, 0);
    }

    @Says("an empty one begins where it would.")
    static void promise19AnEmptyFragmentCanBeginAt60() {
        Due.due("begin", Due.made("", Due.signs(59) + "#").begin(0, 'f'), 60);
        Due.due("begin", Due.made("", Due.signs(59) + "?").begin(0, 'q'), 60);
        Due.due("begin", Due.made("", "//" + Due.signs(58)).begin(0, 'p'), 60);
    }

    @Says("-1 if the address does not have that part.")
    static void promise19APartThatIsNotThereBeginsNowhere() {
        begins("a:b", 0, 2, -1, -1, -1, -1, -1, -1, 0);
        begins("//a_b", -1, 0, 2, -1, -1, 5, -1, -1, 0);
    }

    @Says("`slot`: 0 to 3")
    static void promise19TheSlots0And3AreTold() {
        Due.asks("begin", 1, () -> Due.made("", "?", null, null, "b?"), x -> x.begin(0, 'q'));
        Due.asks("begin", 2, () -> Due.made("", "?", null, null, "b?"), x -> x.begin(3, 'q'));
    }

    @Says("Throws `IndexOutOfBoundsException` if there is no such slot")
    static void promise19ThereAreNoSlotsBelow0AndAbove3() {
        wrongSlots("begin ", Linkloom::begin);
    }

    @Says("Throws `IllegalArgumentException` if there is no such part")
    static void promise19ThereIsNoPartOfAnotherLetter() {
        wrongParts("begin ", Linkloom::begin);
    }

    @Says("Throws `NoSuchElementException` if it has no address")
    static void promise19ASlotWithoutAnAddressIsRefused() {
        emptySlots("begin ", Linkloom::begin);
    }

    @Says("If several exceptions apply, the one that is documented first is thrown.")
    static void promise19TheSlotComesAheadOfThePartAndThatOfTheAddress() {
        wrongSlotsAndParts("begin ", Linkloom::begin);
    }

    // ---- promise 20: append

    @Says({"Puts a part behind the text", "`part`: the letter of the part"})
    static void promise20EachPartIsPutBehindTheText() {
        for (char part : PARTS.toCharArray()) {
            Linkloom x = some();
            x.append(0, part);
            Due.due("the text", Due.text(x), "z" + Due.part(x, 0, part));
        }
    }

    @Says("each of its signs, and each escape in it, is a piece.")
    static void promise20EachSignAndEachEscapeIsAPiece() {
        Linkloom x = Due.made("z", "a?b%41c%7E");
        x.append(0, 'q');
        Due.due("drops", Due.drops(x), "6 5 2 1 0");
    }

    @Says("Returns how many signs the text has then.")
    static void promise20AppendReturnsHowManySignsThereAre() {
        Linkloom x = some();
        Due.due("append", x.append(0, 'h'), 4);
        Due.due("append", x.append(0, 'w'), 27);
    }

    @Says("Puts a part behind the text")
    static void promise20AnEmptyPartPutsNothing() {
        Due.asks("append f", 1, () -> Due.made("z", "//@h?#"), x -> x.append(0, 'f'));
        Due.asks("append u", 0, () -> Due.made("", "//@h?#"), x -> x.append(0, 'u'));
        Due.asks("append w", 0, () -> Due.made("", ""), x -> x.append(0, 'w'));
    }

    @Says("The text has at most 60 signs")
    static void promise20APartThatEndsAtTheSixtiethIsTaken() {
        Linkloom x = Due.made(Due.signs(50), "?bcdefgh%7e");
        Due.due("append", x.append(0, 'q'), 60);
        Due.due("the text", Due.text(x), Due.signs(50) + "bcdefgh%7e");
    }

    @Says("Throws `IllegalStateException` if the text would have more than 60 signs")
    static void promise20APartThatWouldEndLaterIsRefused() {
        for (int length = 51; length <= 60; length++) {
            String text = Due.signs(length);
            Due.refused("append to " + length, IllegalStateException.class, () -> Due.made(text, "?bcdefgh%7e"),
                    x -> x.append(0, 'q'));
        }
        Due.refused("append of 60", IllegalStateException.class, () -> Due.made("z", Due.signs(60)),
                x -> x.append(0, 'w'));
    }

    @Says("The text has at most 60 signs")
    static void promise20AnEmptyPartIsTakenByAFullText() {
        Due.asks("append f", 60, () -> Due.made(Due.signs(60), "#"), x -> x.append(0, 'f'));
    }

    @Says("or the address not that part")
    static void promise20APartThatIsNotThereIsRefused() {
        for (char part : "auhpqf".toCharArray()) {
            Due.refused("append " + part, NoSuchElementException.class, PartsTest::some, x -> x.append(1, part));
        }
        Due.refused("append s", NoSuchElementException.class, () -> Due.made("z", "b"), x -> x.append(0, 's'));
        Due.refused("append h", NoSuchElementException.class, () -> Due.made("z", "//a_b"), x -> x.append(0, 'h'));
    }

    @Says("`slot`: 0 to 3")
    static void promise20TheSlots0And3AreTaken() {
        Linkloom x = Due.made("", "a", null, null, "b");
        x.append(3, 'w');
        x.append(0, 'w');
        Due.due("the text", Due.text(x), "ba");
    }

    @Says("Throws `IndexOutOfBoundsException` if there is no such slot")
    static void promise20ThereAreNoSlotsBelow0AndAbove3() {
        wrongSlots("append ", Linkloom::append);
    }

    @Says("Throws `IllegalArgumentException` if there is no such part")
    static void promise20ThereIsNoPartOfAnotherLetter() {
        wrongParts("append ", Linkloom::append);
    }

    @Says("Throws `NoSuchElementException` if the slot has no address")
    static void promise20ASlotWithoutAnAddressIsRefused() {
        emptySlots("append ", Linkloom::append);
    }

    @Says("If several exceptions apply, the one that is documented first is thrown.")
    static void promise20TheSlotComesAheadOfThePartAndThatOfTheAddress() {
        wrongSlotsAndParts("append ", Linkloom::append);
    }

    @Says("If several exceptions apply, the one that is documented first is thrown.")
    static void promise20AllOthersComeAheadOfAFullText() {
        String full = Due.signs(60);
        Due.refused("append", IndexOutOfBoundsException.class, () -> Due.made(full, "a:b"), x -> x.append(4, 'w'));
        Due.refused("append", IllegalArgumentException.class, () -> Due.made(full, "a:b"), x -> x.append(0, 'x'));
        Due.refused("append", NoSuchElementException.class, () -> Due.made(full, "a:b"), x -> x.append(0, 'p'));
        Due.refused("append", NoSuchElementException.class, () -> Due.made(full, "a:b"), x -> x.append(1, 'w'));
    }

    // ---- promise 21: copy

    private static String slotsOf(Linkloom x) {
        StringBuilder slots = new StringBuilder();
        for (int slot = 0; slot < 4; slot++) {
            slots.append(slot > 0 ? " " : "").append(x.isThere(slot) ? Due.part(x, slot, 'w') : "none");
        }
        return slots.toString();
    }

    @Says({"Lets a slot have the address of another one", "`to`: the slot that has it then"})
    static void promise21TheOtherSlotHasTheAddressThen() {
        Linkloom x = Due.made("z", ALL, "//h:8", "c");
        x.copy(0, 1);
        Due.due("the slots", slotsOf(x), ALL + " " + ALL + " c none");
        Due.due("its parts", Due.parts(x, 1), Due.parts(x, 0));
        Due.due("its port", x.port(1), 9);
        Due.due("its begin", x.begin(1, 'f'), 22);
        Due.due("the text", Due.text(x), "z");
    }

    @Says("Lets a slot have the address of another one")
    static void promise21TheCopyStaysWhenTheOtherSlotChanges() {
        Linkloom x = Due.made("z", "//u@h:9/p");
        x.copy(0, 3);
        Due.parse(x, 0, "c");
        Due.due("the copy", Due.parts(x, 3), "m=//u@h:9/p a=u@h:9 u=u h=h p=/p");
        Due.due("the copy's port", x.port(3), 9);
        Due.parse(x, 3, "d");
        Due.due("the first", Due.parts(x, 0), "m=c p=c");
    }

    @Says("or none if that has none.")
    static void promise21ACopyOfNoAddressTakesTheAddressAway() {
        Linkloom x = Due.made("z", "a:b", null, "c");
        x.copy(1, 0);
        Due.due("the slots", slotsOf(x), "none none c none");
        Due.due("port", Due.answer(x, y -> y.port(0)), NoSuchElementException.class.getName());
        x.copy(1, 3);
        Due.due("the slots", slotsOf(x), "none none c none");
    }

    @Says("Lets a slot have the address of another one, or none if that has none.")
    static void promise21ACopyToItselfChangesNothing() {
        Due.asks("copy", 2, PartsTest::some, x -> x.copy(0, 0));
        Due.asks("copy", 2, PartsTest::some, x -> x.copy(3, 3));
    }

    @Says("Returns how many slots have addresses then.")
    static void promise21CopyReturnsHowManySlotsHaveAddresses() {
        Linkloom x = Due.made("");
        Due.due("copy of none", x.copy(0, 1), 0);
        x.parse(0);
        Due.due("copy", x.copy(0, 1), 2);
        Due.due("copy", x.copy(0, 2), 3);
        Due.due("copy", x.copy(1, 3), 4);
        Due.due("copy over another", x.copy(3, 2), 4);
        Linkloom y = Due.made("", "a", "b");
        Due.due("copy of none", y.copy(2, 0), 1);
        Due.due("copy of none", y.copy(3, 1), 0);
    }

    @Says({"`slot`: 0 to 3", "`to`: the slot that has it then"})
    static void promise21TheSlots0And3AreTaken() {
        Linkloom x = Due.made("", "a", null, null, "b");
        Due.due("copy", x.copy(0, 3), 2);
        Due.due("the slots", slotsOf(x), "a none none a");
        Linkloom y = Due.made("", "a", null, null, "b");
        Due.due("copy", y.copy(3, 0), 2);
        Due.due("the slots", slotsOf(y), "b none none b");
    }

    @Says("Throws `IndexOutOfBoundsException` if there is no such slot, for either")
    static void promise21ThereAreNoSlotsBelow0AndAbove3() {
        for (int slot : WRONG_SLOTS) {
            Due.refused("copy of " + slot, IndexOutOfBoundsException.class, PartsTest::some, x -> x.copy(slot, 0));
            Due.refused("copy to " + slot, IndexOutOfBoundsException.class, PartsTest::some, x -> x.copy(0, slot));
            Due.refused("copy to " + slot, IndexOutOfBoundsException.class, PartsTest::some, x -> x.copy(2, slot));
            Due.refused("copy of itself", IndexOutOfBoundsException.class, PartsTest::some, x -> x.copy(slot, slot));
        }
    }

    // ---- promise 22: alike

    private static void alike(String one, String other, int want) {
        Due.asks("alike of " + one + " and " + other, want, () -> Due.made("z", null, one, other), x -> x.alike(1, 2));
        Due.asks("alike of " + other + " and " + one, want, () -> Due.made("z", null, one, other), x -> x.alike(2, 1));
    }

    @Says({"Returns how many of the nine parts two addresses have alike, sign by sign", "Returns how many."})
    static void promise22AlikeCountsThePartsThatAreAlike() {
        alike("a://u@h/p?q#f", "a://u@h/p?q#f", 9);
        alike("a://u@h/p?q#f", "b://u@h/p?q#f", 7);
        alike("a://u@h/p?q#f", "a://v@h/p?q#f", 5);
        alike("a://u@h/p?q#f", "a://u@i/p?q#f", 5);
        alike("a://u@h/p?q#f", "a://u@h/r?q#f", 6);
        alike("a://u@h/p?q#f", "a://u@h/p?r#f", 6);
        alike("a://u@h/p?q#f", "a://u@h/p?q#g", 7);
    }

    @Says("Returns how many.")
    static void promise22AllOrNoneOfThePartsCanBeAlike() {
        alike("", "", 9);
        alike(ALL, ALL, 9);
        alike("a://u@h:9/p?q#f", "b:c", 0);
        Due.asks("alike with itself", 9, PartsTest::some, x -> x.alike(0, 0));
    }

    @Says("sign by sign")
    static void promise22LettersAndEscapesAreComparedAsTheyStand() {
        alike("a:b", "A:b", 7);
        alike("//h", "//H", 5);
        alike("#%7e", "#%7E", 7);
        alike("#%61", "#a", 7);
        alike("ab", "ac", 6);
        alike("ab", "bb", 6);
    }

    @Says("sign by sign")
    static void promise22APartThatOnlyBeginsAsTheOtherIsNotAlike() {
        alike("ab", "abc", 6);
        alike("", "a", 6);
        alike("//h:1", "//h:11", 6);
        alike("/p", "//h/p", 5);
    }

    @Says("a part that neither has is alike, too.")
    static void promise22APartThatNeitherHasIsAlike() {
        alike("a:b", "c:d", 6);
        alike("a", "b", 6);
    }

    @Says("a part that neither has is alike, too.")
    static void promise22APartThatOneHasEmptyIsNotAlike() {
        alike("a:b", "a:b#", 7);
        alike("/", "/?", 6);
        alike("//h", "//@h", 5);
        alike("a:b", "a:/", 6);
    }

    @Says({"`slot`: 0 to 3", "`other`: 0 to 3"})
    static void promise22TheSlots0And3AreTaken() {
        Due.asks("alike", 6, () -> Due.made("", "a", null, null, "b"), x -> x.alike(0, 3));
        Due.asks("alike", 6, () -> Due.made("", "a", null, null, "b"), x -> x.alike(3, 0));
    }

    @Says("Throws `IndexOutOfBoundsException` if there is no such slot, for either")
    static void promise22ThereAreNoSlotsBelow0AndAbove3() {
        for (int slot : WRONG_SLOTS) {
            Due.refused("alike", IndexOutOfBoundsException.class, PartsTest::some, x -> x.alike(slot, 0));
            Due.refused("alike", IndexOutOfBoundsException.class, PartsTest::some, x -> x.alike(0, slot));
            Due.refused("alike", IndexOutOfBoundsException.class, PartsTest::some, x -> x.alike(slot, slot));
        }
    }

    @Says("Throws `NoSuchElementException` if one of both has no address")
    static void promise22BothSlotsNeedAnAddress() {
        Due.refused("alike", NoSuchElementException.class, PartsTest::some, x -> x.alike(0, 2));
        Due.refused("alike", NoSuchElementException.class, PartsTest::some, x -> x.alike(2, 0));
        Due.refused("alike", NoSuchElementException.class, PartsTest::some, x -> x.alike(2, 3));
        Due.refused("alike", NoSuchElementException.class, PartsTest::some, x -> x.alike(2, 2));
    }

    @Says("If several exceptions apply, the one that is documented first is thrown.")
    static void promise22AWrongSlotComesAheadOfOneWithoutAnAddress() {
        for (int slot : WRONG_SLOTS) {
            Due.refused("alike", IndexOutOfBoundsException.class, PartsTest::some, x -> x.alike(slot, 2));
            Due.refused("alike", IndexOutOfBoundsException.class, PartsTest::some, x -> x.alike(2, slot));
        }
    }
}
