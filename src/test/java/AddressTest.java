import java.util.NoSuchElementException;
import java.util.function.ToLongFunction;

/** Promises 10 to 16: what is told of refusals and of addresses. */
final class AddressTest {
    private static final int[] WRONG_SLOTS = {-1, 4, 256, Integer.MIN_VALUE, Integer.MAX_VALUE};

    public static void main(String[] args) {
        Due.run(AddressTest.class);
    }

    /** A call of a slot, so that each of the four calls can be asked alike. */
    private interface Call {
        long of(Linkloom x, int slot);
    }

    private static void wrongSlots(String call, Call asking) {
        for (int slot : WRONG_SLOTS) {
            Due.refused(call + slot, IndexOutOfBoundsException.class, () -> Due.made("z", "a:b", "c", "/d", "//e"),
                    x -> asking.of(x, slot));
            // There is no address either, but that is documented behind it.
            Due.refused(call + slot, IndexOutOfBoundsException.class, Linkloom::new, x -> asking.of(x, slot));
        }
    }

    private static void emptySlots(String call, Call asking) {
        for (int slot = 0; slot < 4; slot++) {
            int empty = slot;
            Due.refused(call + slot, NoSuchElementException.class, () -> {
                Linkloom x = Due.made("z", "a:b", "c", "/d", "//e:9");
                Linkloom y = new Linkloom();
                for (int other = 0; other < 4; other++) {
                    if (other != empty) {
                        Due.parse(y, other, Due.part(x, other, 'w'));
                    }
                }
                return y;
            }, x -> asking.of(x, empty));
        }
    }

    private static void told(String call, String text, long want, ToLongFunction<Linkloom> asking) {
        Due.asks(call + " of " + text, want, () -> Due.made("z", null, text), asking);
    }

    /** One text is refused at each of these places, the text of the last one stays. */
    private static Linkloom refusedWith(String... texts) {
        Linkloom x = new Linkloom();
        for (String text : texts) {
            Due.parse(x, 0, text);
        }
        return x;
    }

    // ---- promise 10: refusals

    @Says({"Returns how often a text was refused by parse().", "Returns how often."})
    static void promise10RefusalsCountsRefusedTexts() {
        Due.asks("refusals", 1, () -> refusedWith("a:"), Linkloom::refusals);
        Due.asks("refusals", 3, () -> refusedWith("a:", "{", "//"), Linkloom::refusals);
    }

    @Says("Returns how often.")
    static void promise10TheSameTextCountsAgain() {
        Linkloom x = Due.made("{");
        for (int times = 1; times <= 300; times++) {
            x.parse(times % 4);
        }
        Due.due("refusals", x.refusals(), 300);
    }

    @Says("Returns how often a text was refused by parse().")
    static void promise10ThereAreNoneAtFirst() {
        Due.asks("refusals", 0, Linkloom::new, Linkloom::refusals);
    }

    @Says("Returns how often a text was refused by parse().")
    static void promise10ATakenTextDoesNotCount() {
        Due.asks("refusals", 0, () -> refusedWith("a:b", "c"), Linkloom::refusals);
        Due.asks("refusals", 1, () -> refusedWith("a:b", "a:", "c"), Linkloom::refusals);
    }

    @Says("A method that throws an exception changes nothing.")
    static void promise10AParseThatThrowsDoesNotCount() {
        Linkloom x = Due.made("//{", "a");
        Due.due("parse", Due.answer(x, y -> y.parse(0)), IllegalStateException.class.getName());
        Due.due("refusals", x.refusals(), 0);
        x.drop();
        Due.due("parse", Due.answer(x, y -> y.parse(4)), IndexOutOfBoundsException.class.getName());
        Due.due("refusals", x.refusals(), 0);
        Due.due("parse", x.parse(0), 2);
        Due.due("refusals", x.refusals(), 1);
    }

    // ---- promise 11: refusedAt

    @Says({"Returns the place at which a text was refused last.", "Returns the place."})
    static void promise11TheLastRefusalIsTold() {
        Due.asks("refusedAt", 2, () -> refusedWith("a:"), Linkloom::refusedAt);
        Due.asks("refusedAt", 1, () -> refusedWith("a:", "##"), Linkloom::refusedAt);
        Due.asks("refusedAt", 5, () -> refusedWith("{", "a:b#c#"), Linkloom::refusedAt);
    }

    @Says("Returns the place.")
    static void promise11ThePlaceCanBe0And60() {
        Due.asks("refusedAt", 0, () -> refusedWith("a:", "{"), Linkloom::refusedAt);
        Due.asks("refusedAt", 60, () -> refusedWith("{", Due.signs(59) + ":"), Linkloom::refusedAt);
    }

    @Says("Returns the place at which a text was refused last.")
    static void promise11ATakenTextDoesNotChangeIt() {
        Due.asks("refusedAt", 2, () -> refusedWith("a:", "a:b", ""), Linkloom::refusedAt);
    }

    @Says("A method that throws an exception changes nothing.")
    static void promise11AParseThatThrowsDoesNotChangeIt() {
        Linkloom x = refusedWith("a_:", "a");
        x.wipe();
        Due.typeAll(x, "://{");
        Due.due("parse", Due.answer(x, y -> y.parse(0)), IllegalStateException.class.getName());
        Due.due("refusedAt", x.refusedAt(), 1);
    }

    @Says("Throws `NoSuchElementException` if none was")
    static void promise11NothingIsToldIfNoneWasRefused() {
        Due.refused("refusedAt", NoSuchElementException.class, Linkloom::new, Linkloom::refusedAt);
        Due.refused("refusedAt", NoSuchElementException.class, () -> refusedWith("a"), Linkloom::refusedAt);
        Linkloom x = Due.made("//{");
        Due.due("parse", Due.answer(x, y -> y.parse(0)), IllegalStateException.class.getName());
        Due.due("refusedAt", Due.answer(x, Linkloom::refusedAt), NoSuchElementException.class.getName());
    }

    // ---- promise 12: isTold

    @Says({"Checks what was told with the last refusal: its text was the one that was asked, and the reason has a sign "
            + "at least.", "Returns whether it is so."})
    static void promise12EachRefusalIsTold() {
        for (String text : "{ a: : // ## 9:b a_:b /{ ?{ #{ a:{".split(" ")) {
            Due.asks("isTold of " + text, 1, () -> refusedWith(text), x -> Due.asLong(x.isTold()));
        }
    }

    @Says("its text was the one that was asked")
    static void promise12TheTextMayHaveChangedSince() {
        Linkloom x = refusedWith("a:");
        x.type('b');
        Due.due("isTold", x.isTold(), true);
        x.parse(0);
        Due.due("isTold", x.isTold(), true);
        x.wipe();
        Due.due("isTold", x.isTold(), true);
    }

    @Says("Throws `NoSuchElementException` if none was")
    static void promise12NothingIsToldIfNoneWasRefused() {
        Due.refused("isTold", NoSuchElementException.class, Linkloom::new, x -> Due.asLong(x.isTold()));
        Due.refused("isTold", NoSuchElementException.class, () -> refusedWith("a"), x -> Due.asLong(x.isTold()));
        Linkloom x = Due.made("//{");
        Due.due("parse", Due.answer(x, y -> y.parse(0)), IllegalStateException.class.getName());
        Due.due("isTold", Due.answer(x, y -> Due.asLong(y.isTold())), NoSuchElementException.class.getName());
    }

    // ---- promise 13: isThere

    @Says({"Tells whether a slot has an address.", "Returns whether it has."})
    static void promise13ASlotHasAnAddressOnceOneWasTaken() {
        for (int slot = 0; slot < 4; slot++) {
            Linkloom x = new Linkloom();
            Due.due("isThere at first", x.isThere(slot), false);
            x.parse(slot);
            Due.due("isThere with the empty address", x.isThere(slot), true);
        }
    }

    @Says("Tells whether a slot has an address.")
    static void promise13ARefusedTextGivesNoAddress() {
        Due.asks("isThere 0", 0, () -> refusedWith("a:"), x -> Due.asLong(x.isThere(0)));
        Due.asks("isThere 0", 1, () -> refusedWith("a", "a:"), x -> Due.asLong(x.isThere(0)));
    }

    @Says("Tells whether a slot has an address.")
    static void promise13ACopiedSlotHasWhatTheOtherOneHas() {
        Linkloom x = Due.made("", "a");
        x.copy(0, 3);
        Due.due("isThere 3", x.isThere(3), true);
        x.copy(1, 0);
        Due.due("isThere 0", x.isThere(0), false);
    }

    @Says("`slot`: 0 to 3")
    static void promise13TheSlots0And3AreThere() {
        Due.asks("isThere 0", 1, () -> Due.made("", "a"), x -> Due.asLong(x.isThere(0)));
        Due.asks("isThere 3", 1, () -> Due.made("", null, null, null, "a"), x -> Due.asLong(x.isThere(3)));
        Due.asks("isThere 3", 0, () -> Due.made("", "a"), x -> Due.asLong(x.isThere(3)));
    }

    @Says("Throws `IndexOutOfBoundsException` if there is no such slot")
    static void promise13ThereAreNoSlotsBelow0AndAbove3() {
        wrongSlots("isThere ", (x, slot) -> Due.asLong(x.isThere(slot)));
    }

    // ---- promise 14: isAbsolute

    private static void absolute(String text, long want) {
        told("isAbsolute", text, want, x -> Due.asLong(x.isAbsolute(1)));
    }

    @Says({"Tells whether an address is absolute: has a scheme.", "Returns whether it is."})
    static void promise14AnAddressWithASchemeIsAbsolute() {
        absolute("a:b", 1);
        absolute("a:/b", 1);
        absolute("a://b", 1);
        absolute("a:///", 1);
    }

    @Says({"Tells whether an address is absolute: has a scheme.", "Returns whether it is."})
    static void promise14AnAddressWithoutASchemeIsNotAbsolute() {
        absolute("", 0);
        absolute("/a:b", 0);
        absolute("//a:9", 0);
        absolute("?a:b", 0);
        absolute("#a:b", 0);
    }

    @Says("`slot`: 0 to 3")
    static void promise14TheSlots0And3AreTold() {
        Due.asks("isAbsolute 0", 1, () -> Due.made("", "a:b", null, null, "c"), x -> Due.asLong(x.isAbsolute(0)));
        Due.asks("isAbsolute 3", 0, () -> Due.made("", "a:b", null, null, "c"), x -> Due.asLong(x.isAbsolute(3)));
    }

    @Says({"Throws `IndexOutOfBoundsException` if there is no such slot",
            "If several exceptions apply, the one that is documented first is thrown."})
    static void promise14ThereAreNoSlotsBelow0AndAbove3() {
        wrongSlots("isAbsolute ", (x, slot) -> Due.asLong(x.isAbsolute(slot)));
    }

    @Says("Throws `NoSuchElementException` if it has no address")
    static void promise14ASlotWithoutAnAddressIsRefused() {
        emptySlots("isAbsolute ", (x, slot) -> Due.asLong(x.isAbsolute(slot)));
    }

    // ---- promise 15: isOpaque

    private static void opaque(String text, long want) {
        told("isOpaque", text, want, x -> Due.asLong(x.isOpaque(1)));
    }

    @Says({"Tells whether an address is opaque: has no path.", "Returns whether it is."})
    static void promise15AnAddressWithoutAPathIsOpaque() {
        opaque("a:b", 1);
        opaque("a:b/c?d", 1);
        opaque("a:?/", 1);
        opaque("a:b#/", 1);
    }

    @Says({"Tells whether an address is opaque: has no path.", "Returns whether it is."})
    static void promise15AnAddressWithAPathIsNotOpaque() {
        opaque("a:/b", 0);
        opaque("a/b", 0);
    }

    @Says("has no path.")
    static void promise15AnEmptyPathIsAPath() {
        opaque("", 0);
        opaque("a://h", 0);
        opaque("?", 0);
        opaque("#", 0);
    }

    @Says("`slot`: 0 to 3")
    static void promise15TheSlots0And3AreTold() {
        Due.asks("isOpaque 0", 1, () -> Due.made("", "a:b", null, null, "c"), x -> Due.asLong(x.isOpaque(0)));
        Due.asks("isOpaque 3", 0, () -> Due.made("", "a:b", null, null, "c"), x -> Due.asLong(x.isOpaque(3)));
    }

    @Says({"Throws `IndexOutOfBoundsException` if there is no such slot",
            "If several exceptions apply, the one that is documented first is thrown."})
    static void promise15ThereAreNoSlotsBelow0AndAbove3() {
        wrongSlots("isOpaque ", (x, slot) -> Due.asLong(x.isOpaque(slot)));
    }

    @Says("Throws `NoSuchElementException` if it has no address")
    static void promise15ASlotWithoutAnAddressIsRefused() {
        emptySlots("isOpaque ", (x, slot) -> Due.asLong(x.isOpaque(slot)));
    }

    // ---- promise 16: port

    private static void port(String text, long want) {
        told("port", text, want, x -> x.port(1));
    }

    @Says({"Returns the port of an address.", "Returns the number that its digits make"})
    static void promise16ThePortIsTheNumberOfItsDigits() {
        port("//h:81", 81);
        port("a://u:7@1.2.3.4:123456789/p:5", 123456789);
    }

    @Says("Returns the number that its digits make")
    static void promise16TheLeastAndTheGreatestPort() {
        port("//h:1", 1);
        port("//h:2147483647", 2147483647);
    }

    @Says({"-1 if there is none", "the address has the authority, but neither user info nor host nor port."})
    static void promise16APortAboveTheGreatestIsNone() {
        port("//h:2147483648", -1);
        port("//h:4294967377", -1);
    }

    @Says("-1 if there is none")
    static void promise16ThereIsNoneWithoutAColonInTheAuthority() {
        port("", -1);
        port("//h", -1);
        port("a:9", -1);
        port("//u:9@h", -1);
        port("//h/:9", -1);
    }

    @Says("-1 if there is none")
    static void promise16ThereIsNoneWithoutAHost() {
        port("//a_b:9", -1);
        port("//:9", -1);
        port("///:9", -1);
    }

    @Says("or it has no digits.")
    static void promise16APortWithoutDigitsIsNone() {
        port("//h:", -1);
        port("//h:/9", -1);
        port("//u@h:?9", -1);
    }

    @Says("`slot`: 0 to 3")
    static void promise16TheSlots0And3AreTold() {
        Due.asks("port 0", 7, () -> Due.made("", "//h:7", null, null, "//h:8"), x -> x.port(0));
        Due.asks("port 3", 8, () -> Due.made("", "//h:7", null, null, "//h:8"), x -> x.port(3));
    }

    @Says({"Throws `IndexOutOfBoundsException` if there is no such slot",
            "If several exceptions apply, the one that is documented first is thrown."})
    static void promise16ThereAreNoSlotsBelow0AndAbove3() {
        wrongSlots("port ", Linkloom::port);
    }

    @Says("Throws `NoSuchElementException` if it has no address")
    static void promise16ASlotWithoutAnAddressIsRefused() {
        emptySlots("port ", Linkloom::port);
    }
}
