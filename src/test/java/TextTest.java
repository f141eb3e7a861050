import java.util.NoSuchElementException;

/** Promises 1 to 8: a new object, and the text. Each test asks about one sentence of the document. */
final class TextTest {
    private static final String[] WORDS = {
        "http", "file", "mailto", "a", ":", "//", "/", "?", "#", "@", "user", "u:p", "host",
        "w.x-y.com", "1.2.3.4", "1.2.3.256", ":81", "-", ".", "a-", "9", "_", "p/q", "..",
        "x=1&y=2", ";v=1", "%41%7e", "~(!)*'", "$", "{", "<>", "2147483648"};

    public static void main(String[] args) {
        Due.run(TextTest.class);
    }

    private static boolean isTyped(int code) {
        return code >= 33 && code <= 126 && "%[]0".indexOf(code) < 0;
    }

    private static void typed(int code) {
        Linkloom x = new Linkloom();
        Due.due("type of code " + code, x.type((char) code), 1);
        Due.due("the sign of code " + code, x.signAt(0), code);
    }

    private static void notTyped(String text, int code) {
        Due.refused("type of code " + code, IllegalArgumentException.class,
                () -> Due.made(text), x -> x.type((char) code));
    }

    // ---- promise 1: a new object

    @Says({"Creates four slots without addresses", "There are the slots 0 to 3, without addresses at first."})
    static void promise01NoSlotHasAnAddressAtFirst() {
        for (int slot = 0; slot < 4; slot++) {
            Due.due("isThere " + slot, new Linkloom().isThere(slot), false);
        }
    }

    @Says("Creates four slots")
    static void promise01ThereIsNoFifthSlot() {
        Due.refused("isThere 4", IndexOutOfBoundsException.class, Linkloom::new, x -> Due.asLong(x.isThere(4)));
    }

    @Says({"and an empty text.", "none at first."})
    static void promise01TheTextIsEmptyAtFirst() {
        Due.due("length", new Linkloom().length(), 0);
        Due.refused("signAt 0", IndexOutOfBoundsException.class, Linkloom::new, x -> x.signAt(0));
        Due.refused("drop", NoSuchElementException.class, Linkloom::new, Linkloom::drop);
    }

    @Says("Creates four slots without addresses, and an empty text.")
    static void promise01EachObjectHasItsOwn() {
        Linkloom x = Due.made("b", "a");
        Linkloom y = new Linkloom();
        Due.due("length of the other", y.length(), 0);
        Due.due("isThere of the other", y.isThere(0), false);
        y.word(31);
        y.parse(0);
        Due.due("the text", Due.text(x), "b");
        Due.due("the address", Due.part(x, 0, 'w'), "a");
    }

    // ---- promise 2: type

    @Says({"Puts a sign behind the text", "`sign`: the sign"})
    static void promise02TypePutsTheSignBehindTheText() {
        Linkloom x = Due.made("a%41");
        x.type('!');
        x.type('b');
        Due.due("the text", Due.text(x), "a%41!b");
    }

    @Says("it is a piece.")
    static void promise02ATypedSignIsAPiece() {
        Due.due("drops", Due.drops(Due.made("4a~")), "2 1 0");
    }

    @Says("Returns how many signs the text has then.")
    static void promise02TypeReturnsHowManySignsThereAre() {
        Linkloom x = new Linkloom();
        Due.due("type", x.type('a'), 1);
        Due.due("type", x.type('b'), 2);
        x.escape(1, true);
        Due.due("type behind an escape", x.type('c'), 6);
    }

    @Says("Signs. Those that can be typed have the codes 33 to 126")
    static void promise02TheCodes33And126AreTyped() {
        typed(33);
        typed(126);
    }

    @Says("Signs. Those that can be typed have the codes 33 to 126")
    static void promise02AllSignsBetweenAreTyped() {
        for (int code = 33; code <= 126; code++) {
            if (isTyped(code)) {
                typed(code);
            }
        }
    }

    @Says("Throws `IllegalArgumentException` if it is no sign that can be typed")
    static void promise02TheCodes32And127AreRefused() {
        notTyped("a", 32);
        notTyped("a", 127);
    }

    @Says("but not '%', '[', ']' and '0'.")
    static void promise02PercentBracketsAndZeroAreRefused() {
        notTyped("a", '%');
        notTyped("a", '[');
        notTyped("a", ']');
        notTyped("a", '0');
    }

    @Says("but not '%', '[', ']' and '0'.")
    static void promise02TheSignsNextToTheseAreTyped() {
        for (char sign : "$&Z\\^/1".toCharArray()) {
            typed(sign);
        }
    }

    @Says("The bad signs are \" < > \\ ^ ` { | and }; they can be typed")
    static void promise02BadSignsAreTyped() {
        for (char sign : "\"<>\\^`{|}".toCharArray()) {
            typed(sign);
        }
    }

    @Says("Throws `IllegalArgumentException` if it is no sign that can be typed")
    static void promise02EveryOtherCodeIsRefused() {
        for (int code = 0; code <= 0xffff; code++) {
            if (!isTyped(code)) {
                int other = code;
                Due.due("type of code " + code, Due.answer(new Linkloom(), x -> x.type((char) other)),
                        IllegalArgumentException.class.getName());
            }
        }
    }

    @Says("Exceptions. A method that throws an exception changes nothing.")
    static void promise02ARefusedSignChangesNothing() {
        // Codes that would be a letter if only their lower bits were looked at.
        notTyped("", 0);
        notTyped("a%41", 0x100 + 'a');
        notTyped("a:b", 0x8000 + 'a');
        notTyped("9:", 0xffff);
    }

    @Says("The text has at most 60 signs")
    static void promise02TheSixtiethSignIsTaken() {
        Linkloom x = Due.made(Due.signs(59));
        Due.due("type of the 60th", x.type('~'), 60);
        Due.due("the 60th", x.signAt(59), '~');
    }

    @Says("Throws `IllegalStateException` if the text would have more than 60 signs")
    static void promise02TheSixtyFirstSignIsRefused() {
        Due.refused("type of the 61st", IllegalStateException.class, () -> Due.made(Due.signs(60)), x -> x.type('b'));
    }

    @Says("If several exceptions apply, the one that is documented first is thrown.")
    static void promise02AWrongSignBehindAFullTextIsAWrongSign() {
        notTyped(Due.signs(60), '%');
        notTyped(Due.signs(60), ' ');
    }

    // ---- promise 3: escape

    private static void escaped(int value, boolean isSmall, String want) {
        Linkloom x = new Linkloom();
        Due.due("escape of " + value, x.escape(value, isSmall), 3);
        Due.due("the escape of " + value, Due.text(x), want);
    }

    private static void notEscaped(String text, int value, Class<? extends RuntimeException> want) {
        Due.refused("escape of " + value, want, () -> Due.made(text), x -> x.escape(value, true));
        Due.refused("escape of " + value, want, () -> Due.made(text), x -> x.escape(value, false));
    }

    @Says("Puts an escape behind the text: '%' and two signs, the value to the base 16, the higher place first")
    static void promise03TheHigherPlaceComesFirst() {
        escaped(0x12, true, "%12");
        escaped(0x21, false, "%21");
        escaped(0xf, true, "%0f");
        escaped(0xf0, false, "%F0");
    }

    @Says("Puts an escape behind the text")
    static void promise03TheEscapeStandsBehindTheText() {
        Linkloom x = Due.made("a");
        x.escape(65, true);
        x.type('b');
        x.escape(66, true);
        Due.due("the text", Due.text(x), "a%41b%42");
    }

    @Says("the value to the base 16")
    static void promise03EachValueIsWritten() {
        for (int value = 0; value <= 255; value++) {
            escaped(value, true, String.format("%%%02x", value));
            escaped(value, false, String.format("%%%02X", value));
        }
    }

    @Says("`isSmall`: whether letters are small ones, a to f, otherwise A to F")
    static void promise03LettersAreSmallOrNot() {
        escaped(0xaf, true, "%af");
        escaped(0xaf, false, "%AF");
        escaped(0x9a, true, "%9a");
        escaped(0x9a, false, "%9A");
        escaped(0x99, true, "%99");
        escaped(0x99, false, "%99");
    }

    @Says({"it is a piece.", "Escapes count as one sign each"})
    static void promise03AnEscapeIsOnePiece() {
        Due.due("drops", Due.drops(Due.made("%41%42")), "3 0");
        Due.due("drops", Due.drops(Due.made("4%001%ff")), "5 4 1 0");
    }

    @Says({"Returns how many signs the text has then.", "as places of the text they are three."})
    static void promise03AnEscapeCountsThree() {
        Linkloom x = Due.made("a");
        Due.due("escape", x.escape(1, true), 4);
        Due.due("escape", x.escape(2, true), 7);
    }

    @Says("`value`: 0 to 255")
    static void promise03TheValues0And255AreTaken() {
        escaped(0, true, "%00");
        escaped(0, false, "%00");
        escaped(255, true, "%ff");
        escaped(255, false, "%FF");
    }

    @Says("Throws `IllegalArgumentException` if the value is out of range")
    static void promise03TheValuesBelow0AndAbove255AreRefused() {
        notEscaped("a", -1, IllegalArgumentException.class);
        notEscaped("a", 256, IllegalArgumentException.class);
    }

    @Says("Throws `IllegalArgumentException` if the value is out of range")
    static void promise03ValuesFarBeyondAreRefused() {
        // Some of them would be in range if only their lower bits were looked at.
        for (int value : new int[] {256 + 65, -256 + 65, 65536 + 65, Integer.MIN_VALUE, Integer.MAX_VALUE}) {
            notEscaped("a", value, IllegalArgumentException.class);
        }
    }

    @Says("The text has at most 60 signs")
    static void promise03AnEscapeThatEndsAtTheSixtiethIsTaken() {
        Linkloom x = Due.made(Due.signs(57));
        Due.due("escape", x.escape(0xab, true), 60);
        Due.due("the text", Due.text(x), Due.signs(57) + "%ab");
    }

    @Says("Throws `IllegalStateException` if the text would have more than 60 signs")
    static void promise03AnEscapeThatWouldEndLaterIsRefused() {
        notEscaped(Due.signs(58), 1, IllegalStateException.class);
        notEscaped(Due.signs(59), 1, IllegalStateException.class);
        notEscaped(Due.signs(60), 1, IllegalStateException.class);
    }

    @Says("If several exceptions apply, the one that is documented first is thrown.")
    static void promise03AWrongValueBehindAFullTextIsAWrongValue() {
        notEscaped(Due.signs(58), 256, IllegalArgumentException.class);
        notEscaped(Due.signs(60), -1, IllegalArgumentException.class);
    }

    // ---- promise 4: word

    private static void noWord(String text, int which, Class<? extends RuntimeException> want) {
        Due.refused("word " + which, want, () -> Due.made(text), x -> x.word(which));
    }

    @Says({"Words, from 0 on, are http, file, mailto, a, :, //, /, ?, #, @, user, u:p, host, w.x-y.com, 1.2.3.4, "
            + "1.2.3.256, :81, -, ., a-, 9, _, p/q, .., x=1&y=2, ;v=1, %41%7e, ~(!)*', $, {, <> and 2147483648",
            "of which the commas and blanks between two, and the word and, are no signs."})
    static void promise04EachWordHasItsSigns() {
        for (int which = 0; which < WORDS.length; which++) {
            Linkloom x = new Linkloom();
            x.word(which);
            Due.due("word " + which, Due.text(x), WORDS[which]);
        }
    }

    @Says("Puts a word behind the text")
    static void promise04TheWordStandsBehindTheText() {
        Linkloom x = Due.made("a%41");
        x.word(13);
        x.word(8);
        Due.due("the text", Due.text(x), "a%41w.x-y.com#");
    }

    @Says("each of its signs, and each escape in it, is a piece.")
    static void promise04EachSignOfAWordIsAPiece() {
        Linkloom x = new Linkloom();
        x.word(0);
        Due.due("drops of http", Due.drops(x), "3 2 1 0");
        x.word(30);
        Due.due("drops of <>", Due.drops(x), "1 0");
    }

    @Says("each escape in it, is a piece.")
    static void promise04EachEscapeOfAWordIsAPiece() {
        Linkloom x = Due.made("a");
        x.word(26);
        Due.due("drops of a%41%7e", Due.drops(x), "4 1 0");
    }

    @Says("Returns how many signs the text has then.")
    static void promise04WordReturnsHowManySignsThereAre() {
        for (int which = 0; which < WORDS.length; which++) {
            Linkloom x = Due.made("ab");
            Due.due("word " + which, x.word(which), 2 + WORDS[which].length());
        }
    }

    @Says("`which`: its number, 0 to 31")
    static void promise04TheWords0And31AreThere() {
        Due.due("word 0", new Linkloom().word(0), 4);
        Due.due("word 31", new Linkloom().word(31), 10);
    }

    @Says("Throws `IndexOutOfBoundsException` if there is no such word")
    static void promise04ThereAreNoWordsBelow0AndAbove31() {
        noWord("a", -1, IndexOutOfBoundsException.class);
        noWord("a", 32, IndexOutOfBoundsException.class);
        for (int which : new int[] {256, 65536, Integer.MIN_VALUE, Integer.MAX_VALUE}) {
            noWord("", which, IndexOutOfBoundsException.class);
        }
    }

    @Says("The text has at most 60 signs")
    static void promise04AWordThatEndsAtTheSixtiethIsTaken() {
        for (int which = 0; which < WORDS.length; which++) {
            String ahead = Due.signs(60 - WORDS[which].length());
            Linkloom x = Due.made(ahead);
            Due.due("word " + which, x.word(which), 60);
            Due.due("the text", Due.text(x), ahead + WORDS[which]);
        }
    }

    @Says("Throws `IllegalStateException` if the text would have more than 60 signs")
    static void promise04AWordThatWouldEndLaterIsRefused() {
        for (int which = 0; which < WORDS.length; which++) {
            noWord(Due.signs(61 - WORDS[which].length()), which, IllegalStateException.class);
        }
    }

    @Says("A method that throws an exception changes nothing.")
    static void promise04NoSignOfARefusedWordIsPut() {
        noWord(Due.signs(59), 26, IllegalStateException.class);
        noWord(Due.signs(57), 26, IllegalStateException.class);
        noWord(Due.signs(60), 0, IllegalStateException.class);
    }

    @Says("If several exceptions apply, the one that is documented first is thrown.")
    static void promise04AWrongWordBehindAFullTextIsAWrongWord() {
        noWord(Due.signs(60), 32, IndexOutOfBoundsException.class);
        noWord(Due.signs(60), -1, IndexOutOfBoundsException.class);
    }

    // ---- promise 5: drop

    @Says("Takes the last piece off the text.")
    static void promise05TheLastSignIsTakenOff() {
        Linkloom x = Due.made("ab");
        x.drop();
        Due.due("the text", Due.text(x), "a");
    }

    @Says("Takes the last piece off the text.")
    static void promise05AnEscapeIsTakenOffWhole() {
        Linkloom x = Due.made("a%41");
        x.drop();
        Due.due("the text", Due.text(x), "a");
    }

    @Says("Takes the last piece off the text.")
    static void promise05OnlyTheSignBehindAnEscapeIsTakenOff() {
        // The last three signs are no escape, but the '%' is near.
        Linkloom x = Due.made("%414");
        x.drop();
        Due.due("the text", Due.text(x), "%41");
        Linkloom y = Due.made("%4142");
        y.drop();
        Due.due("the text", Due.text(y), "%414");
    }

    @Says("Takes the last piece off the text.")
    static void promise05ThereIsRoomAgainBehindAFullTextsDrop() {
        Linkloom x = Due.made(Due.signs(57) + "%41");
        Due.due("drop", x.drop(), 57);
        Due.due("escape", x.escape(66, true), 60);
    }

    @Says("Returns how many signs the text has then.")
    static void promise05DropReturnsHowManySignsAreLeft() {
        Due.due("drops of 60", Due.made(Due.signs(60)).drop(), 59);
        Due.due("drops", Due.drops(Due.made("a%41b%7E%7e")), "8 5 4 1 0");
    }

    @Says("Takes the last piece off the text.")
    static void promise05TheOnlyPieceIsTakenOff() {
        Due.due("drop", Due.made("a").drop(), 0);
        Due.due("drop", Due.made("%41").drop(), 0);
    }

    @Says("Throws `NoSuchElementException` if the text is empty")
    static void promise05AnEmptyTextHasNoPiece() {
        Due.refused("drop", NoSuchElementException.class, Linkloom::new, Linkloom::drop);
        Due.refused("drop", NoSuchElementException.class, () -> Due.made("", "a:b"), Linkloom::drop);
    }

    @Says("Throws `NoSuchElementException` if the text is empty")
    static void promise05ATextThatWasDroppedOrWipedIsEmpty() {
        Linkloom x = Due.made("a");
        x.drop();
        Due.due("drop", Due.answer(x, Linkloom::drop), NoSuchElementException.class.getName());
        Linkloom y = Due.made("ab");
        y.wipe();
        Due.due("drop", Due.answer(y, Linkloom::drop), NoSuchElementException.class.getName());
    }

    // ---- promise 6: wipe

    @Says("Makes the text empty.")
    static void promise06TheTextIsEmptyThen() {
        Linkloom x = Due.made(Due.signs(60));
        x.wipe();
        Due.due("length", x.length(), 0);
        Due.due("signAt 0", Due.answer(x, y -> y.signAt(0)), IndexOutOfBoundsException.class.getName());
        Due.due("word", x.word(31), 10);
        Due.due("the text", Due.text(x), "2147483648");
    }

    @Says("Returns how many signs it had.")
    static void promise06WipeReturnsHowManySignsThereWere() {
        Due.due("wipe of 60", Due.made(Due.signs(60)).wipe(), 60);
        Due.due("wipe of 4", Due.made("a%41").wipe(), 4);
    }

    @Says("Returns how many signs it had.")
    static void promise06AnEmptyTextHadNone() {
        Due.asks("wipe", 0, Linkloom::new, Linkloom::wipe);
        Linkloom x = Due.made("a");
        x.wipe();
        Due.due("wipe again", x.wipe(), 0);
    }

    @Says("Makes the text empty.")
    static void promise06SlotsAndRefusalsStay() {
        Linkloom x = Due.made("9:", "a:b");
        x.parse(1);
        x.wipe();
        Due.due("refusals", x.refusals(), 1);
        Due.due("refusedAt", x.refusedAt(), 0);
        Due.due("the address", Due.part(x, 0, 'w'), "a:b");
    }

    // ---- promise 7: length

    @Says({"Returns how many signs the text has.", "Returns how many."})
    static void promise07LengthIsHowManySignsThereAre() {
        Due.asks("length", 2, () -> Due.made("ab", "c"), Linkloom::length);
    }

    @Says("as places of the text they are three.")
    static void promise07AnEscapeCountsThree() {
        Due.asks("length", 7, () -> Due.made("a%41%42"), Linkloom::length);
    }

    @Says("The text has at most 60 signs, none at first.")
    static void promise07LengthIs0AtFirstAnd60AtMost() {
        Due.asks("length", 0, Linkloom::new, Linkloom::length);
        Due.asks("length", 60, () -> Due.made(Due.signs(60)), Linkloom::length);
        Due.asks("length", 60, () -> Due.made(Due.signs(57) + "%41"), Linkloom::length);
    }

    // ---- promise 8: signAt

    private static void noSign(String text, int place) {
        Due.refused("signAt " + place, IndexOutOfBoundsException.class, () -> Due.made(text), x -> x.signAt(place));
    }

    @Says({"Returns a sign of the text.", "Returns the sign."})
    static void promise08EachSignIsAtItsPlace() {
        Due.due("the text", Due.text(Due.made("a%4F:~!")), "a%4F:~!");
    }

    @Says("`place`: its place, from 0")
    static void promise08TheFirstAndTheLastPlace() {
        Due.asks("signAt 0", 'a', () -> Due.made("abc"), x -> x.signAt(0));
        Due.asks("signAt 2", 'c', () -> Due.made("abc"), x -> x.signAt(2));
        Due.asks("signAt 59", '~', () -> Due.made(Due.signs(59) + "~"), x -> x.signAt(59));
    }

    @Says("as places of the text they are three.")
    static void promise08AnEscapeHasThreePlaces() {
        Due.asks("signAt 1", '%', () -> Due.made("a%4F"), x -> x.signAt(1));
        Due.asks("signAt 3", 'F', () -> Due.made("a%4F"), x -> x.signAt(3));
        noSign("a%4F", 4);
    }

    @Says("Throws `IndexOutOfBoundsException` if there is no such place")
    static void promise08ThereIsNoPlaceBelow0AndBehindTheLast() {
        noSign("abc", -1);
        noSign("abc", 3);
        noSign(Due.signs(60), 60);
        noSign(Due.signs(60), -1);
    }

    @Says("Throws `IndexOutOfBoundsException` if there is no such place")
    static void promise08AnEmptyTextHasNoPlace() {
        noSign("", 0);
        noSign("", -1);
    }

    @Says("Throws `IndexOutOfBoundsException` if there is no such place")
    static void promise08ThereIsNoPlaceFarBeyond() {
        for (int place : new int[] {64, 128, 256, 65536, Integer.MIN_VALUE, Integer.MAX_VALUE}) {
            noSign("abc", place);
        }
    }

    @Says("Throws `IndexOutOfBoundsException` if there is no such place")
    static void promise08ADroppedSignHasNoPlace() {
        Linkloom x = Due.made("ab%41");
        x.drop();
        Due.due("signAt 2", Due.answer(x, y -> y.signAt(2)), IndexOutOfBoundsException.class.getName());
        Due.due("signAt 1", x.signAt(1), 'b');
    }
}
