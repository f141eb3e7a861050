import java.util.NoSuchElementException;

/**
 * Addresses by the grammar of java.net.URI: a text is typed by pieces, taken as an address or
 * refused, told by its parts, and put together again. "Rule 1" to "rule 7" are those of DOC.md.
 */
public final class Linkloom {

    private static final int MOST_SIGNS = 60;
    /** mix() can weave two whole addresses and the few signs between their parts before it refuses. */
    private static final int ROOM = 128;
    private static final int SLOT_COUNT = 4;
    private static final int WORD_COUNT = 32;
    private static final int MOST_ESCAPED = 255;
    private static final int ESCAPE_SIGNS = 3;
    private static final int MOST_PORT = 2147483647;

    /** The letters of the nine parts; a part is known inside by its place here. */
    private static final String PART_LETTERS = "smauhpqfw";
    private static final String MIXED_LETTERS = "sapqf";
    private static final int PART_COUNT = 9;
    private static final int SCHEME = 0;
    private static final int SPECIFIC = 1;
    private static final int AUTHORITY = 2;
    private static final int USER = 3;
    private static final int HOST = 4;
    private static final int PATH = 5;
    private static final int QUERY = 6;
    private static final int FRAGMENT = 7;
    private static final int WHOLE = 8;

    /** The answer where there is no place, no part or no port. */
    private static final int NONE = -1;

    private static final String NEVER_TYPED = "%[]0";
    private static final String BAD_SIGNS = "\"<>\\^`{|}";
    private static final String AUTHORITY_ENDS = "/?#";
    private static final String SMALL_DIGITS = "0123456789abcdef";
    private static final String LARGE_DIGITS = "0123456789ABCDEF";

    private final Text text;
    private final Address[] slots;
    /** Made once, like the loom, so that no call makes objects. */
    private final Cutter cutter;
    /** What is put together, ahead of becoming the text: it may be too long. */
    private final Text loom;
    private int refusalCount;
    private int refusedPlace;

    public Linkloom() {
        text = new Text();
        loom = new Text();
        cutter = new Cutter();
        slots = new Address[SLOT_COUNT];
        for (int slot = 0; slot < slots.length; slot++) {
            slots[slot] = new Address();
        }
    }

    // ---- the text

    public int type(char sign) throws IllegalArgumentException, IllegalStateException {
        if (sign < '!' || sign > '~' || NEVER_TYPED.indexOf(sign) >= 0) {
            throw new IllegalArgumentException("no sign that can be typed");
        }
        checkRoom(1);
        text.put(sign);
        return text.count();
    }

    public int escape(int value, boolean isSmall) throws IllegalArgumentException, IllegalStateException {
        if (value < 0 || value > MOST_ESCAPED) {
            throw new IllegalArgumentException("the value is out of range");
        }
        checkRoom(ESCAPE_SIGNS);
        String digits = isSmall ? SMALL_DIGITS : LARGE_DIGITS;
        text.put('%');
        text.put(digits.charAt((value >> 4) & 15));
        text.put(digits.charAt(value & 15));
        return text.count();
    }

    public int word(int which) throws IndexOutOfBoundsException, IllegalStateException {
        if (which < 0 || which >= WORD_COUNT) {
            throw new IndexOutOfBoundsException("no such word");
        }
        String signs = wordAt(which);
        checkRoom(signs.length());
        text.putAll(signs);
        return text.count();
    }

    public int drop() throws NoSuchElementException {
        int count = text.count();
        if (count == 0) {
            throw new NoSuchElementException("the text is empty");
        }
        // A '%' cannot be typed: where one stands, an escape begins.
        boolean isEscape = text.at(count - ESCAPE_SIGNS) == '%';
        text.shorten(isEscape ? count - ESCAPE_SIGNS : count - 1);
        return text.count();
    }

    public int wipe() {
        int count = text.count();
        text.shorten(0);
        return count;
    }

    public int length() {
        return text.count();
    }

    public char signAt(int place) throws IndexOutOfBoundsException {
        if (place < 0 || place >= text.count()) {
            throw new IndexOutOfBoundsException("no such place");
        }
        return text.at(place);
    }

    // ---- addresses

    public int parse(int slot) throws IndexOutOfBoundsException, IllegalStateException {
        Address target = slotAt(slot);
        if (Grammar.isAuthorityBad(text)) {
            throw new IllegalStateException("a bad sign in the authority");
        }
        int place = cutter.cut(text);
        if (place == NONE) {
            target.takeOver(cutter.address());
        } else {
            refusalCount++;
            refusedPlace = place;
        }
        return place;
    }

    public int refusals() {
        return refusalCount;
    }

    public int refusedAt() throws NoSuchElementException {
        checkRefused();
        return refusedPlace;
    }

    public boolean isTold() throws NoSuchElementException {
        checkRefused();
        // Only the text that was asked is ever refused, and always by one of the rules.
        return true;
    }

    public boolean isThere(int slot) throws IndexOutOfBoundsException {
        return slotAt(slot).isHeld();
    }

    public boolean isAbsolute(int slot) throws IndexOutOfBoundsException, NoSuchElementException {
        return addressAt(slot).has(SCHEME);
    }

    public boolean isOpaque(int slot) throws IndexOutOfBoundsException, NoSuchElementException {
        return !addressAt(slot).has(PATH);
    }

    public int port(int slot) throws IndexOutOfBoundsException, NoSuchElementException {
        return addressAt(slot).portNumber();
    }

    // ---- parts

    public int size(int slot, char part)
            throws IndexOutOfBoundsException, IllegalArgumentException, NoSuchElementException {
        Address address = slotAt(slot);
        int which = partOf(part);
        checkHeld(address);
        return address.sizeOf(which);
    }

    public char partSign(int slot, char part, int place)
            throws IndexOutOfBoundsException, IllegalArgumentException, NoSuchElementException {
        Address address = slotAt(slot);
        int which = partOf(part);
        checkHeld(address);
        if (place < 0 || place >= address.sizeOf(which)) {
            throw new NoSuchElementException("the part has no such place");
        }
        return address.signOf(which, place);
    }

    public int begin(int slot, char part)
            throws IndexOutOfBoundsException, IllegalArgumentException, NoSuchElementException {
        Address address = slotAt(slot);
        int which = partOf(part);
        checkHeld(address);
        return address.beginOf(which);
    }

    public int append(int slot, char part)
            throws IndexOutOfBoundsException, IllegalArgumentException, NoSuchElementException,
            IllegalStateException {
        Address address = slotAt(slot);
        int which = partOf(part);
        checkHeld(address);
        if (!address.has(which)) {
            throw new NoSuchElementException("the address does not have that part");
        }
        checkRoom(address.sizeOf(which));
        address.putPart(which, text);
        return text.count();
    }

    public int copy(int slot, int to) throws IndexOutOfBoundsException {
        Address source = slotAt(slot);
        slotAt(to).takeOver(source);
        int held = 0;
        for (Address address : slots) {
            if (address.isHeld()) {
                held++;
            }
        }
        return held;
    }

    public int alike(int slot, int other) throws IndexOutOfBoundsException, NoSuchElementException {
        Address address = slotAt(slot);
        Address another = slotAt(other);
        checkHeld(address);
        checkHeld(another);
        return address.partsAlike(another);
    }

    // ---- putting together

    public boolean together(int slot) throws IndexOutOfBoundsException, NoSuchElementException {
        Address address = addressAt(slot);
        weave(address, address, NONE);
        text.takeOver(loom);
        return address.isWhole(text);
    }

    public int mix(int slot, int other, char part)
            throws IndexOutOfBoundsException, NoSuchElementException, IllegalArgumentException,
            UnsupportedOperationException, IllegalStateException {
        Address address = slotAt(slot);
        Address another = slotAt(other);
        checkHeld(address);
        checkHeld(another);
        if (MIXED_LETTERS.indexOf(part) < 0) {
            throw new IllegalArgumentException("no part that can be mixed");
        }
        if (!address.has(PATH) || !another.has(PATH)) {
            throw new UnsupportedOperationException("an opaque address");
        }
        weave(address, another, PART_LETTERS.indexOf(part));
        if (loom.count() > MOST_SIGNS) {
            throw new IllegalStateException("too many signs");
        }
        text.takeOver(loom);
        return text.count();
    }

    // ---- all

    public boolean isTrue() {
        for (Address address : slots) {
            if (address.isHeld()
                    && !(isSameAnew(address) && isThreeParts(address) && isWovenAgain(address))) {
                return false;
            }
        }
        return true;
    }

    public long checksum() {
        long sum = 7;
        for (int place = 0; place < text.count(); place++) {
            sum = 31 * sum + text.at(place);
        }
        sum = 31 * sum + refusalCount;
        for (Address address : slots) {
            sum = address.sumBehind(sum);
        }
        return sum;
    }

    // ---- what is checked ahead of a call

    private void checkRoom(int more) {
        if (text.count() + more > MOST_SIGNS) {
            throw new IllegalStateException("too many signs");
        }
    }

    private void checkRefused() {
        if (refusalCount == 0) {
            throw new NoSuchElementException("no text was refused");
        }
    }

    private Address slotAt(int slot) {
        if (slot < 0 || slot >= slots.length) {
            throw new IndexOutOfBoundsException("no such slot");
        }
        return slots[slot];
    }

    private static void checkHeld(Address address) {
        if (!address.isHeld()) {
            throw new NoSuchElementException("the slot has no address");
        }
    }

    private Address addressAt(int slot) {
        Address address = slotAt(slot);
        checkHeld(address);
        return address;
    }

    private static int partOf(char letter) {
        int part = PART_LETTERS.indexOf(letter);
        if (part < 0) {
            throw new IllegalArgumentException("no such part");
        }
        return part;
    }

    // ---- the theorem and rule 7

    /** Rule 7, into the loom: the part that is swapped is taken from the other address. */
    private void weave(Address address, Address other, int swapped) {
        loom.shorten(0);
        weavePart("", swapped == SCHEME ? other : address, SCHEME, ":");
        if (!address.has(PATH)) {
            weavePart("", address, SPECIFIC, "");
        }
        weavePart("//", swapped == AUTHORITY ? other : address, AUTHORITY, "");
        weavePart("", swapped == PATH ? other : address, PATH, "");
        weavePart("?", swapped == QUERY ? other : address, QUERY, "");
        weavePart("#", swapped == FRAGMENT ? other : address, FRAGMENT, "");
    }

    private void weavePart(String ahead, Address address, int part, String behind) {
        if (address.has(part)) {
            loom.putAll(ahead);
            address.putPart(part, loom);
            loom.putAll(behind);
        }
    }

    private boolean isSameAnew(Address address) {
        loom.shorten(0);
        address.putPart(WHOLE, loom);
        return cutter.cut(loom) == NONE
                && cutter.address().partsAlike(address) == PART_COUNT
                && cutter.address().portNumber() == address.portNumber();
    }

    private boolean isThreeParts(Address address) {
        loom.shorten(0);
        weavePart("", address, SCHEME, ":");
        weavePart("", address, SPECIFIC, "");
        weavePart("#", address, FRAGMENT, "");
        return address.isWhole(loom);
    }

    private boolean isWovenAgain(Address address) {
        weave(address, address, NONE);
        return address.isSkippingSlashes()
                ? address.isWholeWithoutSlashes(loom)
                : address.isWhole(loom);
    }

    private static String wordAt(int which) {
        switch (which) {
            case 0: return "http";
            case 1: return "file";
            case 2: return "mailto";
            case 3: return "a";
            case 4: return ":";
            case 5: return "//";
            case 6: return "/";
            case 7: return "?";
            case 8: return "#";
            case 9: return "@";
            case 10: return "user";
            case 11: return "u:p";
            case 12: return "host";
            case 13: return "w.x-y.com";
            case 14: return "1.2.3.4";
            case 15: return "1.2.3.256";
            case 16: return ":81";
            case 17: return "-";
            case 18: return ".";
            case 19: return "a-";
            case 20: return "9";
            case 21: return "_";
            case 22: return "p/q";
            case 23: return "..";
            case 24: return "x=1&y=2";
            case 25: return ";v=1";
            case 26: return "%41%7e";
            case 27: return "~(!)*'";
            case 28: return "$";
            case 29: return "{";
            case 30: return "<>";
            case 31: return "2147483648";
            default: return "";
        }
    }

    /** A row of signs in a room that is made once. */
    private static final class Text {
        private final char[] signs = new char[ROOM];
        private int count;

        int count() {
            return count;
        }

        /** Behind the end and ahead of the start stands the sign 0, which no text has. */
        char at(int place) {
            return place >= 0 && place < count && place < signs.length ? signs[place] : (char) 0;
        }

        void put(char sign) {
            if (count >= 0 && count < signs.length) {
                signs[count] = sign;
                count++;
            }
        }

        void putAll(String more) {
            for (int i = 0; i < more.length(); i++) {
                put(more.charAt(i));
            }
        }

        void putRange(Text from, int begin, int end) {
            for (int place = begin; place < end; place++) {
                put(from.at(place));
            }
        }

        void shorten(int fewer) {
            if (fewer >= 0 && fewer < count) {
                count = fewer;
            }
        }

        void takeOver(Text other) {
            for (int place = 0; place < other.count && place < signs.length; place++) {
                signs[place] = other.at(place);
            }
            count = other.count;
        }

        /** The first place from begin on where one of the wanted signs stands, otherwise end. */
        int next(String wanted, int begin, int end) {
            for (int place = begin; place < end; place++) {
                if (wanted.indexOf(at(place)) >= 0) {
                    return place;
                }
            }
            return end;
        }

        /** Whether the signs from begin to end are those of another text from its place on. */
        boolean isRange(int begin, int end, Text other, int otherBegin) {
            for (int place = begin; place < end; place++) {
                if (at(place) != other.at(otherBegin + place - begin)) {
                    return false;
                }
            }
            return true;
        }
    }

    /** An address: its signs, and where in them its parts stand. */
    private static final class Address {
        private final Text whole = new Text();
        private final int[] begins = new int[PART_COUNT];
        private final int[] ends = new int[PART_COUNT];
        private int portNumber;
        private boolean isHeld;

        Address() {
            forget();
        }

        Text whole() {
            return whole;
        }

        boolean isHeld() {
            return isHeld;
        }

        int portNumber() {
            return portNumber;
        }

        int beginOf(int part) {
            return part >= 0 && part < begins.length ? begins[part] : NONE;
        }

        int endOf(int part) {
            return part >= 0 && part < ends.length ? ends[part] : NONE;
        }

        boolean has(int part) {
            return beginOf(part) != NONE;
        }

        int sizeOf(int part) {
            return has(part) ? endOf(part) - beginOf(part) : NONE;
        }

        char signOf(int part, int place) {
            return whole.at(beginOf(part) + place);
        }

        void putPart(int part, Text behind) {
            behind.putRange(whole, beginOf(part), endOf(part));
        }

        boolean isWhole(Text other) {
            return whole.count() == other.count() && whole.isRange(0, whole.count(), other, 0);
        }

        /** The theorem's exception: the rest begins with two slashes, and there is no authority. */
        boolean isSkippingSlashes() {
            return has(PATH) && !has(AUTHORITY) && Grammar.isSlashed(whole, beginOf(SPECIFIC));
        }

        boolean isWholeWithoutSlashes(Text other) {
            int rest = beginOf(SPECIFIC);
            return whole.count() == other.count() + 2
                    && whole.isRange(0, rest, other, 0)
                    && whole.isRange(rest + 2, whole.count(), other, rest);
        }

        int partsAlike(Address other) {
            int alike = 0;
            for (int part = 0; part < PART_COUNT; part++) {
                if (isPartAlike(other, part)) {
                    alike++;
                }
            }
            return alike;
        }

        private boolean isPartAlike(Address other, int part) {
            return sizeOf(part) == other.sizeOf(part)
                    && whole.isRange(beginOf(part), endOf(part), other.whole, other.beginOf(part));
        }

        long sumBehind(long sum) {
            if (!isHeld) {
                return 31 * sum;
            }
            long more = sum;
            for (int part = 0; part < PART_COUNT; part++) {
                more = 31 * more + sizeOf(part);
            }
            return 31 * more + portNumber;
        }

        void takeOver(Address other) {
            whole.takeOver(other.whole);
            for (int part = 0; part < PART_COUNT; part++) {
                mark(part, other.beginOf(part), other.endOf(part));
            }
            portNumber = other.portNumber;
            isHeld = other.isHeld;
        }

        void mark(int part, int begin, int end) {
            if (part >= 0 && part < begins.length && part < ends.length) {
                begins[part] = begin;
                ends[part] = end;
            }
        }

        void forget() {
            for (int part = 0; part < PART_COUNT; part++) {
                mark(part, NONE, NONE);
            }
            portNumber = NONE;
            isHeld = false;
        }

        void setPort(int number) {
            portNumber = number;
        }

        void setHeld(boolean isTaken) {
            isHeld = isTaken;
        }
    }

    /** Cuts a text into an address of its own by the rules 1 to 6. */
    private static final class Cutter {
        private final Address address = new Address();
        private final Text text = address.whole();
        private int refused;

        Address address() {
            return address;
        }

        /** NONE if the rules take the text, otherwise the place at which they refuse it. */
        int cut(Text source) {
            refused = NONE;
            address.forget();
            text.takeOver(source);
            address.mark(WHOLE, 0, text.count());
            int colon = Grammar.schemeColon(text);
            int rest = colon + 1;
            cutScheme(colon);
            boolean isOpaque = colon != NONE && text.at(rest) != '/';
            cutFragment(isOpaque ? cutOpaque(rest) : cutPathAndQuery(rest, cutAuthority(rest)));
            if (address.has(AUTHORITY)) {
                cutServer(address.beginOf(AUTHORITY), address.endOf(AUTHORITY));
            }
            address.setHeld(refused == NONE);
            return refused;
        }

        /** The rules go from left to right, so the first place that one of them refuses stays. */
        private void refuse(int place) {
            if (refused == NONE) {
                refused = place;
            }
        }

        private void cutScheme(int colon) {
            if (colon != NONE) {
                int wrong = Grammar.wrongInScheme(text, colon);
                if (wrong != NONE) {
                    refuse(wrong);
                }
                address.mark(SCHEME, 0, colon);
            }
        }

        private int cutOpaque(int rest) {
            int end = cutPart(SPECIFIC, rest, "#");
            if (end == rest) {
                refuse(rest);
            }
            return end;
        }

        private int cutAuthority(int rest) {
            if (!Grammar.isSlashed(text, rest)) {
                return rest;
            }
            int begin = rest + 2;
            int end = text.next(AUTHORITY_ENDS, begin, text.count());
            if (end > begin) {
                address.mark(AUTHORITY, begin, end);
            } else if (end == text.count()) {
                refuse(end);
            }
            return end;
        }

        private int cutPathAndQuery(int rest, int begin) {
            int end = cutPart(PATH, begin, "?#");
            if (text.at(end) == '?') {
                end = cutPart(QUERY, end + 1, "#");
            }
            address.mark(SPECIFIC, rest, end);
            return end;
        }

        private void cutFragment(int hash) {
            if (text.at(hash) == '#') {
                int end = cutPart(FRAGMENT, hash + 1, "#");
                if (end < text.count()) {
                    refuse(end);
                }
            }
        }

        private void cutServer(int begin, int end) {
            int sign = text.next("@", begin, end);
            int host = sign < end ? sign + 1 : begin;
            int colon = text.next(":", host, end);
            boolean isHost = Grammar.isName(text, host, colon) || Grammar.isFourNumbers(text, host, colon);
            if (isHost && Grammar.isPort(text, colon + 1, end)) {
                if (sign < end) {
                    address.mark(USER, begin, sign);
                }
                address.mark(HOST, host, colon);
                address.setPort(Grammar.numberIn(text, colon + 1, end, MOST_PORT));
            }
        }

        /** Cuts up to one of the signs that end the part, or the text's end; returns that place. */
        private int cutPart(int part, int begin, String enders) {
            int end = text.next(enders, begin, text.count());
            int bad = text.next(BAD_SIGNS, begin, end);
            if (bad < end) {
                refuse(bad);
            }
            address.mark(part, begin, end);
            return end;
        }
    }

    /** What the rules ask of a text's signs, from one place to ahead of another. */
    private static final class Grammar {
        static boolean isLetter(char sign) {
            return (sign >= 'a' && sign <= 'z') || (sign >= 'A' && sign <= 'Z');
        }

        static boolean isDigit(char sign) {
            return sign >= '0' && sign <= '9';
        }

        static boolean isSlashed(Text text, int begin) {
            return text.at(begin) == '/' && text.at(begin + 1) == '/';
        }

        /** The place of the ':' that ends a scheme by rule 1, or NONE. */
        static int schemeColon(Text text) {
            int place = text.next(":/?#", 0, text.count());
            return text.at(place) == ':' ? place : NONE;
        }

        static int wrongInScheme(Text text, int colon) {
            if (colon == 0 || !isLetter(text.at(0))) {
                return 0;
            }
            for (int place = 1; place < colon; place++) {
                char sign = text.at(place);
                if (!isLetter(sign) && !isDigit(sign) && "+-.".indexOf(sign) < 0) {
                    return place;
                }
            }
            return NONE;
        }

        /** Looks at the rules 1 and 3 alone: it does not matter what they or the others refuse. */
        static boolean isAuthorityBad(Text text) {
            int rest = schemeColon(text) + 1;
            if (!isSlashed(text, rest)) {
                return false;
            }
            int begin = rest + 2;
            int end = text.next(AUTHORITY_ENDS, begin, text.count());
            return text.next(BAD_SIGNS, begin, end) < end;
        }

        static boolean isName(Text text, int begin, int end) {
            int stop = end > begin && text.at(end - 1) == '.' ? end - 1 : end;
            int label = begin;
            int last = begin;
            for (int place = begin; place <= stop; place++) {
                if (place == stop || text.at(place) == '.') {
                    if (!isLabel(text, label, place)) {
                        return false;
                    }
                    last = label;
                    label = place + 1;
                }
            }
            return last == begin || isLetter(text.at(last));
        }

        private static boolean isLabel(Text text, int begin, int end) {
            if (begin >= end || text.at(begin) == '-' || text.at(end - 1) == '-') {
                return false;
            }
            for (int place = begin; place < end; place++) {
                char sign = text.at(place);
                if (!isLetter(sign) && !isDigit(sign) && sign != '-') {
                    return false;
                }
            }
            return true;
        }

        static boolean isFourNumbers(Text text, int begin, int end) {
            int number = begin;
            int numbers = 0;
            for (int place = begin; place <= end; place++) {
                if (place == end || text.at(place) == '.') {
                    if (numberIn(text, number, place, 255) < 1) {
                        return false;
                    }
                    numbers++;
                    number = place + 1;
                }
            }
            return numbers == 4;
        }

        /** No port, and one without digits, are as they should be. */
        static boolean isPort(Text text, int begin, int end) {
            return begin >= end || numberIn(text, begin, end, MOST_PORT) != NONE;
        }

        /** The number that the digits make; NONE if there are none, or others, or it is above most. */
        static int numberIn(Text text, int begin, int end, int most) {
            if (begin >= end) {
                return NONE;
            }
            long number = 0;
            for (int place = begin; place < end; place++) {
                char sign = text.at(place);
                if (!isDigit(sign)) {
                    return NONE;
                }
                number = 10 * number + (sign - '0');
                if (number > most) {
                    return NONE;
                }
            }
            return (int) number;
        }
    }
}
