import java.util.function.LongSupplier;

/** What the tests share: it compares answers with what is due, and counts those that differ. */
final class Due {
    private static int wrong = 0;
    private static int asked = 0;

    private Due() {
    }

    static void due(String call, long got, long want) {
        asked++;
        if (got != want) {
            wrong++;
            System.out.println(call + " answered " + got + ", due is " + want);
        }
    }

    static void due(String call, boolean got, boolean want) {
        due(call, got ? 1 : 0, want ? 1 : 0);
    }

    static void due(String call, String got, String want) {
        asked++;
        if (!got.equals(want)) {
            wrong++;
            System.out.println(call + " answered " + got + ", due is " + want);
        }
    }

    /** A call that has to throw just this exception, and to leave the object as it was. */
    static void dueThrow(String call, Linkloom x, Class<? extends RuntimeException> want, LongSupplier asking) {
        long before = x.checksum();
        String got;
        try {
            got = "answered " + asking.getAsLong();
        } catch (RuntimeException e) {
            got = e.getClass().getName();
        }
        due(call, got, want.getName());
        due(call + " changes nothing", x.checksum(), before);
    }

    static long asLong(boolean answer) {
        return answer ? 1 : 0;
    }

    /** Types a text; each '%' takes the two signs behind it along as an escape. */
    static void typeAll(Linkloom x, String text) {
        for (int i = 0; i < text.length(); i++) {
            if (text.charAt(i) == '%') {
                String digits = text.substring(i + 1, i + 3);
                x.escape(Integer.parseInt(digits, 16), !digits.equals(digits.toUpperCase()));
                i += 2;
            } else {
                x.type(text.charAt(i));
            }
        }
    }

    /** Makes the text this one, and asks the slot to take it. */
    static int parse(Linkloom x, int slot, String text) {
        x.wipe();
        typeAll(x, text);
        return x.parse(slot);
    }

    static String text(Linkloom x) {
        StringBuilder signs = new StringBuilder();
        for (int place = 0; place < x.length(); place++) {
            signs.append(x.signAt(place));
        }
        return signs.toString();
    }

    /** A part, sign by sign; null if the address does not have it. */
    static String part(Linkloom x, int slot, char part) {
        int size = x.size(slot, part);
        if (size < 0) {
            return null;
        }
        StringBuilder signs = new StringBuilder();
        for (int place = 0; place < size; place++) {
            signs.append(x.partSign(slot, part, place));
        }
        return signs.toString();
    }

    /** Ends the test: exit code 1 if an answer was not the one that is due. */
    static void end(String test) {
        System.out.println(test + ": " + asked + " answers, " + wrong + " of them wrong");
        if (wrong != 0) {
            System.exit(1);
        }
    }
}
