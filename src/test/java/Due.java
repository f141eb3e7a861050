import java.lang.reflect.InvocationTargetException;
import java.lang.reflect.Method;
import java.util.Map;
import java.util.TreeMap;
import java.util.function.Supplier;
import java.util.function.ToLongFunction;

/** What the tests share: it runs them, compares answers with what is due, and counts those that differ. */
final class Due {
    private static final String PARTS = "smauhpqfw";
    private static String running = "";
    private static int wrong = 0;
    private static int asked = 0;

    private Due() {
    }

    /** Runs each test of a class by its own, so that one that fails hides none of the others. */
    static void run(Class<?> tests) {
        Map<String, Method> sorted = new TreeMap<>();
        for (Method method : tests.getDeclaredMethods()) {
            if (method.isAnnotationPresent(Says.class)) {
                sorted.put(method.getName(), method);
            }
        }
        for (Map.Entry<String, Method> test : sorted.entrySet()) {
            running = test.getKey() + ": ";
            try {
                test.getValue().invoke(null);
            } catch (InvocationTargetException e) {
                due("the test", "threw " + e.getCause(), "ended");
            } catch (IllegalAccessException e) {
                due("the test", "cannot be called", "ended");
            }
        }
        running = "";
        System.out.print(sorted.size() + " tests, ");
        end(tests.getName());
    }

    /** Ends the test: exit code 1 if an answer was not the one that is due. */
    static void end(String test) {
        System.out.println(test + ": " + asked + " answers, " + wrong + " of them wrong");
        if (wrong != 0) {
            System.exit(1);
        }
    }

    static void due(String call, String got, String want) {
        asked++;
        if (!got.equals(want)) {
            wrong++;
            System.out.println(running + call + " answered " + got + ", due is " + want);
        }
    }

    static void due(String call, long got, long want) {
        due(call, Long.toString(got), Long.toString(want));
    }

    static void due(String call, boolean got, boolean want) {
        due(call, Boolean.toString(got), Boolean.toString(want));
    }

    /**
     * A call that has to throw just this exception, and to leave everything as it was: the object is
     * compared with another one that was made alike, and was spared the call.
     */
    static void refused(String call, Class<? extends RuntimeException> want, Supplier<Linkloom> maker,
            ToLongFunction<Linkloom> asking) {
        Linkloom x = maker.get();
        due(call, answer(x, asking), want.getName());
        due("what is there after " + call, stateOf(x), stateOf(maker.get()));
    }

    /** A call that answers, and leaves everything as it was. */
    static void asks(String call, long want, Supplier<Linkloom> maker, ToLongFunction<Linkloom> asking) {
        Linkloom x = maker.get();
        due(call, answer(x, asking), Long.toString(want));
        due("what is there after " + call, stateOf(x), stateOf(maker.get()));
    }

    static String answer(Linkloom x, ToLongFunction<Linkloom> asking) {
        try {
            return Long.toString(asking.applyAsLong(x));
        } catch (RuntimeException e) {
            return e.getClass().getName();
        }
    }

    static long asLong(boolean answer) {
        return answer ? 1 : 0;
    }

    /** An object with this text, and with these addresses from slot 0 on; none where null stands. */
    static Linkloom made(String text, String... addresses) {
        Linkloom x = new Linkloom();
        for (int slot = 0; slot < addresses.length; slot++) {
            if (addresses[slot] != null) {
                due("parse of " + addresses[slot], parse(x, slot, addresses[slot]), -1);
            }
        }
        x.wipe();
        typeAll(x, text);
        return x;
    }

    /** As many signs, with no piece of more than one. */
    static String signs(int count) {
        return "a".repeat(count);
    }

    /** Types a text; each '%' takes the two signs behind it along as an escape. */
    static void typeAll(Linkloom x, String text) {
        for (int i = 0; i < text.length(); i++) {
            if (text.charAt(i) == '%') {
                String digits = text.substring(i + 1, i + 3);
                x.escape(Integer.parseInt(digits, 16), !digits.equals(digits.toUpperCase()));
                i += 2;
            } else {
                x.type(text.charAt(i));
            }
        }
    }

    /** Makes the text this one, and asks the slot to take it. */
    static int parse(Linkloom x, int slot, String text) {
        x.wipe();
        typeAll(x, text);
        return x.parse(slot);
    }

    static String text(Linkloom x) {
        StringBuilder signs = new StringBuilder();
        int length = x.length();
        for (int place = 0; place < length; place++) {
            signs.append(x.signAt(place));
        }
        return signs.toString();
    }

    /** How many signs are left after each drop(); it takes the whole text off. */
    static String drops(Linkloom x) {
        StringBuilder drops = new StringBuilder();
        int left = x.length();
        while (left > 0) {
            left = x.drop();
            drops.append(left).append(' ');
        }
        return drops.toString().trim();
    }

    /** A part, sign by sign; the word "none" if the address does not have it. */
    static String part(Linkloom x, int slot, char part) {
        int size = x.size(slot, part);
        if (size < 0) {
            return "none";
        }
        StringBuilder signs = new StringBuilder();
        for (int place = 0; place < size; place++) {
            signs.append(x.partSign(slot, part, place));
        }
        return signs.toString();
    }

    /** The parts that an address has, but for the whole: "s=a m=b" for a:b. */
    static String parts(Linkloom x, int slot) {
        StringBuilder parts = new StringBuilder();
        for (char part : "smauhpqf".toCharArray()) {
            if (x.size(slot, part) >= 0) {
                parts.append(parts.length() == 0 ? "" : " ").append(part).append('=').append(part(x, slot, part));
            }
        }
        return parts.toString();
    }

    /** All that the calls tell of an object; the text's pieces are taken off for it. */
    private static String stateOf(Linkloom x) {
        StringBuilder state = new StringBuilder(text(x)).append(" refusals ").append(x.refusals());
        if (x.refusals() > 0) {
            state.append(" at ").append(x.refusedAt()).append(' ').append(x.isTold());
        }
        for (int slot = 0; slot < 4; slot++) {
            state.append(" slot ").append(x.isThere(slot) ? addressOf(x, slot) : "");
        }
        return state.append(" pieces ").append(drops(x)).toString();
    }

    private static String addressOf(Linkloom x, int slot) {
        StringBuilder address = new StringBuilder(part(x, slot, 'w'));
        address.append(' ').append(x.isAbsolute(slot)).append(' ').append(x.isOpaque(slot));
        for (char part : PARTS.toCharArray()) {
            address.append(' ').append(x.begin(slot, part)).append(' ').append(x.size(slot, part));
        }
        return address.append(' ').append(x.port(slot)).toString();
    }
}
