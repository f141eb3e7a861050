import java.util.function.LongSupplier;

/** All promises: long runs of calls, each answered by the program and by the model alike. */
public final class ModelTest {
    private static final int RUNS = 3000;
    private static final int CALLS = 512;
    private static final String SIGNS = "aZ19+-.:/?#@_~$&{<%[0\" ";
    private static final String LETTERS = "smauhpqfwwx";

    private long seed;

    private ModelTest(long seed) {
        this.seed = seed;
    }

    public static void main(String[] args) {
        shortTexts();
        for (int run = 1; run <= RUNS; run++) {
            new ModelTest(run).run(run);
        }
        Due.end("ModelTest");
    }

    /** A row of numbers that is the same in every run of the tests. */
    private int next(int bound) {
        seed = seed * 6364136223846793005L + 1442695040888963407L;
        return (int) ((seed >>> 33) % bound);
    }

    /** Each text of up to three words, taken or refused at the same place, with the same sum. */
    private static void shortTexts() {
        for (int words = 0; words < 33 * 33 * 33; words++) {
            Linkloom x = new Linkloom();
            Model y = new Model();
            for (int rest = words; rest > 0; rest /= 33) {
                if (rest % 33 > 0) {
                    x.word(rest % 33 - 1);
                    y.word(rest % 33 - 1);
                }
            }
            same("parse of " + y.text(), () -> x.parse(0), () -> y.parse(0));
            same("checksum of " + y.text(), x::checksum, y::checksum);
            for (char part : "smauhpqfw".toCharArray()) {
                same("begin " + part + " of " + y.text(), () -> x.begin(0, part), () -> y.begin(0, part));
            }
            same("isTrue of " + y.text(), () -> Due.asLong(x.isTrue()), () -> 1);
        }
    }

    private void run(int run) {
        Linkloom x = new Linkloom();
        Model y = new Model();
        // Some runs mostly type and parse, others mostly ask.
        int typing = 4 + run % 24;
        for (int call = 0; call < CALLS; call++) {
            String what = "run " + run + " call " + call + ", text " + y.text() + ": ";
            if (call % 16 == 15) {
                same(what + "checksum", x::checksum, y::checksum);
            } else if (next(32) < typing) {
                typingCall(what, x, y);
            } else {
                askingCall(what, x, y);
            }
        }
    }

    private void typingCall(String what, Linkloom x, Model y) {
        int number = next(34) - 1;
        int value = next(258) - 1;
        int slot = next(40) == 39 ? 4 : next(4);
        char sign = SIGNS.charAt(next(SIGNS.length()));
        boolean isSmall = next(2) == 1;
        switch (next(16)) {
            case 0: same(what + "type", () -> x.type(sign), () -> y.type(sign)); break;
            case 1: same(what + "escape", () -> x.escape(value, isSmall), () -> y.escape(value, isSmall)); break;
            case 2: same(what + "drop", x::drop, y::drop); break;
            case 3: case 4: same(what + "wipe", x::wipe, y::wipe); break;
            case 5: case 6: case 7: same(what + "parse", () -> x.parse(slot), () -> y.parse(slot)); break;
            default: same(what + "word", () -> x.word(number), () -> y.word(number)); break;
        }
    }

    private void askingCall(String what, Linkloom x, Model y) {
        int slot = next(40) == 39 ? -1 : next(4);
        int other = next(40) == 39 ? 4 : next(4);
        int place = next(62) - 1;
        char part = LETTERS.charAt(next(LETTERS.length()));
        switch (next(19)) {
            case 0: same(what + "length", x::length, y::length); break;
            case 1: same(what + "signAt", () -> x.signAt(place), () -> y.signAt(place)); break;
            case 2: same(what + "refusals", x::refusals, y::refusals); break;
            case 3: same(what + "refusedAt", x::refusedAt, y::refusedAt); break;
            case 4: same(what + "isTold", () -> Due.asLong(x.isTold()), () -> Due.asLong(y.isTold())); break;
            case 5: same(what + "isThere", () -> Due.asLong(x.isThere(slot)), () -> Due.asLong(y.isThere(slot))); break;
            case 6: same(what + "isAbsolute",
                    () -> Due.asLong(x.isAbsolute(slot)), () -> Due.asLong(y.isAbsolute(slot))); break;
            case 7: same(what + "isOpaque",
                    () -> Due.asLong(x.isOpaque(slot)), () -> Due.asLong(y.isOpaque(slot))); break;
            case 8: same(what + "port", () -> x.port(slot), () -> y.port(slot)); break;
            case 9: same(what + "size", () -> x.size(slot, part), () -> y.size(slot, part)); break;
            case 10: same(what + "partSign",
                    () -> x.partSign(slot, part, place / 4), () -> y.partSign(slot, part, place / 4)); break;
            case 11: same(what + "begin", () -> x.begin(slot, part), () -> y.begin(slot, part)); break;
            case 12: same(what + "append", () -> x.append(slot, part), () -> y.append(slot, part)); break;
            case 13: same(what + "copy", () -> x.copy(slot, other), () -> y.copy(slot, other)); break;
            case 14: same(what + "alike", () -> x.alike(slot, other), () -> y.alike(slot, other)); break;
            case 15: same(what + "together",
                    () -> Due.asLong(x.together(slot)), () -> Due.asLong(y.together(slot))); break;
            case 16: case 17: same(what + "mix", () -> x.mix(slot, other, part), () -> y.mix(slot, other, part)); break;
            default: same(what + "isTrue", () -> Due.asLong(x.isTrue()), () -> Due.asLong(y.isTrue())); break;
        }
    }

    private static void same(String call, LongSupplier program, LongSupplier model) {
        Due.due(call, answer(program), answer(model));
    }

    private static String answer(LongSupplier call) {
        try {
            return Long.toString(call.getAsLong());
        } catch (RuntimeException e) {
            return e.getClass().getName();
        }
    }
}
