import java.util.function.LongSupplier;

/** What all tests share: telling what is not as due, feeding texts, an even row of numbers by a seed. */
final class Checks {
    private static int wrong = 0;
    private static int asked = 0;

    static final long NO_SUCH_ELEMENT = Long.MIN_VALUE + 1;
    static final long ILLEGAL_ARGUMENT = Long.MIN_VALUE + 2;
    static final long OTHER_EXCEPTION = Long.MIN_VALUE + 3;

    private Checks() {
    }

    static void due(String what, long got, long want) {
        asked++;
        if (got != want) {
            wrong++;
            if (wrong <= 40) {
                System.out.println(what + ": answered " + name(got) + ", due is " + name(want));
            }
        }
    }

    static void due(String what, LongSupplier call, long want) {
        due(what, answer(call), want);
    }

    static void noSuch(String what, LongSupplier call) {
        due(what, call, NO_SUCH_ELEMENT);
    }

    static void illegal(String what, LongSupplier call) {
        due(what, call, ILLEGAL_ARGUMENT);
    }

    static long answer(LongSupplier call) {
        try {
            return call.getAsLong();
        } catch (RuntimeException e) {
            if (e.getClass() == java.util.NoSuchElementException.class) {
                return NO_SUCH_ELEMENT;
            }
            return e.getClass() == IllegalArgumentException.class ? ILLEGAL_ARGUMENT : OTHER_EXCEPTION;
        }
    }

    static String name(long answer) {
        if (answer == NO_SUCH_ELEMENT) {
            return "NoSuchElementException";
        }
        if (answer == ILLEGAL_ARGUMENT) {
            return "IllegalArgumentException";
        }
        return answer == OTHER_EXCEPTION ? "another exception" : Long.toString(answer);
    }

    /** Feeds a text, filled up with blanks, and has its own bytes alone read. */
    static int tell(ApartBench bench, String text) {
        byte[] bytes = text.getBytes(java.nio.charset.StandardCharsets.ISO_8859_1);
        for (int at = 0; at < bytes.length; at += 20) {
            bench.feed(four(bytes, at), four(bytes, at + 4), four(bytes, at + 8), four(bytes, at + 12),
                    four(bytes, at + 16));
        }
        return bench.land(bytes.length);
    }

    static ApartBench told(String text) {
        ApartBench bench = new ApartBench();
        due("land of " + text, tell(bench, text), 0);
        return bench;
    }

    private static int four(byte[] bytes, int at) {
        int number = 0;
        for (int i = at; i < at + 4; i++) {
            number = number << 8 | (i < bytes.length ? bytes[i] & 0xff : 32);
        }
        return number;
    }

    static void finish(String name) {
        System.out.println(name + ": " + asked + " asked, " + wrong + " not as due");
        if (wrong != 0) {
            System.exit(1);
        }
    }

    /** The same numbers in every run. */
    static final class Dice {
        private long state;

        Dice(long seed) {
            state = seed * 0x9E3779B97F4A7C15L + 0x1234567;
        }

        int below(int n) {
            state = state * 6364136223846793005L + 1442695040888963407L;
            return (int) ((state >>> 33) % n);
        }

        boolean oneIn(int n) {
            return below(n) == 0;
        }
    }
}
