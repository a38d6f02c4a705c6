import java.util.NoSuchElementException;
import java.util.function.Supplier;

/**
 * What the tests of boundary cases share. Each check has a desk of its own, made anew; a refused call is
 * followed by a comparison of all that the desk answers with a desk on which it was never made.
 */
abstract class Bounds {
    static final Class<IndexOutOfBoundsException> INDEX = IndexOutOfBoundsException.class;
    static final Class<IllegalArgumentException> RANGE = IllegalArgumentException.class;
    static final Class<IllegalStateException> STATE = IllegalStateException.class;
    static final Class<NoSuchElementException> ELEMENT = NoSuchElementException.class;
    static final Class<UnsupportedOperationException> SUPPORT = UnsupportedOperationException.class;
    static final Class<ArithmeticException> ARITHMETIC = ArithmeticException.class;

    static final int LEAST = Integer.MIN_VALUE;
    static final int GREATEST = Integer.MAX_VALUE;

    /** No works: the signs beside 'a' and 'c', the greatest and the least, and ones that end as 'a' does. */
    static final char[] NO_WORKS = {'`', 'd', 'A', ' ', 0, 'a' + 128, 'a' + 256, 65535};

    interface Call {
        Object on(Lendlathe desk);
    }

    interface CallWith {
        Object on(Lendlathe desk, int value);
    }

    interface Question {
        Object on(Lendlathe desk, int machine, int day);
    }

    static void sentence(int promise, String text) {
        Sentences.name(promise, text);
    }

    static void takes(Supplier<Lendlathe> maker, String call, Object due, Call body) {
        Expect.equal(call, due, body.on(maker.get()));
    }

    static void refuses(Supplier<Lendlathe> maker, String call, Class<? extends RuntimeException> due, Call body) {
        Lendlathe desk = maker.get();
        Expect.raises(call, due, () -> body.on(desk));
        Expect.equal("the desk after " + call, Answers.of(maker.get()), Answers.of(desk));
    }

    /** Refused are the numbers next to the range and those farthest from it. */
    static void refusesOutside(Supplier<Lendlathe> maker, int least, int most,
            Class<? extends RuntimeException> due, CallWith body) {
        for (int value : new int[] {least - 1, most + 1, LEAST, GREATEST}) {
            refuses(maker, "the call with " + value, due, desk -> body.on(desk, value));
        }
    }

    static void asks(Supplier<Lendlathe> maker, String call, Call body) {
        Lendlathe desk = maker.get();
        body.on(desk);
        Expect.equal("the desk after " + call, Answers.of(maker.get()), Answers.of(desk));
    }
}
