import java.util.NoSuchElementException;
import java.util.function.Supplier;
import java.util.function.ToLongFunction;

/** Compares answers with those that are due, counts the wrong ones, and ends the test. */
final class Check {
    static final Class<IllegalArgumentException> ARGUMENT = IllegalArgumentException.class;
    static final Class<IllegalStateException> STATE = IllegalStateException.class;
    static final Class<UnsupportedOperationException> UNSUPPORTED = UnsupportedOperationException.class;
    static final Class<NoSuchElementException> ELEMENT = NoSuchElementException.class;
    static final Class<IndexOutOfBoundsException> INDEX = IndexOutOfBoundsException.class;
    static final Class<ArithmeticException> ARITHMETIC = ArithmeticException.class;

    interface Call {
        long answer();
    }

    interface RealCall {
        double answer();
    }

    private final String name;
    private int asked;
    private int wrong;

    Check(String name) {
        this.name = name;
    }

    void due(String what, long got, long due) {
        tell(got == due, what, Long.toString(got), Long.toString(due));
    }

    void due(String what, double got, double due) {
        tell(Double.compare(got, due) == 0, what, Double.toString(got), Double.toString(due));
    }

    void due(String what, boolean got, boolean due) {
        tell(got == due, what, Boolean.toString(got), Boolean.toString(due));
    }

    void due(String what, String got, String due) {
        tell(got.equals(due), what, got, due);
    }

    /** The call must throw just this exception, and leave the mill as it was. */
    void refused(String what, YarnMill mill, Class<? extends RuntimeException> due, Call call) {
        String before = Picture.of(mill);
        throwsJust(what, due, call);
        due(what + " changes nothing", Picture.of(mill), before);
    }

    /** Like refused; besides, nothing may differ that only further calls show: what can be undone, the next ids. */
    void refusedWholly(String what, Supplier<YarnMill> maker, Class<? extends RuntimeException> due,
            ToLongFunction<YarnMill> call) {
        String without = Picture.whole(maker);
        String with = Picture.whole(() -> {
            YarnMill mill = maker.get();
            throwsJust(what, due, () -> call.applyAsLong(mill));
            return mill;
        });
        due(what + " changes nothing at all", with, without);
    }

    void throwsJust(String what, Class<? extends RuntimeException> due, Call call) {
        String got;
        try {
            got = Long.toString(call.answer());
        } catch (RuntimeException thrown) {
            got = thrown.getClass().getName();
        }
        tell(got.equals(due.getName()), what, got, due.getName());
    }

    void refusedReal(String what, YarnMill mill, Class<? extends RuntimeException> due, RealCall call) {
        refused(what, mill, due, () -> (long) call.answer());
    }

    private void tell(boolean right, String what, String got, String due) {
        asked++;
        if (!right) {
            wrong++;
            System.out.println(name + ": " + what + " answered " + got + ", due is " + due);
        }
    }

    void end() {
        System.out.println(name + ": " + asked + " answers, " + wrong + " wrong");
        if (wrong != 0) {
            System.exit(1);
        }
    }
}
