import java.util.BitSet;
import java.util.NoSuchElementException;

/** Counts wrong answers, and remembers which promises were tested. */
final class Check {
    /** A call that may throw. */
    interface Call {
        void run();
    }

    private final BitSet tested = new BitSet();
    private int promise;
    private int wrong;

    void promise(int number) {
        promise = number;
    }

    void same(String what, long due, long got) {
        tested.set(promise);
        if (due != got) {
            report(what + " answered " + got + ", due is " + due);
        }
    }

    void same(String what, double due, double got) {
        tested.set(promise);
        if (due != got) {
            report(what + " answered " + got + ", due is " + due);
        }
    }

    void same(String what, String due, String got) {
        tested.set(promise);
        if (!due.equals(got)) {
            report(what + " answered '" + got + "', due is '" + due + "'");
        }
    }

    void yes(String what, boolean got) {
        tested.set(promise);
        if (!got) {
            report(what + " is false");
        }
    }

    void no(String what, boolean got) {
        tested.set(promise);
        if (got) {
            report(what + " is true");
        }
    }

    void outside(String what, Call call) {
        fails(what, IndexOutOfBoundsException.class, call);
    }

    void illegalArgument(String what, Call call) {
        fails(what, IllegalArgumentException.class, call);
    }

    void illegalState(String what, Call call) {
        fails(what, IllegalStateException.class, call);
    }

    void missing(String what, Call call) {
        fails(what, NoSuchElementException.class, call);
    }

    private void fails(String what, Class<?> due, Call call) {
        tested.set(promise);
        Class<?> got = null;
        try {
            call.run();
        } catch (RuntimeException e) {
            got = e.getClass();
        }
        if (got != due) {
            report(what + " threw " + got + ", due is " + due);
        }
    }

    private void report(String line) {
        wrong++;
        System.out.println("promise " + promise + ": " + line);
    }

    /** Ends the program: with code 1 if an answer was wrong or a promise from 1 to last was not tested. */
    void close(int last) {
        for (int number = 1; number <= last; number++) {
            if (!tested.get(number)) {
                promise = number;
                report("not tested");
            }
        }
        if (wrong > 0) {
            System.out.println(wrong + " answers are wrong");
            System.exit(1);
        }
    }
}
