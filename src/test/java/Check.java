import java.util.HashSet;
import java.util.LinkedHashSet;
import java.util.NoSuchElementException;
import java.util.Set;

/** Counts wrong answers, and remembers which promises and sentences of the document were tested. */
final class Check {
    /** A call that may throw. */
    interface Call {
        void run();
    }

    private final Set<String> due = new LinkedHashSet<>();
    private final Set<String> tested = new HashSet<>();
    private String topic = "";
    private int wrong;

    /** What is checked from here on belongs to this promise. */
    void promise(int number) {
        topic = "promise " + number;
    }

    /** What is checked from here on belongs to this sentence, which must stand in the document. */
    void sentence(String text) {
        topic = '"' + text + '"';
        due.add(topic);
        if (!Document.says(text)) {
            report("the document does not say so");
        }
    }

    void same(String what, long due, long got) {
        tested.add(topic);
        if (due != got) {
            report(what + " answered " + got + ", due is " + due);
        }
    }

    void same(String what, double due, double got) {
        tested.add(topic);
        if (due != got) {
            report(what + " answered " + got + ", due is " + due);
        }
    }

    void same(String what, String due, String got) {
        tested.add(topic);
        if (!due.equals(got)) {
            report(what + " answered '" + got + "', due is '" + due + "'");
        }
    }

    void yes(String what, boolean got) {
        tested.add(topic);
        if (!got) {
            report(what + " is false");
        }
    }

    void no(String what, boolean got) {
        tested.add(topic);
        if (got) {
            report(what + " is true");
        }
    }

    void outside(String what, Call call) {
        fails(what, IndexOutOfBoundsException.class, call);
    }

    void illegalArgument(String what, Call call) {
        fails(what, IllegalArgumentException.class, call);
    }

    void illegalState(String what, Call call) {
        fails(what, IllegalStateException.class, call);
    }

    void missing(String what, Call call) {
        fails(what, NoSuchElementException.class, call);
    }

    /** The call throws this very exception, not one of a class below it. */
    void fails(String what, Class<?> due, Call call) {
        tested.add(topic);
        Class<?> got = null;
        try {
            call.run();
        } catch (RuntimeException e) {
            got = e.getClass();
        }
        if (got != due) {
            report(what + " threw " + got + ", due is " + due);
        }
    }

    private void report(String line) {
        wrong++;
        System.out.println(topic + ": " + line);
    }

    /** As close, but the promises from 1 to last must have been tested too. */
    void close(int last) {
        for (int number = 1; number <= last; number++) {
            due.add("promise " + number);
        }
        close();
    }

    /** Ends the program with code 1 if an answer was wrong, or something was not tested that was due. */
    void close() {
        for (String each : due) {
            topic = each;
            if (!tested.contains(each)) {
                report("not tested");
            }
        }
        if (wrong > 0) {
            System.out.println(wrong + " answers are wrong");
            System.exit(1);
        }
    }
}
