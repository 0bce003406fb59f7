import java.util.ArrayList;
import java.util.List;
import java.util.NoSuchElementException;

/** Compares answers with those that are due, and helps to write methods for the machine. */
final class Check {
    static final int PUSH = 0, LOAD = 1, STORE = 2, ADD = 3, SUB = 4, MUL = 5, DUP = 6, POP = 7, GOTO = 8,
            IFZERO = 9, IFNEG = 10, NEW = 11, ARRAY = 12, CALL = 13, RETURN = 14, THROW = 15, REPORT = 16;
    static final Class<IllegalArgumentException> ARGUMENT = IllegalArgumentException.class;
    static final Class<IllegalStateException> STATE = IllegalStateException.class;
    static final Class<IndexOutOfBoundsException> BOUNDS = IndexOutOfBoundsException.class;
    static final Class<NoSuchElementException> ELEMENT = NoSuchElementException.class;

    private final List<String> wrong = new ArrayList<>();
    private String subject = "";
    private int looked = 0;

    /** A test of its own: what it finds is told with its subject, and it may neither throw nor look at nothing. */
    void about(String itsSubject, Runnable test) {
        subject = itsSubject + ": ";
        int before = looked;
        try {
            test.run();
            if (looked == before) {
                tell("looked at nothing");
            }
        } catch (RuntimeException e) {
            tell("broke off with " + e);
        }
        subject = "";
    }

    private void tell(String what) {
        wrong.add(subject + what);
    }

    void same(String what, long got, long due) {
        looked++;
        if (got != due) {
            tell(what + " answered " + got + ", due is " + due);
        }
    }

    void same(String what, double got, double due) {
        looked++;
        if (Double.compare(got, due) != 0) {
            tell(what + " answered " + got + ", due is " + due);
        }
    }

    void same(String what, String got, String due) {
        looked++;
        if (!got.equals(due)) {
            tell(what + " answered " + got + ", due is " + due);
        }
    }

    void fails(String what, Class<? extends RuntimeException> due, Runnable call) {
        looked++;
        try {
            call.run();
            tell(what + " threw nothing, due is " + due.getSimpleName());
        } catch (RuntimeException e) {
            if (e.getClass() != due) {
                tell(what + " threw " + e + ", due is " + due.getSimpleName());
            }
        }
    }

    /** Prints what was wrong and ends the program with 1 if something was. */
    void finish() {
        for (int i = 0; i < wrong.size() && i < 50; i++) {
            System.out.println(wrong.get(i));
        }
        System.out.println(looked + " answers looked at, " + wrong.size() + " wrong");
        if (!wrong.isEmpty()) {
            System.exit(1);
        }
    }

    /** Drafts instructions, given as operation, argument, operation, argument, .. */
    static void draft(AllocationProfiler x, int... code) {
        for (int i = 0; i < code.length; i += 2) {
            x.draft(code[i], code[i + 1]);
        }
    }

    static int define(AllocationProfiler x, int... code) {
        draft(x, code);
        return x.define();
    }

    /** The fault of a draft that is malformed, or -1. */
    static int faultOf(AllocationProfiler x) {
        try {
            x.define();
        } catch (IllegalArgumentException e) {
            return x.fault();
        }
        return -1;
    }
}
