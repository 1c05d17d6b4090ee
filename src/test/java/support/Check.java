import java.util.function.LongSupplier;

/** Counts what is compared, and tells every answer that is not the one that is due. */
final class Check {
    private static final int MOST_TOLD = 50;

    private final String name;
    private int compared;
    private int wrong;

    Check(String name) {
        this.name = name;
    }

    void same(String call, Object due, Object got) {
        compared++;
        if (!due.equals(got)) {
            wrong++;
            if (wrong <= MOST_TOLD) {
                System.out.println(name + ": " + call + " answered " + got + ", due is " + due);
            }
        }
    }

    void answers(String call, long due, LongSupplier asked) {
        same(call, Long.toString(due), outcome(asked));
    }

    void fails(String call, Class<? extends RuntimeException> due, LongSupplier asked) {
        same(call, "throws." + due.getSimpleName(), outcome(asked));
    }

    int wrong() {
        return wrong;
    }

    void end() {
        System.out.println(name + ": " + compared + " compared, " + wrong + " wrong");
        if (wrong != 0 || compared == 0) {
            System.exit(1);
        }
    }

    /** The exact class is told: the machine's own exceptions are often kinds of the due ones. */
    static String outcome(LongSupplier asked) {
        try {
            return Long.toString(asked.getAsLong());
        } catch (RuntimeException | StackOverflowError e) {
            return "throws." + e.getClass().getSimpleName();
        }
    }
}
