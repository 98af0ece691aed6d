import java.util.function.Supplier;

/** Counts the answers that are not the ones that are due. */
final class Check {
    private final String of;
    private int right;
    private int wrong;

    Check(String of) {
        this.of = of;
    }

    void due(String what, Object got, Object want) {
        if (want.equals(got)) {
            right++;
            return;
        }
        wrong++;
        System.out.println(of + ": " + what + " answered " + got + ", due is " + want);
    }

    /** The call must throw just this exception. */
    void refused(String what, Class<? extends RuntimeException> want, Supplier<Object> call) {
        Object got;
        try {
            got = call.get();
        } catch (RuntimeException e) {
            got = e.getClass();
        }
        due(what, got, want);
    }

    void end() {
        System.out.println(of + ": " + right + " right, " + wrong + " wrong");
        if (wrong > 0 || right == 0) {
            System.exit(1);
        }
    }
}
