/** Counts and prints the answers that are not the due ones; a test ends with exit code 1 if there was one. */
final class Check {
    interface Call {
        double run();
    }

    interface Question {
        boolean ask();
    }

    private final String name;
    private int checks;
    private int wrong;

    Check(String name) {
        this.name = name;
    }

    void equal(String what, double got, double want) {
        checks++;
        if (Double.compare(got, want) != 0) {
            report(what + " answered " + got + ", due is " + want);
        }
    }

    void equal(String what, String got, String want) {
        checks++;
        if (!got.equals(want)) {
            report(what + " answered " + got + ", due is " + want);
        }
    }

    void yes(String what, boolean got) {
        equal(what, got ? "true" : "false", "true");
    }

    void no(String what, boolean got) {
        equal(what, got ? "true" : "false", "false");
    }

    /** The call must throw exactly this exception: a class below it would be one that the machine throws. */
    void fails(String what, Class<? extends RuntimeException> due, Call call) {
        checks++;
        try {
            double got = call.run();
            report(what + " answered " + got + ", due is " + due.getSimpleName());
        } catch (RuntimeException thrown) {
            if (thrown.getClass() != due) {
                report(what + " threw " + thrown + ", due is " + due.getSimpleName());
            }
        }
    }

    void report(String message) {
        wrong++;
        if (wrong <= 20) {
            System.out.println(name + ": " + message);
        }
    }

    int wrong() {
        return wrong;
    }

    int checks() {
        return checks;
    }

    void end() {
        System.out.println(name + ": " + checks + " checks, " + wrong + " wrong");
        if (wrong > 0) {
            System.exit(1);
        }
    }
}
