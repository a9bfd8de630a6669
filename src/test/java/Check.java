/** Counts and prints what is not as it should be. */
final class Check {
    interface Call {
        double answer();
    }

    private static int wrong = 0;

    private Check() {
    }

    static void same(String what, long got, long due) {
        if (got != due) {
            report(what + " answered " + got + ", due is " + due);
        }
    }

    static void sameDouble(String what, double got, double due) {
        if (got != due) {
            report(what + " answered " + got + ", due is " + due);
        }
    }

    static void that(String what, boolean holds) {
        if (!holds) {
            report(what);
        }
    }

    /** The very class is asked for: a subclass would be what the machine throws. */
    static void refused(String what, FairHandful x, Class<? extends RuntimeException> due, Call call) {
        long before = x.digest();
        String got = "nothing";
        try {
            call.answer();
        } catch (RuntimeException e) {
            got = e.getClass().getName();
        }
        if (!got.equals(due.getName())) {
            report(what + " threw " + got + ", due is " + due.getName());
        }
        same(what + ": digest() behind the refused call", x.digest(), before);
    }

    static void report(String text) {
        wrong++;
        if (wrong <= 50) {
            System.out.println(text);
        }
    }

    static void end() {
        System.out.println(wrong == 0 ? "all as due" : wrong + " not as due");
        if (wrong != 0) {
            System.exit(1);
        }
    }
}
