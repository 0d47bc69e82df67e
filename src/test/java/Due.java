/** Compares answers with those that are due, and prints every one that is not. */
final class Due {
    interface Call {
        double answer();
    }

    private static int checks = 0;
    private static int wrong = 0;
    private static String about = "";

    private Due() {
    }

    /** What stands ahead of each fault from now on. */
    static void about(String words) {
        about = words;
    }

    static void is(String what, double got, double want) {
        checks++;
        if (got != want) {
            report(what + " answered " + got + ", due is " + want);
        }
    }

    static void isTrue(String what, boolean got) {
        checks++;
        if (!got) {
            report(what + " does not hold");
        }
    }

    static void isText(String what, String got, String want) {
        checks++;
        if (!got.equals(want)) {
            report(what + " answered \"" + got + "\", due is \"" + want + "\"");
        }
    }

    /** The call has to throw exactly this exception, not a class below it. */
    static void isThrown(String what, Class<? extends RuntimeException> want, Call call) {
        checks++;
        String got;
        try {
            got = "answered " + call.answer();
        } catch (RuntimeException e) {
            if (e.getClass() == want) {
                return;
            }
            got = "threw " + e.getClass().getName();
        }
        report(what + " " + got + ", due is " + want.getName());
    }

    /** The call has to be refused for this reason, outside of a text. */
    static void isRefused(String what, BellTelegraph x, int reason, int detail, Call call) {
        isThrown(what, UnsupportedOperationException.class, call);
        isReason(what, x, reason, detail, 0);
    }

    static void isReason(String what, BellTelegraph x, int reason, int detail, int command) {
        is(what + ": its reason", x.reason(0), reason);
        is(what + ": its detail", x.reason(1), detail);
        is(what + ": its command", x.reason(2), command);
    }

    static void report(String fault) {
        wrong++;
        System.out.println(about + fault);
    }

    /** Ends the program, with exit code 1 if an answer was not as due. */
    static void end(String name) {
        System.out.println(name + ": " + checks + " checks, " + wrong + " not as due");
        if (wrong != 0 || checks == 0) {
            System.exit(1);
        }
    }
}
