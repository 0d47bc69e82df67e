import java.util.function.Supplier;

/** Calls that throw, each with a look at two telegraphs made alike, one with the call and one without it. */
final class Edge {
    interface Use {
        double of(BellTelegraph x);
    }

    // Behind the call nothing is undone, or 1 to 8 changes are; or the snapshot is restored, or a text is ended.
    private static final int MOST_UNDONE = 8;
    private static final int RESTORED = 9;
    private static final int TEXT_ENDED = 10;

    private Edge() {
    }

    /** The call throws exactly this, and nothing is changed, the reason and the fault position neither. */
    static void isThrown(String what, Class<? extends RuntimeException> want, Supplier<BellTelegraph> made, Use call) {
        BellTelegraph x = made.get();
        String reason = Given.reason(x);
        int fault = x.faultPosition();
        Due.isThrown(what, want, () -> call.of(x));
        Due.isText(what + " leaves the reason", Given.reason(x), reason);
        Due.is(what + " leaves the fault position", x.faultPosition(), fault);
        isUnchanged(what, made, call);
    }

    /** The call is refused for this reason, and nothing but the reason is changed. */
    static void isRefused(String what, Supplier<BellTelegraph> made, int reason, int detail, Use call) {
        BellTelegraph x = made.get();
        int fault = x.faultPosition();
        Due.isThrown(what, UnsupportedOperationException.class, () -> call.of(x));
        Due.isReason(what, x, reason, detail, 0);
        Due.is(what + " leaves the fault position", x.faultPosition(), fault);
        isUnchanged(what, made, call);
    }

    /** A command of the text is refused; nothing of the text is carried out. */
    static void isTextRefused(Supplier<BellTelegraph> made, String text, int reason, int detail, int command) {
        BellTelegraph x = made.get();
        Due.isThrown(text, UnsupportedOperationException.class, () -> Given.carryOut(x, text));
        Due.isReason(text, x, reason, detail, command);
        Due.is("the fault position of " + text, x.faultPosition(), -1);
        isUnchanged(text, made, y -> Given.carryOut(y, text));
    }

    /** The text has a fault; nothing of it is carried out, and no reason is kept for it. */
    static void isFault(Supplier<BellTelegraph> made, String text, int position) {
        BellTelegraph x = made.get();
        String reason = Given.reason(x);
        Due.isThrown("\"" + text + "\"", IllegalArgumentException.class, () -> Given.carryOut(x, text));
        Due.is("the fault position of \"" + text + "\"", x.faultPosition(), position);
        Due.isText("\"" + text + "\" leaves the reason", Given.reason(x), reason);
        isUnchanged("\"" + text + "\"", made, y -> Given.carryOut(y, text));
    }

    private static void isUnchanged(String what, Supplier<BellTelegraph> made, Use call) {
        for (int turn = 0; turn <= TEXT_ENDED; turn++) {
            BellTelegraph x = made.get();
            tried(x, call);
            Due.isText(what + " leaves the rest, turn " + turn, seenBehind(x, turn), seenBehind(made.get(), turn));
        }
    }

    /** What is seen of a telegraph behind one of the turns, by which what is kept inside is seen too. */
    private static String seenBehind(BellTelegraph x, int turn) {
        StringBuilder answers = new StringBuilder();
        for (int k = 0; k < turn && turn <= MOST_UNDONE; k++) {
            answers.append(tried(x, y -> y.undo())).append(", ");
        }
        if (turn == RESTORED) {
            answers.append(tried(x, y -> y.restore())).append(", ");
        }
        if (turn == TEXT_ENDED) {
            String rest = x.account(11) == 0 ? "h1" : ";h1";
            for (char character : rest.toCharArray()) {
                answers.append(tried(x, y -> y.append(character))).append(", ");
            }
            answers.append(tried(x, y -> y.commands())).append(", ");
        }
        return answers + Given.seen(x);
    }

    private static String tried(BellTelegraph x, Use call) {
        try {
            return "answered " + call.of(x);
        } catch (RuntimeException e) {
            return "threw " + e.getClass().getName();
        }
    }
}
