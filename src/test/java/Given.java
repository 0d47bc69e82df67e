import java.util.NoSuchElementException;

/** Telegraphs to begin a test with, and what a test does with texts and lines. */
final class Given {
    private Given() {
    }

    /** A row of convents with a deep bell, a good ear and short ridges, so that each hears its neighbours. */
    static BellTelegraph row(int convents) {
        BellTelegraph x = new BellTelegraph();
        for (int k = 0; k < convents; k++) {
            x.convent(0, 9, 1);
        }
        return x;
    }

    /** Such a row with all signs: 1 to 4 are rung for 1 to 4 hours, 5 to 8 for 1 to 4 hours too. */
    static BellTelegraph codedRow(int convents) {
        BellTelegraph x = row(convents);
        for (int sign = 1; sign <= 8; sign++) {
            x.code(sign, sign + 3);
        }
        return x;
    }

    static void write(BellTelegraph x, String text) {
        for (int k = 0; k < text.length(); k++) {
            x.append(text.charAt(k));
        }
    }

    static int carryOut(BellTelegraph x, String text) {
        write(x, text);
        return x.commands();
    }

    static String line(BellTelegraph x, int message) {
        int length = x.line(message);
        StringBuilder line = new StringBuilder();
        for (int k = 0; k < length; k++) {
            line.append(x.character(k));
        }
        return line.toString();
    }

    /** In the midst of its use, so that a call that should change nothing could spoil much; 32 calls. */
    static BellTelegraph busy() {
        BellTelegraph x = new BellTelegraph();
        x.convent(0, 9, 1);
        x.convent(2, 8, 2);
        x.convent(1, 7, 3);
        x.code(1, 3);
        x.code(2, 4);
        x.code(3, 5);
        x.silence(2, 22, 3);
        x.wind(1, 4);
        x.send(0, 1, 2);
        x.send(1, 2, 21);
        x.send(1, 2, 3);
        x.send(0, 2, 2);
        x.ear(2, 0);
        x.hours(1);
        x.save();
        x.ear(2, 7);
        x.hours(1);
        x.drop(2);
        x.line(3);
        write(x, "w0=3;d2");
        Due.isThrown("a text that is refused", UnsupportedOperationException.class, () -> x.commands());
        write(x, "h1;z");
        Due.isThrown("a text with a fault", IllegalArgumentException.class, () -> x.commands());
        return x;
    }

    /** Not at its beginning, but without messages. */
    static BellTelegraph busyWithoutMessages() {
        BellTelegraph x = codedRow(3);
        x.save();
        x.wind(1, 4);
        x.hours(7);
        write(x, "h1;e3=0");
        Due.isThrown("a text that is refused", UnsupportedOperationException.class, () -> x.commands());
        return x;
    }

    /** Six convents, eight signs, and sixteen messages of one sign each; 30 calls. */
    static BellTelegraph full() {
        BellTelegraph x = codedRow(6);
        for (int k = 0; k < 16; k++) {
            x.send(k % 6, (k + 2) % 6, k % 8 + 1);
        }
        return x;
    }

    /** All that can be seen of a telegraph but its reason and its fault position. */
    static String seen(BellTelegraph x) {
        StringBuilder seen = new StringBuilder(state(x));
        seen.append(", changes ").append(x.account(10)).append(", text ").append(x.account(11));
        seen.append(", lost ").append(x.lost()).append(' ').append(x.lostAgain()).append(", line \"");
        try {
            for (int index = 0; index < 15; index++) {
                seen.append(x.character(index));
            }
        } catch (IndexOutOfBoundsException e) {
            seen.append('"');
        }
        return seen.toString();
    }

    /** The reason that is kept, its detail and the index of its command. */
    static String reason(BellTelegraph x) {
        try {
            return "reason " + x.reason(0) + " " + x.reason(1) + " " + x.reason(2);
        } catch (NoSuchElementException e) {
            return "no reason";
        }
    }

    /** All numbers that can be asked of a telegraph and that can be undone, to compare two states with. */
    static String state(BellTelegraph x) {
        StringBuilder state = new StringBuilder("accounts");
        int[] accounts = new int[10];
        for (int what = 0; what <= 9; what++) {
            accounts[what] = x.account(what);
            state.append(' ').append(accounts[what]);
        }
        state.append(", psalms");
        for (int sign = 1; sign <= 8; sign++) {
            state.append(' ').append(x.psalm(sign));
        }
        for (int k = 0; k < accounts[2]; k++) {
            state.append(", convent");
            int[] numbers = new int[8];
            for (int what = 0; what <= 7; what++) {
                numbers[what] = x.conventOf(k, what);
                state.append(' ').append(numbers[what]);
            }
            state.append(" waiting");
            for (int place = 0; place < numbers[4]; place++) {
                state.append(' ').append(x.waiting(k, place));
            }
        }
        for (int k = 0; k < accounts[2] - 1; k++) {
            state.append(", ridge ").append(x.ridgeOf(k, 0)).append(' ').append(x.ridgeOf(k, 1));
        }
        for (int k = 0; k < accounts[4]; k++) {
            state.append(", message");
            int[] numbers = new int[9];
            for (int what = 0; what <= 8; what++) {
                numbers[what] = x.messageOf(k, what);
                state.append(' ').append(numbers[what]);
            }
            state.append(" signs");
            for (int place = 0; place < numbers[3]; place++) {
                state.append(' ').append(x.sign(k, place));
            }
        }
        state.append(", arrived");
        for (int place = 0; place < accounts[6]; place++) {
            state.append(' ').append(x.arrived(place));
        }
        return state.toString();
    }
}
