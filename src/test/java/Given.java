/** Telegraphs to begin a test with, and what a test does with texts and lines. */
final class Given {
    private Given() {
    }

    /** A row of convents with a deep bell, a good ear and short ridges, so that each hears its neighbours. */
    static BellTelegraph row(int convents) {
        BellTelegraph x = new BellTelegraph();
        for (int k = 0; k < convents; k++) {
            x.convent(0, 9, 1);
        }
        return x;
    }

    /** Such a row with all signs: 1 to 4 are rung for 1 to 4 hours, 5 to 8 for 1 to 4 hours too. */
    static BellTelegraph codedRow(int convents) {
        BellTelegraph x = row(convents);
        for (int sign = 1; sign <= 8; sign++) {
            x.code(sign, sign + 3);
        }
        return x;
    }

    static void write(BellTelegraph x, String text) {
        for (int k = 0; k < text.length(); k++) {
            x.append(text.charAt(k));
        }
    }

    static int carryOut(BellTelegraph x, String text) {
        write(x, text);
        return x.commands();
    }

    static String line(BellTelegraph x, int message) {
        int length = x.line(message);
        StringBuilder line = new StringBuilder();
        for (int k = 0; k < length; k++) {
            line.append(x.character(k));
        }
        return line.toString();
    }

    /** All numbers that can be asked of a telegraph and that can be undone, to compare two states with. */
    static String state(BellTelegraph x) {
        StringBuilder state = new StringBuilder("accounts");
        for (int what = 0; what <= 9; what++) {
            state.append(' ').append(x.account(what));
        }
        state.append(", psalms");
        for (int sign = 1; sign <= 8; sign++) {
            state.append(' ').append(x.psalm(sign));
        }
        for (int k = 0; k < x.account(2); k++) {
            state.append(", convent");
            for (int what = 0; what <= 7; what++) {
                state.append(' ').append(x.conventOf(k, what));
            }
            state.append(" waiting");
            for (int place = 0; place < x.conventOf(k, 4); place++) {
                state.append(' ').append(x.waiting(k, place));
            }
        }
        for (int k = 0; k < x.account(2) - 1; k++) {
            state.append(", ridge ").append(x.ridgeOf(k, 0)).append(' ').append(x.ridgeOf(k, 1));
        }
        for (int k = 0; k < x.account(4); k++) {
            state.append(", message");
            for (int what = 0; what <= 8; what++) {
                state.append(' ').append(x.messageOf(k, what));
            }
            state.append(" signs");
            for (int place = 0; place < x.messageOf(k, 3); place++) {
                state.append(' ').append(x.sign(k, place));
            }
        }
        state.append(", arrived");
        for (int place = 0; place < x.account(6); place++) {
            state.append(' ').append(x.arrived(place));
        }
        return state.toString();
    }
}
