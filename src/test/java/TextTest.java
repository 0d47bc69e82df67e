import java.util.NoSuchElementException;

/** The promises 26 to 31: the text buffer, its commands and faults, the reason that is kept, and the line. */
public final class TextTest {
    private static final String FULL = "h1;h1;h1;h1;h1;h1;h1;h1;h1;h1;h1;h1;h1;h1;h1;h1;h1;h1;h1;h1;";

    public static void main(String[] args) {
        append();
        commands();
        numbersOfTwoDigits();
        commandsAreCarriedOutOneAfterTheOther();
        manyCommands();
        allOrNone();
        commandsAreRefused();
        faults();
        faultsOfCharacters();
        faultOfTheLatestCall();
        aFaultChangesNothing();
        reason();
        reasonIsKept();
        line();
        lineIsKept();
        character();
        Due.end("TextTest");
    }

    private static void append() {
        BellTelegraph x = new BellTelegraph();
        char[] characters = {'h', '\u0000', '\u00ff', '\uffff', ';', ' '};
        for (int k = 0; k < 60; k++) {
            Due.is("the length", x.append(characters[k % 6]), k + 1);
        }
        Due.isThrown("the character 61", IllegalStateException.class, () -> x.append('h'));
        Due.is("the length of a full buffer", x.account(11), 60);
        Due.isThrown("the text", IllegalArgumentException.class, () -> x.commands());
        Due.is("the length afterwards", x.append('h'), 1);
    }

    private static void commands() {
        BellTelegraph x = Given.codedRow(3);
        Due.is("a message", Given.carryOut(x, "s2>0:18"), 1);
        Due.isText("the message", Given.line(x, 0), "2>0:18@2");
        Due.is("hours", Given.carryOut(x, "h2"), 1);
        Due.is("the hour", x.account(0), 2);
        Due.is("silence", Given.carryOut(x, "q1:7-5"), 1);
        Due.is("from when", x.conventOf(1, 2), 7);
        Due.is("until when", x.conventOf(1, 3), 5);
        Due.is("a wind", Given.carryOut(x, "w1=9"), 1);
        Due.is("the wind", x.ridgeOf(1, 1), 9);
        Due.is("the other wind", x.ridgeOf(0, 1), 0);
        Due.is("an ear", Given.carryOut(x, "e2=0"), 1);
        Due.is("the ear", x.conventOf(2, 1), 0);
        Due.is("a drop", Given.carryOut(x, "d0"), 1);
        Due.is("how it is", x.messageOf(0, 7), 2);
        Due.is("a message of 8 signs", Given.carryOut(x, "s0>1:87654321"), 1);
        Due.isText("the message of 8 signs", Given.line(x, 1), "0>1:87654321@0");
        Due.is("the length afterwards", x.account(11), 0);
    }

    private static void numbersOfTwoDigits() {
        BellTelegraph x = Given.codedRow(2);
        Due.is("hours", Given.carryOut(x, "h96"), 1);
        Due.is("hours with a 0", Given.carryOut(x, "h04"), 1);
        Due.is("the hour", x.account(0), 100);
        Due.is("silence", Given.carryOut(x, "q0:22-06"), 1);
        Due.is("from when", x.conventOf(0, 2), 22);
        Due.is("until when", x.conventOf(0, 3), 6);
        Due.is("silence of digits both ways", Given.carryOut(x, "q1:3-23;q0:00-0"), 2);
        Due.is("until 23", x.conventOf(1, 3), 23);
        Due.is("from 0", x.conventOf(0, 2), 0);
        for (int k = 0; k < 16; k++) {
            x.send(0, 1, 4);
        }
        Due.is("drops", Given.carryOut(x, "d15;d07;d8"), 3);
        Due.is("the dropped ones", x.account(7), 3);
        Due.is("the message 15", x.messageOf(15, 7), 2);
        Due.is("the message 7", x.messageOf(7, 7), 2);
    }

    private static void commandsAreCarriedOutOneAfterTheOther() {
        BellTelegraph x = Given.codedRow(3);
        Due.is("the commands", Given.carryOut(x, "s0>2:11;h1;e1=0;h1;s1>0:1;q1:2-3;h2;w0=7;d1"), 9);
        Due.isText("the first message", Given.line(x, 0), "0>2:1?@1");
        Due.isText("the second message", Given.line(x, 1), "1>0:1x");
        Due.is("the hour", x.account(0), 4);
        Due.is("the wind", x.ridgeOf(0, 1), 7);
        Due.is("what can be undone", x.account(10), 8);
        x.undo();
        Due.is("the hour after one undo", x.account(0), 0);
        Due.is("the messages after one undo", x.account(4), 0);
        Due.is("the ear after one undo", x.conventOf(1, 1), 9);
        Due.is("what can be undone then", x.account(10), 7);
    }

    private static void manyCommands() {
        BellTelegraph x = new BellTelegraph();
        Due.is("20 commands", Given.carryOut(x, FULL.substring(0, 59)), 20);
        Due.is("the hour", x.account(0), 20);
        Given.write(x, FULL);
        Due.isThrown("20 commands and a ;", IllegalArgumentException.class, () -> x.commands());
        Due.is("its fault", x.faultPosition(), 60);
        Due.is("20 other commands", Given.carryOut(x, FULL.substring(0, 57) + "h11"), 20);
        Due.is("the hour then", x.account(0), 50);
    }

    private static void allOrNone() {
        BellTelegraph x = Given.codedRow(3);
        x.send(0, 2, 12);
        x.hours(1);
        String before = Given.state(x);
        Given.write(x, "s1>0:3;h2;e1=0;w1=3;q2:1-2;d0;d0");
        Due.isThrown("a text that drops twice", UnsupportedOperationException.class, () -> x.commands());
        Due.isReason("a text that drops twice", x, 7, 2, 6);
        Due.isText("the state then", Given.state(x), before);
        Due.is("the length then", x.account(11), 0);
        Due.is("the fault position then", x.faultPosition(), -1);
        Due.is("what can be undone then", x.account(10), 8);
        x.undo();
        Due.is("the hour after an undo", x.account(0), 0);
        Given.write(x, "h2;h0");
        Due.isThrown("a text with 0 hours", UnsupportedOperationException.class, () -> x.commands());
        Due.is("the hour after 0 hours", x.account(0), 0);
        Due.is("the next text", Given.carryOut(x, "h1"), 1);
    }

    private static void isRefused(BellTelegraph x, String text, int reason, int detail, int command) {
        Given.write(x, text);
        Due.isThrown(text, UnsupportedOperationException.class, () -> x.commands());
        Due.isReason(text, x, reason, detail, command);
        Due.is("the fault position of " + text, x.faultPosition(), -1);
        Due.is("the length behind " + text, x.account(11), 0);
    }

    private static void commandsAreRefused() {
        BellTelegraph x = Given.row(2);
        x.code(1, 4);
        isRefused(x, "h0", 1, 0, 0);
        isRefused(x, "h1;h97", 1, 0, 1);
        isRefused(x, "h99", 1, 0, 0);
        isRefused(x, "q0:24-0", 1, 0, 0);
        isRefused(x, "q0:0-24", 1, 0, 0);
        isRefused(x, "q2:0-24", 3, 2, 0);
        isRefused(x, "w0=1;w1=0", 3, 1, 1);
        isRefused(x, "e9=0", 3, 9, 0);
        isRefused(x, "h1;h1;d0", 3, 0, 2);
        isRefused(x, "d99", 3, 99, 0);
        isRefused(x, "s2>3:1", 3, 2, 0);
        isRefused(x, "s0>3:1", 3, 3, 0);
        isRefused(x, "s1>1:2", 5, 1, 0);
        isRefused(x, "s0>1:1;s0>1:132", 4, 3, 1);
        isRefused(x, "s0>1:1;h1;d0", 7, 1, 2);
        for (int k = 0; k < 15; k++) {
            x.send(0, 1, 1);
        }
        isRefused(x, "s0>1:1;s0>1:1", 2, 16, 1);
        Due.is("the messages", x.account(4), 15);
    }

    private static void isFault(String text, int position) {
        BellTelegraph x = Given.codedRow(2);
        Given.write(x, text);
        Due.isThrown("\"" + text + "\"", IllegalArgumentException.class, () -> x.commands());
        Due.is("the fault position of \"" + text + "\"", x.faultPosition(), position);
        Due.is("the length behind \"" + text + "\"", x.account(11), 0);
        Due.is("what can be undone behind \"" + text + "\"", x.account(10), 8);
    }

    private static void faults() {
        String[] whole = {"s0>1:12345678", "h12", "q1:22-23", "w0=5", "e1=5", "d12"};
        int[] least = {6, 2, 6, 4, 4, 2};
        for (int k = 0; k < whole.length; k++) {
            for (int length = 0; length < least[k]; length++) {
                isFault(whole[k].substring(0, length), length);
                isFault("h1;" + whole[k].substring(0, length), 3 + length);
                isFault(whole[k].substring(0, length) + "x", length);
                isFault(whole[k].substring(0, length) + ";", length);
            }
            isFault(whole[k] + "0", whole[k].length());
            isFault(whole[k] + ";", whole[k].length() + 1);
            isFault(whole[k] + ";;", whole[k].length() + 1);
            isFault(whole[k] + " ", whole[k].length());
            isFault(whole[k] + whole[k], whole[k].length());
        }
        isFault("h1;h1;h1;", 9);
        isFault("q1:2-", 5);
        isFault("q1:2;", 4);
        isFault("q1:222", 5);
        isFault("q1:2-222", 7);
    }

    private static void faultsOfCharacters() {
        isFault("s0>1:0", 5);
        isFault("s0>1:9", 5);
        isFault("s0>1:10", 6);
        isFault("s0>1:19", 6);
        isFault("s0>1:123456781", 13);
        isFault("s00>1:1", 2);
        isFault("s0>11:1", 4);
        isFault("h123", 3);
        isFault("h-1", 1);
        isFault("H1", 0);
        isFault("c1", 0);
        isFault("w10=1", 2);
        isFault("w0=10", 4);
        isFault("w0:1", 2);
        isFault("e0=-1", 3);
        isFault("q00:1-2", 2);
        isFault("d1,", 2);
        isFault("h/", 1);
        isFault("h:", 1);
        isFault("h\u0000", 1);
        isFault("\uffff", 0);
        isFault("h\u0660", 1);
        isFault("h\u0131", 1);
    }

    private static void faultOfTheLatestCall() {
        BellTelegraph x = Given.codedRow(2);
        Given.write(x, "h1;x");
        Due.is("ahead of the first call", x.faultPosition(), -1);
        Due.isThrown("a fault", IllegalArgumentException.class, () -> x.commands());
        Due.is("its position", x.faultPosition(), 3);
        Given.write(x, "h1");
        x.hours(1);
        x.undo();
        x.save();
        x.restore();
        Due.is("its position after other calls", x.faultPosition(), 3);
        x.commands();
        Due.is("the position without a fault", x.faultPosition(), -1);
        Due.isThrown("an empty text", IllegalArgumentException.class, () -> x.commands());
        Due.is("the position in an empty text", x.faultPosition(), 0);
        Given.write(x, "d9");
        Due.isThrown("a text that is refused", UnsupportedOperationException.class, () -> x.commands());
        Due.is("the position in a text that is refused", x.faultPosition(), -1);
    }

    private static void aFaultChangesNothing() {
        BellTelegraph x = Given.codedRow(2);
        String before = Given.state(x);
        Given.write(x, "h5;s0>1:1;e0=0;h");
        Due.isThrown("a text with a fault", IllegalArgumentException.class, () -> x.commands());
        Due.isText("the state then", Given.state(x), before);
        Due.isThrown("a reason then", NoSuchElementException.class, () -> x.reason(0));
        Given.write(x, "d5;h");
        Due.isThrown("a refused command ahead of a fault", IllegalArgumentException.class, () -> x.commands());
        Due.isThrown("a reason then", NoSuchElementException.class, () -> x.reason(0));
    }

    private static void reason() {
        BellTelegraph x = Given.row(2);
        Due.isThrown("none is kept", NoSuchElementException.class, () -> x.reason(2));
        for (int wrong : new int[] {-1, 3, Integer.MIN_VALUE, Integer.MAX_VALUE}) {
            Due.isThrown("no number and no reason", IllegalArgumentException.class, () -> x.reason(wrong));
        }
        Due.isRefused("a drop", x, 3, 5, () -> x.drop(5));
        for (int wrong : new int[] {-1, 3, Integer.MIN_VALUE, Integer.MAX_VALUE}) {
            Due.isThrown("no number", IllegalArgumentException.class, () -> x.reason(wrong));
        }
        Given.write(x, "h1;h1;h0");
        Due.isThrown("a text", UnsupportedOperationException.class, () -> x.commands());
        Due.isReason("a text", x, 1, 0, 2);
        Due.isRefused("another call", x, 5, 1, () -> x.send(1, 1, 1));
    }

    private static void reasonIsKept() {
        BellTelegraph x = Given.codedRow(2);
        x.save();
        Given.write(x, "h1;e2=1");
        Due.isThrown("a text", UnsupportedOperationException.class, () -> x.commands());
        x.hours(1);
        Due.isReason("after a change", x, 3, 2, 1);
        x.undo();
        Due.isReason("after an undo", x, 3, 2, 1);
        x.restore();
        Due.isReason("after a restore", x, 3, 2, 1);
        Given.write(x, "h1");
        x.commands();
        Due.isReason("after a text", x, 3, 2, 1);
        Given.write(x, "z");
        Due.isThrown("a fault", IllegalArgumentException.class, () -> x.commands());
        Due.isReason("after a fault", x, 3, 2, 1);
        Due.isThrown("no such message", IndexOutOfBoundsException.class, () -> x.line(0));
        Due.isReason("after another exception", x, 3, 2, 1);
    }

    private static void line() {
        BellTelegraph x = Given.codedRow(4);
        x.ear(1, 0);
        x.send(0, 3, 12);
        x.send(3, 0, 12345678);
        x.send(2, 3, 8);
        Due.isText("one that waits at first", Given.line(x, 0), "0>3:12@0");
        Due.isText("one with 8 signs", Given.line(x, 1), "3>0:12345678@3");
        Due.is("its length", x.line(1), 14);
        x.hours(1);
        Due.isText("one with a lost sign", Given.line(x, 0), "0>3:?2@0");
        x.drop(0);
        Due.isText("one that was dropped", Given.line(x, 0), "0>3:?2x");
        x.hours(3);
        Due.isText("one that arrived", Given.line(x, 2), "2>3:8");
        Due.is("its length", x.line(2), 5);
        for (int wrong : new int[] {-1, 3, Integer.MIN_VALUE, Integer.MAX_VALUE}) {
            Due.isThrown("the message " + wrong, IndexOutOfBoundsException.class, () -> x.line(wrong));
        }
        Due.is("the line before stays", x.character(4), '8');
        Due.isThrown("its end too", IndexOutOfBoundsException.class, () -> x.character(5));
    }

    private static void lineIsKept() {
        BellTelegraph x = Given.codedRow(2);
        x.save();
        x.send(0, 1, 4);
        x.line(0);
        x.hours(4);
        Due.is("the line after hours", x.character(5), '@');
        x.undo();
        x.undo();
        Due.is("the line after an undo", x.character(4), '4');
        x.restore();
        Due.is("the line after a restore", x.character(6), '0');
        Due.isThrown("behind it", IndexOutOfBoundsException.class, () -> x.character(7));
    }

    private static void character() {
        BellTelegraph x = Given.codedRow(2);
        Due.isThrown("of an empty line", IndexOutOfBoundsException.class, () -> x.character(0));
        x.send(1, 0, 37);
        x.line(0);
        String due = "1>0:37@1";
        for (int k = 0; k < due.length(); k++) {
            Due.is("the character " + k, x.character(k), due.charAt(k));
        }
        for (int wrong : new int[] {-1, 8, Integer.MIN_VALUE, Integer.MAX_VALUE}) {
            Due.isThrown("the character " + wrong, IndexOutOfBoundsException.class, () -> x.character(wrong));
        }
    }
}
