import java.io.IOException;
import java.util.NoSuchElementException;

/** The edges of texts, reasons and the line: the promises 26 to 31, and "Texts" and "Reasons" of "Terms". */
public final class TextEdgeTest {
    private static final int LEAST = Integer.MIN_VALUE;
    private static final int MOST = Integer.MAX_VALUE;
    private static final Class<IndexOutOfBoundsException> NO_INDEX = IndexOutOfBoundsException.class;
    private static final Class<IllegalArgumentException> NO_ARGUMENT = IllegalArgumentException.class;
    private static final Class<IllegalStateException> NO_STATE = IllegalStateException.class;
    private static final Class<UnsupportedOperationException> REFUSED = UnsupportedOperationException.class;
    private static final String NINETEEN = "h1;".repeat(19);

    public static void main(String[] args) throws IOException, IllegalAccessException {
        Sentences.hold(TextEdgeTest.class, args);
    }

    private static BellTelegraph withText(String text) {
        BellTelegraph x = Given.busy();
        Given.write(x, text);
        return x;
    }

    // Promise 26

    @Says(promise = 26, value = "Returns the new length of the buffer.")
    static void theLengthIsFrom1To60() {
        BellTelegraph x = new BellTelegraph();
        for (int length = 1; length <= 60; length++) {
            Due.is("the length", x.append('h'), length);
            Due.is("the account of it", x.account(11), length);
        }
        Due.isThrown("the text", NO_ARGUMENT, () -> x.commands());
        Due.is("the length afterwards", x.append('h'), 1);
    }

    @Says(promise = 26, value = "Throws `IllegalStateException` if the buffer contains 60 characters")
    static void theCharacter61IsNotAppended() {
        Edge.isThrown("the character 61", NO_STATE, () -> withText(NINETEEN + "h01"), y -> y.append('1'));
        Edge.isThrown("the character 61", NO_STATE, () -> withText("x".repeat(60)), y -> y.append(';'));
        BellTelegraph x = withText(NINETEEN + "h0");
        Due.is("the character 60", x.append('7'), 60);
        Due.isThrown("the character 61", NO_STATE, () -> x.append('x'));
        Due.is("the text without it", x.commands(), 20);
        Due.is("the hour behind it", x.account(0), 2 + 19 + 7);
    }

    @Says(promise = 26, value = "Appends a character to the text buffer.")
    static void theLeastAndTheGreatestCharacterAreAppended() {
        for (char character : new char[] {0, 1, ' ', '~', 127, 128, 255, 256, Character.MAX_VALUE}) {
            Edge.isFault(Given::busy, String.valueOf(character), 0);
            Edge.isFault(Given::busy, "h" + character, 1);
            Edge.isFault(Given::busy, "h1" + character, 2);
        }
    }

    // Texts

    @Says(promise = 27, terms = "Texts", value = "The text buffer holds one or more commands with \";\" between them:")
    static void aTextHoldsFrom1To20Commands() {
        Due.is("one command", Given.carryOut(Given.busy(), "h1"), 1);
        Due.is("two commands", Given.carryOut(Given.busy(), "h1;h1"), 2);
        Due.is("20 commands in 59 characters", Given.carryOut(Given.busy(), NINETEEN + "h1"), 20);
        Due.is("20 commands in 60 characters", Given.carryOut(Given.busy(), NINETEEN + "h01"), 20);
    }

    @Says(promise = 28, terms = "Texts", value = "The text buffer holds one or more commands with \";\" between them:")
    static void noCommandIsAFault() {
        Edge.isFault(Given::busy, "", 0);
        Edge.isFault(BellTelegraph::new, "", 0);
        Edge.isFault(Given::busy, ";", 0);
        Edge.isFault(Given::busy, ";h1", 0);
        Edge.isFault(Given::busy, "h1;", 3);
        Edge.isFault(Given::busy, "h1;;h1", 3);
        Edge.isFault(Given::busy, "h1h1", 2);
        Edge.isFault(Given::busy, "h1 ;h1", 2);
    }

    /** Each text is a fault at its end when it is cut there, alone and as the middle one of three commands. */
    private static void endsTooEarly(String text, int... lengths) {
        for (int length : lengths) {
            String cut = text.substring(0, length);
            Edge.isFault(Given::busy, cut, length);
            Edge.isFault(Given::busy, "w0=3;" + cut, 5 + length);
            Edge.isFault(Given::busy, "w0=3;" + cut + ";h1", 5 + length);
            Edge.isFault(Given::busy, cut + "?", length);
        }
    }

    /** A fault at a place, alone and as the middle one of three commands. */
    private static void isFault(String text, int position) {
        Edge.isFault(Given::busy, text, position);
        Edge.isFault(Given::busy, "w0=3;" + text + ";h1", 5 + position);
    }

    /** Refused alone, and as the middle one of three commands, of which none is carried out. */
    private static void isRefused(String text, int reason, int detail) {
        Edge.isTextRefused(Given::busy, text, reason, detail, 0);
        Edge.isTextRefused(Given::busy, "w0=3;" + text + ";h1", reason, detail, 1);
    }

    @Says(promise = 27, terms = "Texts", value = "\"s\", a convent, \">\", a convent, \":\" and 1 to 8 signs for a message;")
    static void aMessageOf1To8SignsInAText() {
        BellTelegraph x = Given.busy();
        Due.is("the commands", Given.carryOut(x, "s0>2:1;s2>0:33333333;s1>2:21"), 3);
        Due.isText("one of the fewest signs", Given.line(x, 4), "0>2:1@0");
        Due.isText("one of the most signs", Given.line(x, 5), "2>0:33333333@2");
        endsTooEarly("s0>2:1", 1, 2, 3, 4, 5);
        isFault("s0>2:123123123", 13);
        isFault("s>2:1", 1);
        isFault("s0:2", 2);
        isFault("s0>:1", 3);
        isFault("s0>2>1", 4);
    }

    @Says(promise = 29, terms = "Texts", value = "\"s\", a convent, \">\", a convent, \":\" and 1 to 8 signs for a message;")
    static void aMessageIsRefusedInAText() {
        isRefused("s3>0:1", 3, 3);
        isRefused("s0>3:1", 3, 3);
        isRefused("s9>8:4", 3, 9);
        isRefused("s2>2:4", 5, 2);
        isRefused("s0>1:1284", 4, 8);
    }

    @Says(promise = 27, terms = "Texts", value = "\"h\" and a number of hours;")
    static void from1To96HoursInAText() {
        BellTelegraph x = Given.busy();
        Due.is("the fewest hours", Given.carryOut(x, "h1;h01"), 2);
        Due.is("the hour behind them", x.account(0), 4);
        Due.is("the most hours", Given.carryOut(x, "h96"), 1);
        Due.is("the hour behind them", x.account(0), 100);
        endsTooEarly("h1", 1);
        isFault("h096", 3);
        isFault("h-1", 1);
        for (String wrong : new String[] {"h0", "h00", "h97", "h99"}) {
            isRefused(wrong, 1, 0);
        }
    }

    @Says(promise = 27, terms = "Texts", value = "\"q\", a convent, \":\", an hour of the day, \"-\" and an hour of the day for silence;")
    static void silenceOfTheHours0To23InAText() {
        BellTelegraph x = Given.busy();
        Due.is("the commands", Given.carryOut(x, "q0:23-0;q1:00-23;q2:0-0"), 3);
        Due.is("from the last hour", x.conventOf(0, 2), 23);
        Due.is("until the first hour", x.conventOf(0, 3), 0);
        Due.is("from the first hour", x.conventOf(1, 2), 0);
        Due.is("until the last hour", x.conventOf(1, 3), 23);
        Due.is("no silence", x.conventOf(2, 3), 0);
        endsTooEarly("q0:1-2", 1, 2, 3, 4, 5);
        endsTooEarly("q0:11-22", 5, 6);
        isFault("q0:111-2", 5);
        isFault("q0:1-222", 7);
        isFault("q0-1-2", 2);
        isFault("q0:1:2", 4);
        isFault("q0:-2", 3);
        for (String wrong : new String[] {"q0:24-0", "q0:0-24", "q2:99-1", "q2:1-99"}) {
            isRefused(wrong, 1, 0);
        }
        isRefused("q3:1-2", 3, 3);
        isRefused("q9:24-0", 3, 9);
    }

    @Says(promise = 27, terms = "Texts", value = "\"w\", a ridge, \"=\" and a wind;")
    static void aWindOf0To9InAText() {
        BellTelegraph x = Given.busy();
        Due.is("the commands", Given.carryOut(x, "w0=9;w1=0"), 2);
        Due.is("the greatest wind", x.ridgeOf(0, 1), 9);
        Due.is("the least wind", x.ridgeOf(1, 1), 0);
        endsTooEarly("w1=3", 1, 2, 3);
        isFault("w1=10", 4);
        isFault("w1:3", 2);
        isRefused("w2=3", 3, 2);
        isRefused("w9=9", 3, 9);
    }

    @Says(promise = 27, terms = "Texts", value = "\"e\", a convent, \"=\" and an ear;")
    static void anEarOf0To9InAText() {
        BellTelegraph x = Given.busy();
        Due.is("the commands", Given.carryOut(x, "e0=0;e2=9"), 2);
        Due.is("the least ear", x.conventOf(0, 1), 0);
        Due.is("the best ear", x.conventOf(2, 1), 9);
        endsTooEarly("e1=3", 1, 2, 3);
        isFault("e1=10", 4);
        isFault("e1>3", 2);
        isRefused("e3=0", 3, 3);
        isRefused("e9=9", 3, 9);
    }

    @Says(promise = 27, terms = "Texts", value = "\"d\" and a message to drop it.")
    static void aMessageIsDroppedInAText() {
        BellTelegraph x = Given.busy();
        Due.is("the commands", Given.carryOut(x, "d1;d03"), 2);
        Due.is("those that were dropped", x.account(7), 3);
        BellTelegraph y = Given.full();
        Due.is("the first and the last one", Given.carryOut(y, "d15;d0"), 2);
        Due.is("how the first one is", y.messageOf(0, 7), 2);
        Due.is("how the last one is", y.messageOf(15, 7), 2);
        endsTooEarly("d1", 1);
        isFault("d003", 3);
        isRefused("d4", 3, 4);
        isRefused("d99", 3, 99);
        isRefused("d0", 7, 1);
        isRefused("d2", 7, 2);
        Edge.isTextRefused(Given::full, "d15;d16", 3, 16, 1);
    }

    @Says(promise = 28, terms = "Texts", value = "Hours and messages have 1 or 2 digits, other numbers one.")
    static void aDigitTooManyOrTooFewIsAFault() {
        isFault("h;h1", 1);
        isFault("h961", 3);
        isFault("d;h1", 1);
        isFault("d151", 3);
        isFault("q0:;h1", 3);
        isFault("q0:231-1", 5);
        isFault("q00:1-2", 2);
        isFault("w00=1", 2);
        isFault("w0=00", 4);
        isFault("e00=1", 2);
        isFault("e0=00", 4);
        isFault("s00>1:1", 2);
        isFault("s0>01:1", 4);
    }

    @Says(promise = 28, terms = "Texts", value = "Hours and messages have 1 or 2 digits, other numbers one.")
    static void theCharactersBesideTheDigitsAreFaults() {
        for (char wrong : new char[] {'/', ':', '-', ' ', 'a', '\u0660', '\uff11'}) {
            isFault("h" + wrong, 1);
            isFault("h1" + wrong, 2);
            isFault("d" + wrong, 1);
            isFault("d1" + wrong, 2);
            isFault("q" + wrong + ":1-2", 1);
            isFault("q0:" + wrong + "-2", 3);
            isFault("q0:1-" + wrong, 5);
            isFault("q0:1-2" + wrong, 6);
            isFault("w" + wrong + "=1", 1);
            isFault("w0=" + wrong, 3);
            isFault("e" + wrong + "=1", 1);
            isFault("e0=" + wrong, 3);
            isFault("s" + wrong + ">1:1", 1);
            isFault("s0>" + wrong + ":1", 3);
            isFault("s0>1:" + wrong, 5);
            isFault("s0>1:1" + wrong, 6);
        }
        isFault("q0:1/2", 4);
        isFault("q0:1:2", 4);
    }

    @Says(promise = 28, terms = "Texts", value = "The fault position of a text is the index of its first character that cannot continue such a text")
    static void aFaultIsAtTheFirstOrAtTheLastCharacter() {
        for (String wrong : new String[] {"x", "1", "S0>1:1", "H1", "c1", ">", "@", " h1", "=", "?"}) {
            Edge.isFault(Given::busy, wrong, 0);
        }
        Edge.isFault(Given::busy, "x".repeat(60), 0);
        Edge.isFault(Given::busy, NINETEEN + "h1x", 59);
        Edge.isFault(Given::busy, NINETEEN + "h/1", 58);
        Edge.isFault(Given::busy, NINETEEN + "h:1", 58);
        Edge.isFault(Given::busy, "h1;x;y", 3);
        Edge.isFault(Given::busy, "d99;h0;x", 7);
    }

    @Says(promise = 28, terms = "Texts", value = "or the length of the text if it ends too early.")
    static void aFaultIsBehindAFullText() {
        Edge.isFault(Given::busy, "h1;".repeat(20), 60);
        Edge.isFault(Given::busy, NINETEEN + "h1;", 60);
        Edge.isFault(Given::busy, NINETEEN.substring(3) + "w0=1;w", 60);
        Edge.isFault(Given::busy, NINETEEN + "h", 58);
    }

    @Says(promise = 28, terms = "Details", value = "A sign 0 or 9 in a text is a fault.")
    static void aSign0Or9IsAFault() {
        isFault("s0>1:0", 5);
        isFault("s0>1:9", 5);
        isFault("s0>1:10", 6);
        isFault("s0>1:19", 6);
        isFault("s0>1:11111110", 12);
        isFault("s0>1:11111119", 12);
        isFault("s9>9:0", 5);
        BellTelegraph x = Given.codedRow(2);
        Due.is("the signs 1 and 8", Given.carryOut(x, "s0>1:1;s0>1:8"), 2);
    }

    @Says(promise = 27, terms = "Texts", value = "The commands are carried out as the methods would, all of them or none.")
    static void noneOfTheCommandsIsCarriedOutIfOneIsRefused() {
        Edge.isTextRefused(Given::busy, "h0;h1;h1", 1, 0, 0);
        Edge.isTextRefused(Given::busy, "s0>2:1;h1;q1:2-3;w1=1;e0=1;d1;d1", 7, 2, 6);
        Edge.isTextRefused(Given::busy, NINETEEN + "h00", 1, 0, 19);
        Edge.isTextRefused(Given::busy, "h96;d3", 7, 1, 1);
        Edge.isTextRefused(TextEdgeTest::roomForOne, "s0>1:1;s1>0:2", 2, 16, 1);
        BellTelegraph x = roomForOne();
        Due.is("the last message in a text", Given.carryOut(x, "s0>1:1"), 1);
        Due.is("the messages", x.account(4), 16);
    }

    private static BellTelegraph roomForOne() {
        BellTelegraph x = Given.full();
        x.undo();
        return x;
    }

    // Promises 27 and 28

    @Says(promise = 27, value = "Returns the number of commands.")
    static void theNumberOfCommandsIsFrom1To20() {
        for (int commands = 1; commands <= 20; commands++) {
            BellTelegraph x = new BellTelegraph();
            String text = "h1;".repeat(commands);
            Due.is("the commands", Given.carryOut(x, text.substring(0, text.length() - 1)), commands);
            Due.is("the hour behind them", x.account(0), commands);
            Due.is("what can be undone", x.account(10), 1);
        }
    }

    @Says(promise = 27, value = "Throws `IllegalArgumentException` if the text has a fault")
    static void aFaultInAnyOfItsCommandsIsThrown() {
        Edge.isFault(BellTelegraph::new, "", 0);
        for (int command = 0; command < 20; command++) {
            String text = "h1;".repeat(command) + "h?;" + "h1;".repeat(19 - command);
            Edge.isFault(Given::busy, text.substring(0, 59), 3 * command + 1);
        }
    }

    @Says(promise = 27, value = "Throws `UnsupportedOperationException` if a command is refused; the reason is kept")
    static void anyOfTheCommandsCanBeRefused() {
        for (int command = 0; command < 20; command++) {
            String text = "h1;".repeat(command) + "h0;" + "h1;".repeat(19 - command);
            Edge.isTextRefused(Given::busy, text.substring(0, 59), 1, 0, command);
        }
    }

    @Says(promise = 27, value = "Carries out the commands in the text buffer, one after the other; if one is refused, none is carried out.")
    static void theFirstOfTwoRefusedCommandsTells() {
        Edge.isTextRefused(Given::busy, "h1;d99;h0", 3, 99, 1);
        Edge.isTextRefused(Given::busy, "h0;d99", 1, 0, 0);
        Edge.isTextRefused(BellTelegraph::new, "h1;w0=1;e0=1", 3, 0, 1);
    }

    @Says(promise = 27, value = "The buffer is empty afterwards, also if an exception is thrown.")
    static void theBufferIsEmptyAfterwards() {
        for (String text : new String[] {"h1", "h0", "h1;", "x", "", NINETEEN + "h01", "h1;".repeat(20)}) {
            BellTelegraph x = withText(text);
            try {
                x.commands();
            } catch (IllegalArgumentException | UnsupportedOperationException e) {
                // Whether it throws is not what counts here.
            }
            Due.is("the length behind \"" + text + "\"", x.account(11), 0);
            Due.is("the length of the next text", x.append('h'), 1);
            x.append('2');
            Due.is("the next text", x.commands(), 1);
        }
    }

    @Says(promise = 27, terms = "Exceptions", value = "If several conditions of a method are fulfilled, the one that is listed first determines the exception.")
    static void aFaultComesAheadOfARefusal() {
        Edge.isFault(Given::busy, "d99;h", 5);
        Edge.isFault(Given::busy, "h0;h0;", 6);
    }

    @Says(promise = 28, value = "Returns the fault position, or -1 if that text had no fault or there was no such call.")
    static void thereIsNoFaultPositionWithoutAFault() {
        BellTelegraph x = new BellTelegraph();
        Due.is("without a call", x.faultPosition(), -1);
        Given.write(x, "xyz");
        Due.is("ahead of the first call", x.faultPosition(), -1);
        Due.isThrown("the first call", NO_ARGUMENT, () -> x.commands());
        Due.is("behind the first call", x.faultPosition(), 0);
        Given.carryOut(x, "h1");
        Due.is("behind a text that is good", x.faultPosition(), -1);
        Due.isThrown("a fault", NO_ARGUMENT, () -> Given.carryOut(x, "h1;"));
        Due.is("behind a fault", x.faultPosition(), 3);
        Due.isThrown("a text that is refused", REFUSED, () -> Given.carryOut(x, "h0"));
        Due.is("behind a text that is refused", x.faultPosition(), -1);
    }

    @Says(promise = 28, value = "Returns the fault position of the text of the latest call of commands.")
    static void theFaultPositionStaysUntilTheNextText() {
        BellTelegraph x = Given.busy();
        Due.is("behind a text", x.faultPosition(), 3);
        x.undo();
        x.restore();
        Given.write(x, "h");
        Due.isRefused("a call that is refused", x, 1, 0, () -> x.hours(0));
        Due.is("behind other calls", x.faultPosition(), 3);
        Due.isThrown("another text", NO_ARGUMENT, () -> x.commands());
        Due.is("behind another text", x.faultPosition(), 1);
    }

    // Promise 29 and "Reasons"

    @Says(promise = 29, value = "Throws `NoSuchElementException` if nothing was refused")
    static void thereIsNoReasonWithoutARefusal() {
        for (int what = 0; what <= 2; what++) {
            int asked = what;
            Edge.isThrown("a new one", NoSuchElementException.class, BellTelegraph::new, y -> y.reason(asked));
            Edge.isThrown("a full one", NoSuchElementException.class, Given::full, y -> y.reason(asked));
        }
        BellTelegraph x = Given.full();
        Due.isThrown("a fault", NO_ARGUMENT, () -> Given.carryOut(x, "d99;x"));
        Due.isThrown("the reason of a fault", NoSuchElementException.class, () -> x.reason(0));
        Due.isThrown("a call that throws", NO_INDEX, () -> x.line(16));
        Due.isThrown("the reason of a call that throws", NoSuchElementException.class, () -> x.reason(0));
    }

    @Says(promise = 29, value = "Throws `IllegalArgumentException` if what is not from 0 to 2")
    static void noSuchNumberOfAReason() {
        for (int wrong : new int[] {-1, 3, LEAST, MOST}) {
            Edge.isThrown("what " + wrong, NO_ARGUMENT, Given::busy, y -> y.reason(wrong));
            Edge.isThrown("what " + wrong + " without a reason", NO_ARGUMENT, Given::full, y -> y.reason(wrong));
        }
    }

    @Says(promise = 29, value = "0 for the reason, 1 for its detail, 2 for the index of the command")
    static void theReasonIsThatOfTheLatestRefusal() {
        BellTelegraph x = Given.busy();
        Due.isReason("the one before", x, 7, 2, 1);
        Due.isRefused("a later one", x, 3, MOST, () -> x.drop(MOST));
        Due.isRefused("one without a detail", x, 1, 0, () -> x.hours(0));
        Due.isRefused("the first reason again", x, 3, LEAST, () -> x.ear(LEAST, 1));
        Due.isThrown("a text", REFUSED, () -> Given.carryOut(x, "h1;h1;d4"));
        Due.isReason("a text", x, 3, 4, 2);
        x.hours(1);
        Due.isReason("behind a call that is not refused", x, 3, 4, 2);
    }

    @Says(promise = 29, terms = "Reasons", value = "Something is refused for the first that applies of the reasons that its method names, in the order in which it names them:")
    static void theReasonThatIsNamedFirstTells() {
        Edge.isRefused("convent: 1 ahead of 2", Given::full, 1, 0, y -> y.convent(0, 10, 0));
        Edge.isRefused("code: 1 ahead of 6", Given::full, 1, 0, y -> y.code(9, 11));
        Edge.isRefused("silence: 3 ahead of 1", Given::full, 3, 6, y -> y.silence(6, 24, 24));
        Edge.isRefused("wind: 3 ahead of 1", Given::full, 3, 5, y -> y.wind(5, 10));
        Edge.isRefused("ear: 3 ahead of 1", Given::full, 3, 6, y -> y.ear(6, 10));
        Edge.isRefused("send: 3 ahead of 5 and 1", Given::full, 3, 6, y -> y.send(6, 6, 9));
        Edge.isRefused("send: 5 ahead of 1", Given::full, 5, 5, y -> y.send(5, 5, 9));
        Edge.isRefused("send: 1 ahead of 2", Given::full, 1, 0, y -> y.send(0, 5, 9));
        Edge.isTextRefused(Given::full, "h1;q6:24-0", 3, 6, 1);
        Edge.isTextRefused(Given::full, "h1;s5>5:1", 5, 5, 1);
    }

    @Says(promise = 29, terms = "Reasons", value = "1, a number is out of range;")
    static void aNumberOutOfRangeIsTheReason1() {
        Edge.isRefused("a convent", Given::busy, 1, 0, y -> y.convent(10, -1, 0));
        Edge.isRefused("a code", Given::busy, 1, 0, y -> y.code(0, 151));
        Edge.isRefused("a silence", Given::busy, 1, 0, y -> y.silence(2, -1, 24));
        Edge.isRefused("a wind", Given::busy, 1, 0, y -> y.wind(1, 10));
        Edge.isRefused("an ear", Given::busy, 1, 0, y -> y.ear(2, -1));
        Edge.isRefused("a message", Given::busy, 1, 0, y -> y.send(2, 1, 1019));
        Edge.isRefused("hours", Given::busy, 1, 0, y -> y.hours(97));
    }

    @Says(promise = 29, terms = "Reasons", value = "2, there would be more than there can be: how many there can be;")
    static void theDetailOfTheReason2IsHowManyThereCanBe() {
        Edge.isRefused("a convent 6", () -> Given.row(6), 2, 6, y -> y.convent(0, 0, 9));
        Edge.isRefused("a message 16", Given::full, 2, 16, y -> y.send(5, 0, 88888888));
        Edge.isTextRefused(Given::full, "d0;h96;s5>0:8", 2, 16, 2);
    }

    @Says(promise = 29, terms = "Reasons", value = "3, there is no such convent, ridge or message, looked at in the order of the parameters: its number;")
    static void theDetailOfTheReason3IsTheNumber() {
        for (int wrong : new int[] {-1, 6, LEAST, MOST}) {
            Edge.isRefused("the convent " + wrong, Given::full, 3, wrong, y -> y.silence(wrong, 1, 2));
            Edge.isRefused("the ridge " + wrong, Given::full, 3, wrong, y -> y.wind(wrong, 1));
            Edge.isRefused("from " + wrong, Given::full, 3, wrong, y -> y.send(wrong, 9, 1));
            Edge.isRefused("to " + wrong, Given::full, 3, wrong, y -> y.send(0, wrong, 1));
        }
        for (int wrong : new int[] {-1, 16, LEAST, MOST}) {
            Edge.isRefused("the message " + wrong, Given::full, 3, wrong, y -> y.drop(wrong));
        }
        Edge.isTextRefused(Given::full, "h1;s7>6:1", 3, 7, 1);
        Edge.isTextRefused(Given::full, "h1;s0>6:1", 3, 6, 1);
    }

    @Says(promise = 29, terms = "Reasons", value = "4, a sign has no psalm: the first such sign;")
    static void theDetailOfTheReason4IsTheFirstSuchSign() {
        Edge.isRefused("the only sign", Given::busy, 4, 8, y -> y.send(0, 1, 8));
        Edge.isRefused("the first of all signs", Given::busy, 4, 4, y -> y.send(0, 1, 41231231));
        Edge.isRefused("the last of all signs", Given::busy, 4, 5, y -> y.send(0, 1, 12312315));
        Edge.isRefused("the first of two", Given::busy, 4, 7, y -> y.send(0, 1, 1274));
        Edge.isRefused("any sign at first", () -> Given.row(2), 4, 1, y -> y.send(0, 1, 1));
        Edge.isTextRefused(Given::busy, "s0>1:1;s0>1:1274", 4, 7, 1);
    }

    @Says(promise = 29, terms = "Reasons", value = "5, both convents are the same: the convent;")
    static void theDetailOfTheReason5IsTheConvent() {
        Edge.isRefused("the first convent", Given::full, 5, 0, y -> y.send(0, 0, 1));
        Edge.isRefused("the last convent", Given::full, 5, 5, y -> y.send(5, 5, 1));
        Edge.isTextRefused(Given::busy, "h1;s2>2:1", 5, 2, 1);
    }

    @Says(promise = 29, terms = "Reasons", value = "6, another sign has this psalm: the sign;")
    static void theDetailOfTheReason6IsTheOtherSign() {
        Edge.isRefused("the psalm of the sign 1", Given::full, 6, 1, y -> y.code(2, 4));
        Edge.isRefused("the psalm of the sign 8", Given::full, 6, 8, y -> y.code(7, 11));
        Edge.isRefused("a psalm for a sign without one", Given::busy, 6, 2, y -> y.code(8, 4));
    }

    @Says(promise = 29, terms = "Reasons", value = "7, the message is not under way: how it is.")
    static void theDetailOfTheReason7IsHowTheMessageIs() {
        Edge.isRefused("one that arrived", Given::busy, 7, 1, y -> y.drop(0));
        Edge.isRefused("one that was dropped", Given::busy, 7, 2, y -> y.drop(2));
        Edge.isTextRefused(Given::busy, "d3;d3", 7, 2, 1);
    }

    @Says(promise = 29, terms = "Reasons", value = "If nothing else is told, the detail is 0.")
    static void theDetailOfTheReason1Is0BehindAnother() {
        BellTelegraph x = Given.full();
        Due.isRefused("one with a detail", x, 3, 16, () -> x.drop(16));
        Due.isRefused("one without a detail", x, 1, 0, () -> x.hours(97));
    }

    @Says(promise = 29, terms = "Reasons", value = "The reason is kept with the index of the command of a text, from 0, or 0 for another call.")
    static void theIndexOfTheCommandIsFrom0To19() {
        BellTelegraph x = Given.full();
        Due.isThrown("the first command", REFUSED, () -> Given.carryOut(x, "h0;h1"));
        Due.isReason("the first command", x, 1, 0, 0);
        Due.isThrown("the command 19", REFUSED, () -> Given.carryOut(x, NINETEEN + "h0"));
        Due.isReason("the command 19", x, 1, 0, 19);
        Due.isRefused("another call", x, 5, 2, () -> x.send(2, 2, 1));
    }

    @Says(promise = 29, value = "Returns a number of the reason that is kept.")
    static void theReasonStaysBehindUndoAndRestore() {
        BellTelegraph x = Given.busy();
        for (int k = 0; k < 8; k++) {
            x.undo();
            Due.isReason("behind an undo", x, 7, 2, 1);
        }
        x.restore();
        Due.isReason("behind a restore", x, 7, 2, 1);
        Given.carryOut(x, "h1");
        Due.isReason("behind a text that is carried out", x, 7, 2, 1);
    }

    // Promises 30 and 31

    @Says(promise = 30, value = "Throws `IndexOutOfBoundsException` if there is no such message")
    static void lineOfNoMessage() {
        for (int wrong : new int[] {-1, 4, LEAST, MOST}) {
            Edge.isThrown("the message " + wrong, NO_INDEX, Given::busy, y -> y.line(wrong));
        }
        Edge.isThrown("the message 16", NO_INDEX, Given::full, y -> y.line(16));
        Edge.isThrown("the message 0 of none", NO_INDEX, Given::busyWithoutMessages, y -> y.line(0));
    }

    @Says(promise = 30, value = "Returns the length of the line.")
    static void aLineIsOf5To14Characters() {
        BellTelegraph x = Given.codedRow(6);
        x.send(0, 1, 1);
        x.send(0, 5, 88888888);
        x.send(5, 0, 3);
        Due.is("the longest line", x.line(1), 14);
        Due.isText("the longest line", Given.line(x, 1), "0>5:88888888@0");
        Due.is("one of one sign under way", x.line(2), 7);
        x.drop(2);
        Due.is("one of one sign that was dropped", x.line(2), 6);
        Due.isText("one of one sign that was dropped", Given.line(x, 2), "5>0:3x");
        x.hours(1);
        Due.is("the shortest line", x.line(0), 5);
        Due.isText("the shortest line", Given.line(x, 0), "0>1:1");
    }

    @Says(promise = 30, value = "\"?\" for each that is lost;")
    static void allSignsOfALineAreLost() {
        BellTelegraph x = Given.codedRow(2);
        x.ear(1, 0);
        x.send(0, 1, 15151515);
        x.hours(7);
        Due.isText("all but the last one", Given.line(x, 0), "0>1:???????5@0");
        x.hours(1);
        Due.isText("all", Given.line(x, 0), "0>1:????????");
    }

    @Says(promise = 30, value = "Writes a message, in place of the line before:")
    static void aShorterLineLeavesNothingOfTheLongerOne() {
        BellTelegraph x = Given.codedRow(2);
        x.send(0, 1, 11111111);
        x.send(1, 0, 1);
        x.line(0);
        Due.is("the last character of the longer one", x.character(13), '0');
        Due.is("the shorter one", x.line(1), 7);
        Due.is("its last character", x.character(6), '1');
        Due.isThrown("the index behind it", NO_INDEX, () -> x.character(7));
        Due.isThrown("the last index of the longer one", NO_INDEX, () -> x.character(13));
    }

    @Says(promise = 31, value = "which is empty at first.")
    static void theLineIsEmptyAtFirst() {
        for (int index : new int[] {0, -1, 1, LEAST, MOST}) {
            Edge.isThrown("the index " + index, NO_INDEX, Given::full, y -> y.character(index));
        }
        Edge.isThrown("the index 0 of a new one", NO_INDEX, BellTelegraph::new, y -> y.character(0));
        BellTelegraph x = Given.full();
        Due.isThrown("no such message", NO_INDEX, () -> x.line(16));
        Due.isThrown("the first character then", NO_INDEX, () -> x.character(0));
    }

    @Says(promise = 31, value = "`index`: the index, from 0")
    static void theFirstIndexIs0() {
        BellTelegraph x = Given.full();
        x.line(0);
        Due.is("the first character", x.character(0), '0');
        Due.is("the second character", x.character(1), '>');
        Due.isThrown("the index ahead of it", NO_INDEX, () -> x.character(-1));
    }

    @Says(promise = 31, value = "Throws `IndexOutOfBoundsException` if there is no such index")
    static void characterAtNoIndex() {
        BellTelegraph x = Given.busy();
        Due.is("the first one", x.character(0), '0');
        Due.is("the last one", x.character(6), '1');
        for (int wrong : new int[] {-1, 7, LEAST, MOST}) {
            Edge.isThrown("the index " + wrong, NO_INDEX, Given::busy, y -> y.character(wrong));
        }
    }
}
