import java.io.IOException;
import java.util.NoSuchElementException;
import java.util.function.Supplier;

/** The edges that the promises 1 to 8 name: a new object, and all changes but hours. */
public final class ChangeEdgeTest {
    private static final int LEAST = Integer.MIN_VALUE;
    private static final int MOST = Integer.MAX_VALUE;

    public static void main(String[] args) throws IOException, IllegalAccessException {
        Sentences.hold(ChangeEdgeTest.class, args);
    }

    // Promise 1

    @Says(promise = 1, value = "Creates a telegraph without convents, psalms and messages, in the hour 0.")
    static void aNewTelegraphIsEmpty() {
        BellTelegraph x = new BellTelegraph();
        for (int what = 0; what <= 11; what++) {
            Due.is("account(" + what + ")", x.account(what), 0);
        }
        for (int sign = 1; sign <= 8; sign++) {
            Due.is("psalm(" + sign + ")", x.psalm(sign), 0);
        }
        Due.isThrown("a convent", IndexOutOfBoundsException.class, () -> x.conventOf(0, 0));
        Due.isThrown("a message", IndexOutOfBoundsException.class, () -> x.messageOf(0, 0));
        Due.isThrown("an arrival", NoSuchElementException.class, () -> x.arrived(0));
        Due.isThrown("a rank", NoSuchElementException.class, () -> x.ranked(0));
        Due.isThrown("a mean", ArithmeticException.class, () -> x.meanEar());
        Due.isThrown("a share", ArithmeticException.class, () -> x.lostShare());
        Due.isThrown("an undo", IllegalStateException.class, () -> x.undo());
        Due.isThrown("a restore", IllegalStateException.class, () -> x.restore());
        Due.isText("the rest", Given.seen(x), Given.seen(new BellTelegraph()));
    }

    @Says(promise = 1, value = "Creates a telegraph without convents, psalms and messages, in the hour 0.")
    static void aNewTelegraphHasNothingOfAnother() {
        BellTelegraph other = Given.full();
        other.hours(5);
        BellTelegraph x = new BellTelegraph();
        Due.is("the convents", x.account(2), 0);
        Due.is("the signs with a psalm", x.account(3), 0);
        Due.is("the messages", x.account(4), 0);
        Due.is("the hour", x.account(0), 0);
        x.convent(1, 1, 1);
        Due.is("the convents of the other", other.account(2), 6);
    }

    // Promise 2

    @Says(promise = 2, value = "Adds a convent at the end of the row.")
    static void aConventComesBehindNoneAndBehindFive() {
        BellTelegraph x = new BellTelegraph();
        x.convent(9, 0, 1);
        for (int k = 1; k < 6; k++) {
            x.convent(9 - k, k, k);
            Due.is("the tone of the last one", x.conventOf(k, 0), 9 - k);
            Due.is("the length of the last ridge", x.ridgeOf(k - 1, 0), k);
            Due.is("the tone of the first one", x.conventOf(0, 0), 9);
        }
    }

    @Says(promise = 2, value = "Returns its number.")
    static void theNumberOfAConventIsFrom0To5() {
        BellTelegraph x = new BellTelegraph();
        Due.is("the first one", x.convent(1, 1, 1), 0);
        x.undo();
        Due.is("the first one again", x.convent(1, 1, 1), 0);
        for (int k = 1; k < 6; k++) {
            Due.is("the next one", x.convent(1, 1, 1), k);
        }
        x.undo();
        Due.is("the last one again", x.convent(1, 1, 1), 5);
    }

    @Says(promise = 2, value = "that of the first convent means nothing, and can be any number")
    static void theLengthOfTheFirstConventCanBeAnyNumber() {
        for (int length : new int[] {0, 1, 9, 10, -1, LEAST, MOST}) {
            BellTelegraph x = new BellTelegraph();
            Due.is("a first convent of the length " + length, x.convent(5, 5, length), 0);
            x.convent(5, 5, 4);
            Due.is("the length of the first ridge", x.ridgeOf(0, 0), 4);
        }
        Edge.isRefused("a first convent of the tone 10", BellTelegraph::new, 1, 0, y -> y.convent(10, 5, 5));
        Edge.isRefused("a first convent of the ear -1", BellTelegraph::new, 1, 0, y -> y.convent(5, -1, 5));
    }

    @Says(promise = 2, value = "that of the first convent means nothing, and can be any number")
    static void aConventThatIsTheFirstAgainCanBeOfAnyLength() {
        BellTelegraph x = Given.row(2);
        x.undo();
        Due.isRefused("a second convent of the length 0", x, 1, 0, () -> x.convent(5, 5, 0));
        x.undo();
        Due.is("a first convent of the length 0", x.convent(5, 5, 0), 0);
    }

    @Says(promise = 2, value = "Throws `UnsupportedOperationException` if it is refused for the reason 1 or 2; the reason is kept")
    static void aConventTooManyOutOfRangeIsRefusedForTheReason1() {
        Edge.isRefused("the tone 10", Given::full, 1, 0, y -> y.convent(10, 5, 5));
        Edge.isRefused("the ear -1", Given::full, 1, 0, y -> y.convent(5, -1, 5));
        Edge.isRefused("the length 0", Given::full, 1, 0, y -> y.convent(5, 5, 0));
        Edge.isRefused("the length 10", Given::full, 1, 0, y -> y.convent(5, 5, 10));
    }

    // Promise 3

    @Says(promise = 3, value = "Gives a psalm to a sign, in place of the one before.")
    static void aPsalmComesInPlaceOfTheOneBefore() {
        BellTelegraph x = new BellTelegraph();
        x.code(1, 150);
        Due.is("the signs with a psalm", x.account(3), 1);
        x.code(1, 1);
        Due.is("the psalm in place of the greatest", x.psalm(1), 1);
        Due.is("the signs with a psalm then", x.account(3), 1);
        Due.is("the psalm that is free again", x.code(8, 150), 0);
        Edge.isRefused("the psalm that is not", Given::busy, 6, 2, y -> y.code(8, 4));
    }

    @Says(promise = 3, value = "Returns the psalm before, or 0.")
    static void thePsalmBeforeIs0OrOneOf1To150() {
        BellTelegraph x = new BellTelegraph();
        Due.is("none before", x.code(8, 150), 0);
        Due.is("the greatest before", x.code(8, 1), 150);
        Due.is("the least before", x.code(8, 1), 1);
        x.undo();
        x.undo();
        x.undo();
        Due.is("none before, after an undo", x.code(8, 7), 0);
    }

    @Says(promise = 3, value = "Throws `UnsupportedOperationException` if it is refused for the reason 1 or 6; the reason is kept")
    static void aPsalmOfAnotherSignForNoSignIsRefusedForTheReason1() {
        Edge.isRefused("the sign 0", Given::full, 1, 0, y -> y.code(0, 4));
        Edge.isRefused("the sign 9", Given::full, 1, 0, y -> y.code(9, 4));
        Edge.isRefused("a psalm of another sign", Given::busy, 6, 3, y -> y.code(1, 5));
    }

    // Promise 4

    @Says(promise = 4, value = "the hour of the day from which on, 0 to 23")
    static void silenceIsFromTheHours0To23() {
        BellTelegraph x = Given.row(1);
        x.silence(0, 23, 5);
        Due.is("the last hour from which", x.conventOf(0, 2), 23);
        x.silence(0, 0, 5);
        Due.is("the first hour from which", x.conventOf(0, 2), 0);
        for (int wrong : new int[] {-1, 24, LEAST, MOST}) {
            Edge.isRefused("from " + wrong, Given::busy, 1, 0, y -> y.silence(0, wrong, 5));
        }
    }

    @Says(promise = 4, value = "the hour of the day until ahead of which, 0 to 23")
    static void silenceIsUntilTheHours0To23() {
        BellTelegraph x = Given.row(1);
        x.silence(0, 5, 23);
        Due.is("the last hour until which", x.conventOf(0, 3), 23);
        x.silence(0, 5, 0);
        Due.is("the first hour until which", x.conventOf(0, 3), 0);
        for (int wrong : new int[] {-1, 24, LEAST, MOST}) {
            Edge.isRefused("until " + wrong, Given::busy, 1, 0, y -> y.silence(0, 5, wrong));
        }
    }

    @Says(promise = 4, value = "Returns for how many hours of a day it is silent then.")
    static void aConventIsSilentFor0To23Hours() {
        BellTelegraph x = Given.row(6);
        int[][] cases = {{0, 0, 0}, {23, 23, 0}, {0, 1, 1}, {23, 0, 1}, {0, 23, 23}, {1, 0, 23}, {23, 22, 23}, {22, 6, 8}, {6, 22, 16}};
        for (int[] one : cases) {
            Due.is("silent from " + one[0] + " until " + one[1], x.silence(5, one[0], one[1]), one[2]);
        }
    }

    @Says(promise = 4, value = "Throws `UnsupportedOperationException` if it is refused for the reason 3 or 1; the reason is kept")
    static void silenceOfNoConventIsRefused() {
        isNoConvent((y, convent) -> y.silence(convent, 1, 2));
        isNoConvent((y, convent) -> y.silence(convent, 24, -1));
    }

    private interface UseOf {
        double of(BellTelegraph x, int number);
    }

    /** Refused for the reason 3 at both ends of three, of six and of no convents. */
    private static void isNoConvent(UseOf call) {
        for (int wrong : new int[] {-1, 3, LEAST, MOST}) {
            Edge.isRefused("the convent " + wrong, Given::busy, 3, wrong, y -> call.of(y, wrong));
        }
        Edge.isRefused("the convent 6", Given::full, 3, 6, y -> call.of(y, 6));
        Edge.isRefused("the convent 0 of none", BellTelegraph::new, 3, 0, y -> call.of(y, 0));
    }

    // Promise 5

    @Says(promise = 5, value = "Throws `UnsupportedOperationException` if it is refused for the reason 3 or 1; the reason is kept")
    static void windOfNoRidgeIsRefused() {
        for (int wind : new int[] {3, 10}) {
            for (int wrong : new int[] {-1, 2, LEAST, MOST}) {
                Edge.isRefused("the ridge " + wrong, Given::busy, 3, wrong, y -> y.wind(wrong, wind));
            }
            Edge.isRefused("the ridge 5", Given::full, 3, 5, y -> y.wind(5, wind));
            Edge.isRefused("the ridge 0 of one convent", () -> Given.row(1), 3, 0, y -> y.wind(0, wind));
            Edge.isRefused("the ridge 0 of none", BellTelegraph::new, 3, 0, y -> y.wind(0, wind));
            Edge.isRefused("the ridge -1 of none", BellTelegraph::new, 3, -1, y -> y.wind(-1, wind));
        }
    }

    @Says(promise = 5, value = "Returns the wind before.")
    static void theWindBeforeIsOneOf0To9() {
        BellTelegraph x = Given.row(6);
        for (int ridge : new int[] {0, 4}) {
            Due.is("the wind at first", x.wind(ridge, 9), 0);
            Due.is("the greatest wind before", x.wind(ridge, 0), 9);
            Due.is("the least wind before", x.wind(ridge, 0), 0);
        }
        x.hours(6);
        Due.is("the wind that turned before", x.wind(4, 9), 5);
    }

    // Promise 6

    @Says(promise = 6, value = "Throws `UnsupportedOperationException` if it is refused for the reason 3 or 1; the reason is kept")
    static void anEarOfNoConventIsRefused() {
        isNoConvent((y, convent) -> y.ear(convent, 5));
        isNoConvent((y, convent) -> y.ear(convent, 10));
    }

    @Says(promise = 6, value = "Returns the ear before.")
    static void theEarBeforeIsOneOf0To9() {
        BellTelegraph x = Given.row(6);
        for (int convent : new int[] {0, 5}) {
            Due.is("the greatest ear before", x.ear(convent, 0), 9);
            Due.is("the least ear before", x.ear(convent, 9), 0);
            Due.is("the same ear before", x.ear(convent, 9), 9);
        }
    }

    // Promise 7

    @Says(promise = 7, value = "`from`: the convent from which it is")
    static void aMessageFromNoConventIsRefused() {
        isNoConvent((y, convent) -> y.send(convent, 1, 1));
        isNoConvent((y, convent) -> y.send(convent, 1, 0));
    }

    @Says(promise = 7, value = "`to`: the convent to which it is")
    static void aMessageToNoConventIsRefused() {
        for (int wrong : new int[] {-1, 3, LEAST, MOST}) {
            Edge.isRefused("to " + wrong, Given::busy, 3, wrong, y -> y.send(0, wrong, 1));
        }
        Edge.isRefused("to 6", Given::full, 3, 6, y -> y.send(0, 6, 1));
        Edge.isRefused("to 1 of one convent", () -> Given.row(1), 3, 1, y -> y.send(0, 1, 1));
    }

    @Says(promise = 7, value = "its signs as the digits of a number, 1 to 8 digits from 1 to 8 each")
    static void theDigitsOfAMessageAreFrom1To8() {
        int[] goods = {1, 8, 11, 18, 81, 88, 111, 888, 1111, 8888, 11111, 88888, 111111, 888888, 1111111, 8888888,
            11111111, 12345678, 18111118, 88888888};
        for (int good : goods) {
            BellTelegraph x = Given.codedRow(2);
            Due.is("the signs " + good, x.send(0, 1, good), 0);
            Due.isText("the message " + good, Given.line(x, 0), "0>1:" + good + "@0");
        }
        int[] wrongs = {0, 9, 10, 19, 90, 91, 80, 108, 189, 801, 810, 1000, 8808, 10111111, 11111110, 11111119, 81111119, 88888889, 90000000,
            91111111, 100000000, 111111111, 888888888, 1111111111, 2111111111, -1, -8, -11111111, LEAST, MOST};
        for (int wrong : wrongs) {
            Edge.isRefused("the signs " + wrong, () -> Given.codedRow(2), 1, 0, y -> y.send(0, 1, wrong));
        }
    }

    /** One convent, a second one, the signs without a psalm, and no room, as far as a message has these faults. */
    private static Supplier<BellTelegraph> withoutRoom() {
        return () -> {
            BellTelegraph x = Given.row(2);
            x.code(5, 4);
            for (int k = 0; k < 16; k++) {
                x.send(0, 1, 5);
            }
            return x;
        };
    }

    @Says(promise = 7, value = "Throws `UnsupportedOperationException` if it is refused for the reason 3, 5, 1, 4 or 2; the reason is kept")
    static void aMessageIsRefusedForTheFirstOfItsReasons() {
        Edge.isRefused("no convent twice, bad signs", withoutRoom(), 3, 2, y -> y.send(2, 2, 0));
        Edge.isRefused("no convent to which, bad signs", withoutRoom(), 3, -1, y -> y.send(0, -1, 9));
        Edge.isRefused("no convents, the first one tells", withoutRoom(), 3, 7, y -> y.send(7, -1, 5));
        Edge.isRefused("the same convent, bad signs", withoutRoom(), 5, 1, y -> y.send(1, 1, 0));
        Edge.isRefused("the same convent, no psalm", withoutRoom(), 5, 0, y -> y.send(0, 0, 6));
        Edge.isRefused("bad signs, no psalm", withoutRoom(), 1, 0, y -> y.send(0, 1, 69));
        Edge.isRefused("bad signs of which the first is bad", withoutRoom(), 1, 0, y -> y.send(0, 1, 96));
        Edge.isRefused("no psalm, no room", withoutRoom(), 4, 6, y -> y.send(0, 1, 56));
        Edge.isRefused("no room", withoutRoom(), 2, 16, y -> y.send(0, 1, 5));
        Edge.isRefused("the same convent of one", () -> Given.row(1), 5, 0, y -> y.send(0, 0, 1));
    }

    @Says(promise = 7, value = "Returns its number.")
    static void theNumberOfAMessageIsFrom0To15() {
        BellTelegraph x = Given.codedRow(2);
        Due.is("the first one", x.send(0, 1, 1), 0);
        x.drop(0);
        Due.is("one behind a dropped one", x.send(0, 1, 1), 1);
        x.hours(1);
        for (int k = 2; k < 16; k++) {
            Due.is("one behind an arrived one", x.send(0, 1, 1), k);
        }
        x.undo();
        Due.is("the last one again", x.send(1, 0, 2), 15);
    }

    // Promise 8

    @Says(promise = 8, value = "Throws `UnsupportedOperationException` if it is refused for the reason 3 or 7; the reason is kept")
    static void noSuchMessageIsDropped() {
        for (int wrong : new int[] {-1, 4, LEAST, MOST}) {
            Edge.isRefused("the message " + wrong, Given::busy, 3, wrong, y -> y.drop(wrong));
        }
        Edge.isRefused("the message 16", Given::full, 3, 16, y -> y.drop(16));
        Edge.isRefused("the message 0 of none", Given::busyWithoutMessages, 3, 0, y -> y.drop(0));
    }

    @Says(promise = 8, value = "Throws `UnsupportedOperationException` if it is refused for the reason 3 or 7; the reason is kept")
    static void aMessageThatIsNotUnderWayIsNotDropped() {
        Edge.isRefused("one that arrived", Given::busy, 7, 1, y -> y.drop(0));
        Edge.isRefused("one that was dropped", Given::busy, 7, 2, y -> y.drop(2));
    }

    @Says(promise = 8, value = "Returns the convent at which it waited.")
    static void aMessageIsDroppedAtTheFirstAndAtTheLastConvent() {
        BellTelegraph x = Given.full();
        Due.is("one at the first convent", x.drop(0), 0);
        Due.is("one at the last convent", x.drop(5), 5);
        Due.is("the last one", x.drop(15), 3);
        BellTelegraph y = Given.codedRow(6);
        y.send(0, 5, 1);
        y.hours(4);
        Due.is("one an hour ahead of its arrival", y.drop(0), 4);
        Due.is("where it is then", y.messageOf(0, 2), 4);
        Due.is("how many wait there", y.conventOf(4, 4), 0);
    }

    @Says(promise = 8, value = "Drops a message.")
    static void theFirstAndTheLastOfManyIsDropped() {
        BellTelegraph x = Given.codedRow(2);
        for (int k = 0; k < 16; k++) {
            x.send(0, 1, 4);
        }
        x.hours(3);
        x.drop(0);
        x.drop(15);
        Due.is("how many wait", x.conventOf(0, 4), 14);
        Due.is("the first one", x.waiting(0, 0), 1);
        Due.is("the last one", x.waiting(0, 13), 14);
        Due.isThrown("one behind it", NoSuchElementException.class, () -> x.waiting(0, 14));
        Due.is("what arrives in the hour that the dropped one needed", x.hours(1), 0);
        Due.is("the hours of the one behind it", x.messageOf(1, 6), 1);
        Due.is("the hours of the dropped one", x.messageOf(0, 6), 3);
    }
}
