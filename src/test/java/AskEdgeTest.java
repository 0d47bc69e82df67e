import java.io.IOException;
import java.util.NoSuchElementException;

/** The edges that the promises 10 to 25 name: what is asked. */
public final class AskEdgeTest {
    private static final int LEAST = Integer.MIN_VALUE;
    private static final int MOST = Integer.MAX_VALUE;
    private static final Class<IndexOutOfBoundsException> NO_INDEX = IndexOutOfBoundsException.class;
    private static final Class<IllegalArgumentException> NO_ARGUMENT = IllegalArgumentException.class;
    private static final Class<NoSuchElementException> NO_ELEMENT = NoSuchElementException.class;

    public static void main(String[] args) throws IOException, IllegalAccessException {
        Sentences.hold(AskEdgeTest.class, args);
    }

    private interface UseOf {
        double of(BellTelegraph x, int number);
    }

    /** The call throws for numbers at both ends of three, of six and of no convents. */
    private static void isNoConvent(UseOf call) {
        for (int wrong : new int[] {-1, 3, LEAST, MOST}) {
            Edge.isThrown("the convent " + wrong, NO_INDEX, Given::busy, y -> call.of(y, wrong));
        }
        Edge.isThrown("the convent 6", NO_INDEX, Given::full, y -> call.of(y, 6));
        Edge.isThrown("the convent 0 of none", NO_INDEX, BellTelegraph::new, y -> call.of(y, 0));
    }

    private static void isNoRidge(UseOf call) {
        for (int wrong : new int[] {-1, 2, LEAST, MOST}) {
            Edge.isThrown("the ridge " + wrong, NO_INDEX, Given::busy, y -> call.of(y, wrong));
        }
        Edge.isThrown("the ridge 5", NO_INDEX, Given::full, y -> call.of(y, 5));
        Edge.isThrown("the ridge 0 of one convent", NO_INDEX, () -> Given.row(1), y -> call.of(y, 0));
        Edge.isThrown("the ridge 0 of none", NO_INDEX, BellTelegraph::new, y -> call.of(y, 0));
        Edge.isThrown("the ridge -1 of none", NO_INDEX, BellTelegraph::new, y -> call.of(y, -1));
    }

    private static void isNoMessage(UseOf call) {
        for (int wrong : new int[] {-1, 4, LEAST, MOST}) {
            Edge.isThrown("the message " + wrong, NO_INDEX, Given::busy, y -> call.of(y, wrong));
        }
        Edge.isThrown("the message 16", NO_INDEX, Given::full, y -> call.of(y, 16));
        Edge.isThrown("the message 0 of none", NO_INDEX, Given::busyWithoutMessages, y -> call.of(y, 0));
    }

    // Promise 10

    @Says(promise = 10, value = "Throws `IndexOutOfBoundsException` if there is no such convent")
    static void conventOfNoConvent() {
        isNoConvent((y, convent) -> y.conventOf(convent, 0));
        isNoConvent((y, convent) -> y.conventOf(convent, 7));
    }

    @Says(promise = 10, value = "Throws `IllegalArgumentException` if what is not from 0 to 7")
    static void conventOfNoNumber() {
        for (int wrong : new int[] {-1, 8, LEAST, MOST}) {
            Edge.isThrown("what " + wrong, NO_ARGUMENT, Given::busy, y -> y.conventOf(0, wrong));
            Edge.isThrown("what " + wrong, NO_ARGUMENT, Given::busy, y -> y.conventOf(2, wrong));
            isNoConvent((y, convent) -> y.conventOf(convent, wrong));
        }
    }

    @Says(promise = 10, value = "0 for its tone, 1 for the ear, 2 for the hour from which on it is silent, 3 for the hour until ahead of which")
    static void theNumbersOfTheFirstAndOfTheLastConvent() {
        BellTelegraph x = new BellTelegraph();
        for (int k = 0; k < 6; k++) {
            x.convent(9 - k, k, 1);
            x.silence(k, 23 - k, k);
        }
        for (int k = 0; k < 6; k++) {
            Due.is("the tone of " + k, x.conventOf(k, 0), 9 - k);
            Due.is("the ear of " + k, x.conventOf(k, 1), k);
            Due.is("the hour from which " + k + " is silent", x.conventOf(k, 2), 23 - k);
            Due.is("the hour until which " + k + " is silent", x.conventOf(k, 3), k);
        }
    }

    @Says(promise = 10, value = "4 for the messages that wait there")
    static void from0To16MessagesWait() {
        BellTelegraph x = Given.codedRow(2);
        for (int k = 0; k < 16; k++) {
            Due.is("those that wait", x.conventOf(1, 4), k);
            x.send(1, 0, 1);
        }
        Due.is("all that wait", x.conventOf(1, 4), 16);
        x.drop(15);
        x.hours(15);
        Due.is("those that wait at last", x.conventOf(1, 4), 0);
        Due.is("those that wait where they arrived", x.conventOf(0, 4), 0);
    }

    @Says(promise = 10, value = "5 for the hours that it rang so far, 6 for the signs that were lost at its listener so far")
    static void theHoursRungAndTheSignsLostAre0AtFirst() {
        BellTelegraph x = Given.codedRow(2);
        x.ear(0, 0);
        x.send(1, 0, 22);
        Due.is("the hours rung at first", x.conventOf(1, 5), 0);
        Due.is("the signs lost at first", x.conventOf(0, 6), 0);
        x.hours(1);
        Due.is("the hours rung in the midst of a sign", x.conventOf(1, 5), 1);
        Due.is("the signs lost in the midst of a sign", x.conventOf(0, 6), 0);
        x.hours(96);
        Due.is("the hours rung at last", x.conventOf(1, 5), 4);
        Due.is("the signs lost at last", x.conventOf(0, 6), 2);
        Due.is("the hours that the listener rang", x.conventOf(0, 5), 0);
        Due.is("the signs lost at the one that rang", x.conventOf(1, 6), 0);
    }

    @Says(promise = 10, value = "7 for 1 if it is silent in this hour, otherwise 0")
    static void aConventIsSilentInThisHourOfTheSecondDay() {
        BellTelegraph x = Given.row(2);
        x.silence(1, 23, 1);
        Due.is("silent in the hour 0", x.conventOf(1, 7), 1);
        x.hours(23);
        Due.is("silent in the hour 23", x.conventOf(1, 7), 1);
        x.hours(1);
        Due.is("silent in the hour 24", x.conventOf(1, 7), 1);
        Due.is("the other one in the hour 24", x.conventOf(0, 7), 0);
        x.hours(1);
        Due.is("silent in the hour 25", x.conventOf(1, 7), 0);
    }

    // Promise 11

    @Says(promise = 11, value = "Throws `IndexOutOfBoundsException` if there is no such ridge")
    static void ridgeOfNoRidge() {
        isNoRidge((y, ridge) -> y.ridgeOf(ridge, 0));
        isNoRidge((y, ridge) -> y.ridgeOf(ridge, 1));
    }

    @Says(promise = 11, value = "Throws `IllegalArgumentException` if what is not from 0 to 1")
    static void ridgeOfNoNumber() {
        for (int wrong : new int[] {-1, 2, LEAST, MOST}) {
            Edge.isThrown("what " + wrong, NO_ARGUMENT, Given::busy, y -> y.ridgeOf(0, wrong));
            Edge.isThrown("what " + wrong, NO_ARGUMENT, Given::full, y -> y.ridgeOf(4, wrong));
            isNoRidge((y, ridge) -> y.ridgeOf(ridge, wrong));
        }
    }

    @Says(promise = 11, value = "0 for its length, 1 for its wind")
    static void theNumbersOfTheFirstAndOfTheLastRidge() {
        BellTelegraph x = new BellTelegraph();
        for (int k = 0; k < 6; k++) {
            x.convent(5, 5, k + 4);
        }
        x.wind(4, 9);
        Due.is("the length of the first one", x.ridgeOf(0, 0), 5);
        Due.is("the wind of the first one", x.ridgeOf(0, 1), 0);
        Due.is("the length of the last one", x.ridgeOf(4, 0), 9);
        Due.is("the wind of the last one", x.ridgeOf(4, 1), 9);
    }

    // Promise 12

    @Says(promise = 12, value = "Throws `IllegalArgumentException` if there is no such sign")
    static void psalmOfNoSign() {
        for (int wrong : new int[] {0, 9, -1, LEAST, MOST}) {
            Edge.isThrown("the sign " + wrong, NO_ARGUMENT, Given::full, y -> y.psalm(wrong));
            Edge.isThrown("the sign " + wrong, NO_ARGUMENT, BellTelegraph::new, y -> y.psalm(wrong));
        }
    }

    @Says(promise = 12, value = "Returns the psalm, or 0 if it has none.")
    static void thePsalmOfTheFirstAndOfTheLastSign() {
        BellTelegraph x = new BellTelegraph();
        Due.is("the sign 1 that has none", x.psalm(1), 0);
        Due.is("the sign 8 that has none", x.psalm(8), 0);
        x.code(1, 150);
        x.code(8, 1);
        Due.is("the sign 1 with the greatest psalm", x.psalm(1), 150);
        Due.is("the sign 8 with the least psalm", x.psalm(8), 1);
    }

    // Promise 13

    @Says(promise = 13, value = "Throws `IndexOutOfBoundsException` if there is no such message")
    static void messageOfNoMessage() {
        isNoMessage((y, message) -> y.messageOf(message, 0));
        isNoMessage((y, message) -> y.messageOf(message, 8));
    }

    @Says(promise = 13, value = "Throws `IllegalArgumentException` if what is not from 0 to 8")
    static void messageOfNoNumber() {
        for (int wrong : new int[] {-1, 9, LEAST, MOST}) {
            Edge.isThrown("what " + wrong, NO_ARGUMENT, Given::busy, y -> y.messageOf(0, wrong));
            Edge.isThrown("what " + wrong, NO_ARGUMENT, Given::full, y -> y.messageOf(15, wrong));
            isNoMessage((y, message) -> y.messageOf(message, wrong));
        }
    }

    private static void isMessage(BellTelegraph x, int message, int... due) {
        for (int what = 0; what < due.length; what++) {
            Due.is("messageOf(" + message + ", " + what + ")", x.messageOf(message, what), due[what]);
        }
    }

    @Says(promise = 13, value = "0 for the convent from which it is, 1 for the one to which it is, 2 for the one at which it is, or was dropped")
    static void theConventsOfAMessageAreFrom0To5() {
        BellTelegraph x = Given.codedRow(6);
        x.send(0, 5, 1);
        x.send(5, 0, 1);
        isMessage(x, 0, 0, 5, 0);
        isMessage(x, 1, 5, 0, 5);
        x.hours(4);
        isMessage(x, 0, 0, 5, 4);
        isMessage(x, 1, 5, 0, 1);
        x.drop(1);
        x.hours(1);
        isMessage(x, 0, 0, 5, 5);
        isMessage(x, 1, 5, 0, 1);
    }

    @Says(promise = 13, value = "3 for its signs, 4 for those that are lost, 5 for the place of the sign that is due, from 0, 6 for the hours for which this sign was rung already")
    static void thePlaceIsFrom0To7() {
        BellTelegraph x = Given.codedRow(2);
        x.send(0, 1, 22222222);
        for (int hour = 0; hour < 16; hour++) {
            x.ear(1, hour < 8 ? 9 : 0);
            isMessage(x, 0, 0, 1, 0, 8, Math.max(0, hour / 2 - 4), hour / 2, hour % 2, 0, 0);
            x.hours(1);
        }
        isMessage(x, 0, 0, 1, 1, 8, 4, 0, 0, 1, 0);
    }

    @Says(promise = 13, value = "8 for the hour in which it was sent")
    static void theHourOfAMessageIsNotThatOfTheDay() {
        BellTelegraph x = Given.codedRow(2);
        x.send(0, 1, 1);
        x.hours(24);
        x.send(0, 1, 1);
        x.hours(1);
        Due.is("one of the first hour", x.messageOf(0, 8), 0);
        Due.is("one past midnight", x.messageOf(1, 8), 24);
    }

    // Promise 14

    @Says(promise = 14, value = "Throws `IndexOutOfBoundsException` if there is no such message or place")
    static void signOfNoMessage() {
        isNoMessage((y, message) -> y.sign(message, 0));
        isNoMessage((y, message) -> y.sign(message, -1));
    }

    @Says(promise = 14, value = "`place`: its place, from 0")
    static void signAtNoPlace() {
        for (int wrong : new int[] {-1, 2, LEAST, MOST}) {
            Edge.isThrown("the place " + wrong, NO_INDEX, Given::busy, y -> y.sign(1, wrong));
        }
        BellTelegraph x = Given.codedRow(2);
        x.send(0, 1, 12345678);
        x.send(0, 1, 3);
        Due.is("the last of 8 signs", x.sign(0, 7), 8);
        Due.is("the first of 8 signs", x.sign(0, 0), 1);
        Due.isThrown("the place behind the last one", NO_INDEX, () -> x.sign(0, 8));
        Due.is("the only sign", x.sign(1, 0), 3);
        Due.isThrown("the place behind the only one", NO_INDEX, () -> x.sign(1, 1));
    }

    @Says(promise = 14, value = "Returns the sign, or 0 if it is lost.")
    static void aLostSignIs0AtTheFirstAndAtTheLastPlace() {
        BellTelegraph x = Given.codedRow(2);
        x.send(0, 1, 15151515);
        for (int hour = 0; hour < 8; hour++) {
            x.ear(1, hour == 0 || hour == 7 ? 0 : 9);
            x.hours(1);
        }
        int[] due = {0, 5, 1, 5, 1, 5, 1, 0};
        for (int place = 0; place < 8; place++) {
            Due.is("the sign at the place " + place, x.sign(0, place), due[place]);
        }
    }

    // Promise 15

    @Says(promise = 15, value = "Throws `IndexOutOfBoundsException` if there is no such message")
    static void signsOfNoMessage() {
        isNoMessage((y, message) -> y.signs(message));
    }

    @Says(promise = 15, value = "bit k for the sign k.")
    static void theBitsAreThoseOfTheSigns1To8() {
        BellTelegraph x = Given.codedRow(2);
        x.send(0, 1, 1);
        x.send(0, 1, 8);
        x.send(0, 1, 12345678);
        x.send(0, 1, 33333333);
        Due.is("the least sign", x.signs(0), 2);
        Due.is("the greatest sign", x.signs(1), 256);
        Due.is("all signs", x.signs(2), 510);
        Due.is("one sign eight times", x.signs(3), 8);
    }

    @Says(promise = 15, value = "Returns which signs a message still has.")
    static void aMessageMayHaveNoSignsAnyMore() {
        BellTelegraph x = Given.codedRow(2);
        x.ear(1, 0);
        x.send(0, 1, 151);
        x.hours(1);
        Due.is("one of two 1 is lost", x.signs(0), 2 + 32);
        x.hours(1);
        Due.is("the only 5 is lost", x.signs(0), 2);
        x.hours(1);
        Due.is("all are lost", x.signs(0), 0);
    }

    // Promise 16

    @Says(promise = 16, value = "Throws `IndexOutOfBoundsException` if there is no such convent")
    static void waitingAtNoConvent() {
        isNoConvent((y, convent) -> y.waiting(convent, 0));
        isNoConvent((y, convent) -> y.waiting(convent, -1));
    }

    @Says(promise = 16, value = "Throws `NoSuchElementException` if there is no such place")
    static void waitingAtNoPlace() {
        for (int wrong : new int[] {-1, 2, LEAST, MOST}) {
            Edge.isThrown("the place " + wrong, NO_ELEMENT, Given::busy, y -> y.waiting(1, wrong));
        }
        Edge.isThrown("the first place where none waits", NO_ELEMENT, Given::busy, y -> y.waiting(0, 0));
        Edge.isThrown("the first place without messages", NO_ELEMENT, Given::busyWithoutMessages, y -> y.waiting(2, 0));
    }

    @Says(promise = 16, value = "its place, from 0 for the first one")
    static void theLastPlaceIs15() {
        BellTelegraph x = Given.codedRow(2);
        for (int k = 0; k < 16; k++) {
            x.send(1, 0, 1);
        }
        for (int place = 0; place < 16; place++) {
            Due.is("the one at the place " + place, x.waiting(1, place), place);
        }
        Due.isThrown("the place 16", NO_ELEMENT, () -> x.waiting(1, 16));
        x.hours(15);
        Due.is("the only one at last", x.waiting(1, 0), 15);
        Due.isThrown("the place behind it", NO_ELEMENT, () -> x.waiting(1, 1));
    }

    // Promise 17

    @Says(promise = 17, value = "Throws `NoSuchElementException` if there is no such place")
    static void arrivedAtNoPlace() {
        for (int wrong : new int[] {-1, 1, LEAST, MOST}) {
            Edge.isThrown("the place " + wrong, NO_ELEMENT, Given::busy, y -> y.arrived(wrong));
        }
        Edge.isThrown("the first place of none that arrived", NO_ELEMENT, Given::full, y -> y.arrived(0));
        Edge.isThrown("the first place without messages", NO_ELEMENT, BellTelegraph::new, y -> y.arrived(0));
    }

    @Says(promise = 17, value = "its place in the order in which they arrived, from 0")
    static void all16Arrive() {
        BellTelegraph x = Given.codedRow(2);
        for (int k = 0; k < 16; k++) {
            x.send(k % 2, 1 - k % 2, k < 2 ? 4 : 1);
        }
        x.hours(96);
        for (int place = 0; place < 16; place++) {
            Due.is("the one at the place " + place, x.arrived(place), place);
        }
        Due.isThrown("the place 16", NO_ELEMENT, () -> x.arrived(16));
    }

    // Promises 18 and 19

    @Says(promise = 18, value = "Throws `IndexOutOfBoundsException` if there is no such convent")
    static void strengthOfNoConvent() {
        isNoConvent((y, convent) -> y.strength(convent, true));
        isNoConvent((y, convent) -> y.strength(convent, false));
    }

    @Says(promise = 18, value = "Throws `NoSuchElementException` if there is no next one")
    static void strengthAtNoNextConvent() {
        Edge.isThrown("up from the last", NO_ELEMENT, Given::busy, y -> y.strength(2, true));
        Edge.isThrown("up from the sixth", NO_ELEMENT, Given::full, y -> y.strength(5, true));
        Edge.isThrown("down from the first", NO_ELEMENT, Given::busy, y -> y.strength(0, false));
        Edge.isThrown("up from the only one", NO_ELEMENT, () -> Given.row(1), y -> y.strength(0, true));
        Edge.isThrown("down from the only one", NO_ELEMENT, () -> Given.row(1), y -> y.strength(0, false));
    }

    @Says(promise = 18, value = "`isUp`: whether the next one is that with the greater number")
    static void strengthUpFromTheFirstAndDownFromTheLast() {
        BellTelegraph x = Given.row(6);
        x.ear(1, 1);
        x.ear(4, 3);
        Due.is("up from the first", x.strength(0, true), 24 + 1 - 2);
        Due.is("down from the last", x.strength(5, false), 24 + 3 - 2);
        Due.is("down to the first", x.strength(1, false), 24 + 9 - 2);
        Due.is("up to the last", x.strength(4, true), 24 + 9 - 2);
    }

    @Says(promise = 18, value = "Returns the strength, which may be below 0.")
    static void theStrengthIsBelow0And0() {
        BellTelegraph x = new BellTelegraph();
        x.convent(0, 5, 1);
        x.convent(6, 0, 9);
        x.wind(0, 6);
        Due.is("the strength 0", x.strength(0, true), 0);
        x.wind(0, 7);
        Due.is("the strength -1", x.strength(0, true), -1);
        Due.is("the strength of the last one down", x.strength(1, false), -2);
    }

    @Says(promise = 19, value = "Throws `IndexOutOfBoundsException` if there is no such convent")
    static void hearsOfNoConvent() {
        isNoConvent((y, convent) -> y.hears(convent, true) ? 1 : 0);
        isNoConvent((y, convent) -> y.hears(convent, false) ? 1 : 0);
    }

    @Says(promise = 19, value = "Throws `NoSuchElementException` if there is no next one")
    static void hearsOfNoNextConvent() {
        Edge.isThrown("up from the last", NO_ELEMENT, Given::busy, y -> y.hears(2, true) ? 1 : 0);
        Edge.isThrown("up from the sixth", NO_ELEMENT, Given::full, y -> y.hears(5, true) ? 1 : 0);
        Edge.isThrown("down from the first", NO_ELEMENT, Given::busy, y -> y.hears(0, false) ? 1 : 0);
        Edge.isThrown("up from the only one", NO_ELEMENT, () -> Given.row(1), y -> y.hears(0, true) ? 1 : 0);
        Edge.isThrown("down from the only one", NO_ELEMENT, () -> Given.row(1), y -> y.hears(0, false) ? 1 : 0);
    }

    @Says(promise = 19, value = "`isUp`: whether the next one is that with the greater number")
    static void hearsUpFromTheFirstAndDownFromTheLast() {
        BellTelegraph x = Given.row(6);
        x.ear(1, 0);
        x.ear(4, 0);
        Due.isTrue("up from the first", !x.hears(0, true));
        Due.isTrue("down from the last", !x.hears(5, false));
        Due.isTrue("down to the first", x.hears(1, false));
        Due.isTrue("up to the last", x.hears(4, true));
    }

    @Says(promise = 19, value = "whether the listener of the next convent would hear the bell of a convent now.")
    static void aSilentBellWouldBeHeard() {
        BellTelegraph x = Given.row(2);
        x.silence(0, 0, 23);
        x.silence(1, 0, 23);
        Due.isTrue("the bell of the first one is heard", x.hears(0, true));
        Due.isTrue("the bell of the last one is heard", x.hears(1, false));
    }

    // Promise 20

    @Says(promise = 20, value = "Throws `IndexOutOfBoundsException` if there is no such ridge")
    static void windInOfNoRidge() {
        isNoRidge((y, ridge) -> y.windIn(ridge, 0));
        isNoRidge((y, ridge) -> y.windIn(ridge, 201));
    }

    @Says(promise = 20, value = "Throws `IllegalArgumentException` if the number is out of range")
    static void windInHoursOutOfRange() {
        for (int wrong : new int[] {-1, 201, LEAST, MOST}) {
            Edge.isThrown(wrong + " hours", NO_ARGUMENT, Given::busy, y -> y.windIn(0, wrong));
            Edge.isThrown(wrong + " hours", NO_ARGUMENT, Given::full, y -> y.windIn(4, wrong));
        }
    }

    @Says(promise = 20, value = "how many, 0 to 200")
    static void windInFrom0To200Hours() {
        BellTelegraph x = Given.row(6);
        x.wind(4, 7);
        Due.is("in 0 hours", x.windIn(4, 0), 7);
        Due.is("in 200 hours, behind 33 turns", x.windIn(0, 200), 1);
        x.hours(3);
        Due.is("in 200 hours from the hour 3, behind 33 turns", x.windIn(0, 200), 1);
        x.hours(1);
        Due.is("in 200 hours from the hour 4, behind 34 turns", x.windIn(0, 200), 4);
        Due.is("in 199 hours from the hour 4, behind 33 turns", x.windIn(0, 199), 1);
        Due.is("the wind now", x.ridgeOf(0, 1), 0);
    }

    @Says(promise = 20, value = "Returns the wind of a ridge after some hours.")
    static void windInTurnsWhenTheHourBegins() {
        BellTelegraph x = Given.row(6);
        x.wind(4, 5);
        Due.is("in 5 hours from the hour 0", x.windIn(4, 5), 5);
        Due.is("in 6 hours from the hour 0", x.windIn(4, 6), 0);
        x.hours(5);
        Due.is("in 0 hours from the hour 5", x.windIn(4, 0), 5);
        Due.is("in 1 hour from the hour 5", x.windIn(4, 1), 0);
        x.hours(1);
        Due.is("in 0 hours from the hour 6", x.windIn(4, 0), 0);
        Due.is("in 5 hours from the hour 6", x.windIn(4, 5), 0);
        Due.is("in 6 hours from the hour 6", x.windIn(4, 6), 5);
        Due.is("in 12 hours from the hour 6", x.windIn(4, 12), 0);
    }

    // Promises 21 and 22

    @Says(promise = 21, value = "Throws `IndexOutOfBoundsException` if there is no such message")
    static void arrivesInOfNoMessage() {
        isNoMessage((y, message) -> y.arrivesIn(message));
    }

    @Says(promise = 22, value = "Throws `IndexOutOfBoundsException` if there is no such message")
    static void wouldLoseOfNoMessage() {
        isNoMessage((y, message) -> y.wouldLose(message));
    }

    @Says(promise = 21, value = "Throws `NoSuchElementException` if it is not under way, or not arrived after 400 hours")
    static void arrivesInOfAMessageNotUnderWay() {
        Edge.isThrown("one that arrived", NO_ELEMENT, Given::busy, y -> y.arrivesIn(0));
        Edge.isThrown("one that was dropped", NO_ELEMENT, Given::busy, y -> y.arrivesIn(2));
    }

    @Says(promise = 22, value = "Throws `NoSuchElementException` if it is not under way, or not arrived after 400 hours")
    static void wouldLoseOfAMessageNotUnderWay() {
        Edge.isThrown("one that arrived", NO_ELEMENT, Given::busy, y -> y.wouldLose(0));
        Edge.isThrown("one that was dropped", NO_ELEMENT, Given::busy, y -> y.wouldLose(2));
    }

    /** A message of 17 hours at a convent that rings in one hour of each day, 15 or 16, from the hour 0 on. */
    private static BellTelegraph slow(int hourOfDay) {
        BellTelegraph x = Given.codedRow(2);
        x.ear(1, 0);
        x.silence(0, hourOfDay + 1, hourOfDay);
        x.send(0, 1, 44441);
        return x;
    }

    @Says(promise = 21, value = "or not arrived after 400 hours")
    static void arrivesInAtMost400Hours() {
        Due.is("in 400 hours", slow(15).arrivesIn(0), 400);
        Edge.isThrown("in 401 hours", NO_ELEMENT, () -> slow(16), y -> y.arrivesIn(0));
        BellTelegraph x = slow(16);
        x.hours(1);
        Due.is("in 400 hours of 401", x.arrivesIn(0), 400);
        x.silence(0, 0, 0);
        Due.is("without silence", x.arrivesIn(0), 17);
    }

    @Says(promise = 22, value = "or not arrived after 400 hours")
    static void wouldLoseInAtMost400Hours() {
        Due.is("in 400 hours", slow(15).wouldLose(0), 5);
        Edge.isThrown("in 401 hours", NO_ELEMENT, () -> slow(16), y -> y.wouldLose(0));
        BellTelegraph x = slow(16);
        x.hours(1);
        Due.is("in 400 hours of 401", x.wouldLose(0), 5);
    }

    @Says(promise = 21, value = "Returns after how many hours a message is arrived, if nothing but hours go by.")
    static void aMessageArrivesInOneHourAtLeast() {
        BellTelegraph x = Given.codedRow(6);
        x.send(0, 1, 1);
        x.send(5, 0, 44444444);
        Due.is("the shortest way", x.arrivesIn(0), 1);
        Due.is("the longest way", x.arrivesIn(1), 5 * 8 * 4);
        x.hours(96);
        Due.is("the rest of the longest way", x.arrivesIn(1), 64);
        x.hours(63);
        Due.is("the last hour of the longest way", x.arrivesIn(1), 1);
        Due.is("what arrives in it", x.hours(1), 1);
    }

    @Says(promise = 22, value = "Returns how many signs of a message are lost when it is arrived, if nothing but hours go by.")
    static void aMessageWouldLoseNoneOrAll() {
        BellTelegraph x = Given.codedRow(3);
        x.send(0, 1, 15151515);
        x.send(1, 2, 15151515);
        x.ear(2, 0);
        Due.is("none", x.wouldLose(0), 0);
        Due.is("all", x.wouldLose(1), 8);
        x.hours(7);
        Due.is("all, when most of them are lost", x.wouldLose(1), 8);
        x.ear(2, 9);
        Due.is("all but the last one", x.wouldLose(1), 7);
        Due.is("those that are lost now", x.messageOf(1, 4), 7);
    }

    @Says(promise = 21, value = "if nothing but hours go by.")
    static void askingLetsNoHourGoBy() {
        BellTelegraph x = Given.busy();
        x.arrivesIn(1);
        x.wouldLose(3);
        x.windIn(0, 200);
        Due.isText("what is seen", Given.seen(x), Given.seen(Given.busy()));
    }

    // Promise 23

    @Says(promise = 23, value = "`rank`: the rank, from 0")
    static void theFirstRankIs0() {
        BellTelegraph x = Given.codedRow(2);
        x.send(0, 1, 4);
        Due.is("the only rank", x.ranked(0), 0);
        Due.isThrown("the rank behind it", NO_ELEMENT, () -> x.ranked(1));
        Due.isThrown("the rank ahead of it", NO_ELEMENT, () -> x.ranked(-1));
    }

    @Says(promise = 23, value = "Throws `NoSuchElementException` if there is no such rank")
    static void rankedAtNoRank() {
        for (int wrong : new int[] {-1, 2, LEAST, MOST}) {
            Edge.isThrown("the rank " + wrong, NO_ELEMENT, Given::busy, y -> y.ranked(wrong));
        }
        Edge.isThrown("the rank 16", NO_ELEMENT, Given::full, y -> y.ranked(16));
        Edge.isThrown("the first rank without messages", NO_ELEMENT, BellTelegraph::new, y -> y.ranked(0));
        Edge.isThrown("the first rank when none is under way", NO_ELEMENT, AskEdgeTest::noneUnderWay, y -> y.ranked(0));
    }

    private static BellTelegraph noneUnderWay() {
        BellTelegraph x = Given.codedRow(2);
        x.send(0, 1, 1);
        x.send(0, 1, 1);
        x.drop(1);
        x.hours(1);
        return x;
    }

    @Says(promise = 23, value = "the one with most first, of several the one that was sent first, of these the lowest one.")
    static void theRanksOf16MessagesWithAsManyLostSigns() {
        BellTelegraph x = Given.codedRow(2);
        for (int k = 0; k < 16; k++) {
            x.send(0, 1, 4);
        }
        for (int rank = 0; rank < 16; rank++) {
            Due.is("the rank " + rank, x.ranked(rank), rank);
        }
        x.drop(0);
        Due.is("the first rank when the first one is dropped", x.ranked(0), 1);
        Due.isThrown("the last rank then", NO_ELEMENT, () -> x.ranked(15));
    }

    @Says(promise = 23, value = "the one with most first, of several the one that was sent first, of these the lowest one.")
    static void theOneWithMostLostSignsIsAheadOfTheOneSentFirst() {
        BellTelegraph x = Given.codedRow(3);
        x.ear(2, 0);
        x.send(0, 1, 44);
        x.hours(1);
        x.send(1, 2, 1555);
        x.send(0, 1, 1);
        x.hours(1);
        int[] due = {1, 0, 2};
        for (int rank = 0; rank < 3; rank++) {
            Due.is("the rank " + rank, x.ranked(rank), due[rank]);
        }
    }

    // Promises 24 and 25

    @Says(promise = 24, value = "Returns how many signs were lost so far, listener by listener.")
    static void from0To128SignsAreLostAtListeners() {
        Due.is("of nothing", new BellTelegraph().lost(), 0);
        Due.is("of what is not rung yet", Given.full().lost(), 0);
        Due.is("of all", allLost().lost(), 128);
    }

    @Says(promise = 25, value = "by the signs of all messages that are lost.")
    static void from0To128SignsOfMessagesAreLost() {
        Due.is("of nothing", new BellTelegraph().lostAgain(), 0);
        Due.is("of what is not rung yet", Given.full().lostAgain(), 0);
        Due.is("of all", allLost().lostAgain(), 128);
    }

    /** Sixteen messages of eight signs, all of which are lost, at the first and at the last convent. */
    private static BellTelegraph allLost() {
        BellTelegraph x = Given.codedRow(6);
        x.ear(0, 0);
        x.ear(5, 0);
        for (int k = 0; k < 16; k++) {
            x.send(k % 2 == 0 ? 1 : 4, k % 2 == 0 ? 0 : 5, 15151515);
        }
        x.hours(64);
        Due.is("those that arrived", x.account(6), 16);
        Due.is("lost at the first convent", x.conventOf(0, 6), 64);
        Due.is("lost at the last convent", x.conventOf(5, 6), 64);
        return x;
    }

    @Says(promise = 25, value = "by the signs of all messages that are lost.")
    static void signsOfDroppedMessagesStayLost() {
        BellTelegraph x = Given.codedRow(2);
        x.ear(1, 0);
        x.send(0, 1, 14);
        x.hours(2);
        x.drop(0);
        Due.is("lost by the message", x.lostAgain(), 1);
        Due.is("lost at the listener", x.lost(), 1);
    }
}
