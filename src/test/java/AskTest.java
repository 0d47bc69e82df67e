import java.util.NoSuchElementException;

/** The promises 10 to 25: what is asked of convents, ridges, signs and messages. */
public final class AskTest {
    private static final int[] BELOW_AND_FAR = {-1, Integer.MIN_VALUE, Integer.MAX_VALUE};

    public static void main(String[] args) {
        conventOf();
        ridgeOf();
        psalm();
        messageOf();
        sign();
        signs();
        waiting();
        arrived();
        strength();
        hears();
        windIn();
        arrivesIn();
        arrivesInAtMostSoManyHours();
        wouldLose();
        ranked();
        rankedByTheHour();
        lost();
        askingChangesNothing();
        Due.end("AskTest");
    }

    private static void conventOf() {
        BellTelegraph x = Given.codedRow(3);
        x.convent(7, 0, 1);
        x.silence(1, 2, 23);
        x.ear(1, 0);
        x.send(0, 2, 12);
        x.send(1, 3, 4);
        x.send(1, 3, 1);
        x.hours(2);
        int[] due = {0, 0, 2, 23, 2, 2, 1, 1};
        for (int what = 0; what <= 7; what++) {
            Due.is("conventOf(1, " + what + ")", x.conventOf(1, what), due[what]);
        }
        int[] last = {7, 0, 0, 0, 0, 0, 0, 0};
        for (int what = 0; what <= 7; what++) {
            Due.is("conventOf(3, " + what + ")", x.conventOf(3, what), last[what]);
        }
        for (int wrong : BELOW_AND_FAR) {
            Due.isThrown("no such convent", IndexOutOfBoundsException.class, () -> x.conventOf(wrong, 0));
            Due.isThrown("no such convent and number", IndexOutOfBoundsException.class, () -> x.conventOf(wrong, 8));
            Due.isThrown("no such number", IllegalArgumentException.class, () -> x.conventOf(0, wrong));
        }
        Due.isThrown("the convent behind the last", IndexOutOfBoundsException.class, () -> x.conventOf(4, 0));
        Due.isThrown("the number 8", IllegalArgumentException.class, () -> x.conventOf(3, 8));
    }

    private static void ridgeOf() {
        BellTelegraph x = Given.row(2);
        x.convent(1, 1, 6);
        x.wind(1, 8);
        Due.is("the length of the ridge 0", x.ridgeOf(0, 0), 1);
        Due.is("the wind of the ridge 0", x.ridgeOf(0, 1), 0);
        Due.is("the length of the ridge 1", x.ridgeOf(1, 0), 6);
        Due.is("the wind of the ridge 1", x.ridgeOf(1, 1), 8);
        for (int wrong : BELOW_AND_FAR) {
            Due.isThrown("no such ridge", IndexOutOfBoundsException.class, () -> x.ridgeOf(wrong, 0));
            Due.isThrown("no such ridge and number", IndexOutOfBoundsException.class, () -> x.ridgeOf(wrong, 2));
            Due.isThrown("no such number", IllegalArgumentException.class, () -> x.ridgeOf(0, wrong));
        }
        Due.isThrown("the ridge behind the last", IndexOutOfBoundsException.class, () -> x.ridgeOf(2, 0));
        Due.isThrown("the number 2", IllegalArgumentException.class, () -> x.ridgeOf(1, 2));
        BellTelegraph y = Given.row(1);
        Due.isThrown("a ridge of one convent", IndexOutOfBoundsException.class, () -> y.ridgeOf(0, 0));
    }

    private static void psalm() {
        BellTelegraph x = new BellTelegraph();
        x.code(1, 99);
        x.code(8, 150);
        Due.is("the psalm of the sign 1", x.psalm(1), 99);
        Due.is("the psalm of the sign 8", x.psalm(8), 150);
        Due.is("the psalm of a sign that has none", x.psalm(7), 0);
        for (int wrong : new int[] {0, 9, -1, Integer.MIN_VALUE, Integer.MAX_VALUE}) {
            Due.isThrown("the sign " + wrong, IllegalArgumentException.class, () -> x.psalm(wrong));
        }
    }

    private static void messageOf() {
        BellTelegraph x = Given.codedRow(4);
        x.hours(7);
        x.send(0, 3, 1234);
        x.send(3, 0, 1);
        x.ear(1, 0);
        x.hours(5);
        isMessage(x, 0, 0, 3, 0, 4, 2, 2, 2, 0, 7);
        x.hours(7);
        isMessage(x, 0, 0, 3, 1, 4, 4, 2, 0, 0, 7);
        x.drop(0);
        isMessage(x, 0, 0, 3, 1, 4, 4, 2, 0, 2, 7);
        isMessage(x, 1, 3, 0, 0, 1, 1, 0, 0, 1, 7);
        for (int wrong : BELOW_AND_FAR) {
            Due.isThrown("no such message", IndexOutOfBoundsException.class, () -> x.messageOf(wrong, 0));
            Due.isThrown("no such message and number", IndexOutOfBoundsException.class, () -> x.messageOf(wrong, 9));
            Due.isThrown("no such number", IllegalArgumentException.class, () -> x.messageOf(0, wrong));
        }
        Due.isThrown("the message behind the last", IndexOutOfBoundsException.class, () -> x.messageOf(2, 0));
        Due.isThrown("the number 9", IllegalArgumentException.class, () -> x.messageOf(1, 9));
    }

    private static void isMessage(BellTelegraph x, int message, int... due) {
        for (int what = 0; what < due.length; what++) {
            Due.is("messageOf(" + message + ", " + what + ")", x.messageOf(message, what), due[what]);
        }
    }

    private static void sign() {
        BellTelegraph x = Given.codedRow(2);
        x.send(0, 1, 8151);
        x.send(0, 1, 3);
        x.hours(4);
        x.ear(1, 0);
        x.hours(1);
        int[] due = {8, 0, 5, 1};
        for (int place = 0; place < 4; place++) {
            Due.is("the sign " + place, x.sign(0, place), due[place]);
        }
        Due.is("the sign of another message", x.sign(1, 0), 3);
        for (int wrong : BELOW_AND_FAR) {
            Due.isThrown("no such message", IndexOutOfBoundsException.class, () -> x.sign(wrong, 0));
            Due.isThrown("no such place", IndexOutOfBoundsException.class, () -> x.sign(0, wrong));
        }
        Due.isThrown("the message behind the last", IndexOutOfBoundsException.class, () -> x.sign(2, 0));
        Due.isThrown("the place behind the last", IndexOutOfBoundsException.class, () -> x.sign(0, 4));
        Due.isThrown("the place behind the only one", IndexOutOfBoundsException.class, () -> x.sign(1, 1));
    }

    private static void signs() {
        BellTelegraph x = Given.codedRow(2);
        x.send(0, 1, 8118);
        x.send(0, 1, 2);
        Due.is("the signs 1 and 8", x.signs(0), 1 << 1 | 1 << 8);
        Due.is("the sign 2", x.signs(1), 1 << 2);
        x.ear(1, 0);
        x.hours(4);
        Due.is("the signs when the first of two 8 is lost", x.signs(0), 1 << 1 | 1 << 8);
        x.hours(2);
        Due.is("the signs when both 1 are lost", x.signs(0), 1 << 8);
        x.hours(4);
        Due.is("the signs when all are lost", x.signs(0), 0);
        for (int wrong : BELOW_AND_FAR) {
            Due.isThrown("no such message", IndexOutOfBoundsException.class, () -> x.signs(wrong));
        }
        Due.isThrown("the message behind the last", IndexOutOfBoundsException.class, () -> x.signs(2));
    }

    private static void waiting() {
        BellTelegraph x = Given.codedRow(2);
        x.send(1, 0, 1);
        x.send(0, 1, 1);
        x.send(1, 0, 1);
        Due.is("the first one at 1", x.waiting(1, 0), 0);
        Due.is("the second one at 1", x.waiting(1, 1), 2);
        Due.is("the one at 0", x.waiting(0, 0), 1);
        for (int wrong : BELOW_AND_FAR) {
            Due.isThrown("no such convent", IndexOutOfBoundsException.class, () -> x.waiting(wrong, 0));
            Due.isThrown("no such convent and place", IndexOutOfBoundsException.class, () -> x.waiting(wrong, -1));
            Due.isThrown("no such place", NoSuchElementException.class, () -> x.waiting(1, wrong));
        }
        Due.isThrown("the convent behind the last", IndexOutOfBoundsException.class, () -> x.waiting(2, 0));
        Due.isThrown("the place behind the last", NoSuchElementException.class, () -> x.waiting(1, 2));
        x.drop(1);
        Due.isThrown("a place where none waits", NoSuchElementException.class, () -> x.waiting(0, 0));
    }

    private static void arrived() {
        BellTelegraph x = Given.codedRow(2);
        x.send(0, 1, 4);
        x.send(1, 0, 1);
        x.send(1, 0, 1);
        x.drop(2);
        Due.isThrown("one ahead of all arrivals", NoSuchElementException.class, () -> x.arrived(0));
        x.hours(4);
        Due.is("the first one", x.arrived(0), 1);
        Due.is("the second one", x.arrived(1), 0);
        for (int wrong : BELOW_AND_FAR) {
            Due.isThrown("no such place", NoSuchElementException.class, () -> x.arrived(wrong));
        }
        Due.isThrown("the place behind the last", NoSuchElementException.class, () -> x.arrived(2));
    }

    private static BellTelegraph unlikeRow() {
        BellTelegraph x = new BellTelegraph();
        x.convent(9, 0, 5);
        x.convent(3, 8, 2);
        x.convent(1, 1, 9);
        x.wind(0, 4);
        x.wind(1, 9);
        return x;
    }

    private static void strength() {
        BellTelegraph x = unlikeRow();
        Due.is("from 0 up", x.strength(0, true), 24 - 9 + 8 - 4 - 4);
        Due.is("from 1 down", x.strength(1, false), 24 - 3 - 4 - 4);
        Due.is("from 1 up", x.strength(1, true), 24 - 3 + 1 - 18 - 9);
        Due.is("from 2 down", x.strength(2, false), 24 - 1 + 8 - 18 - 9);
        for (int wrong : BELOW_AND_FAR) {
            Due.isThrown("no such convent", IndexOutOfBoundsException.class, () -> x.strength(wrong, true));
            Due.isThrown("no such convent, down", IndexOutOfBoundsException.class, () -> x.strength(wrong, false));
        }
        Due.isThrown("the convent behind the last", IndexOutOfBoundsException.class, () -> x.strength(3, false));
        Due.isThrown("up from the last", NoSuchElementException.class, () -> x.strength(2, true));
        Due.isThrown("down from the first", NoSuchElementException.class, () -> x.strength(0, false));
    }

    private static void hears() {
        BellTelegraph x = unlikeRow();
        Due.isTrue("15 is heard", x.hears(0, true));
        Due.isTrue("a deaf one does not hear 13", !x.hears(1, false));
        Due.isTrue("-5 is not heard", !x.hears(1, true));
        Due.isTrue("4 is not heard", !x.hears(2, false));
        x.wind(0, 9);
        Due.isTrue("10 is heard", x.hears(0, true));
        x.ear(1, 7);
        Due.isTrue("9 is not heard", !x.hears(0, true));
        x.ear(0, 1);
        x.wind(0, 7);
        Due.is("the strength down", x.strength(1, false), 11);
        Due.isTrue("one with the ear 1 hears 11", x.hears(1, false));
        for (int wrong : BELOW_AND_FAR) {
            Due.isThrown("no such convent", IndexOutOfBoundsException.class, () -> x.hears(wrong, true) ? 1 : 0);
            Due.isThrown("no such convent, down", IndexOutOfBoundsException.class, () -> x.hears(wrong, false) ? 1 : 0);
        }
        Due.isThrown("the convent behind the last", IndexOutOfBoundsException.class, () -> x.hears(3, false) ? 1 : 0);
        Due.isThrown("up from the last", NoSuchElementException.class, () -> x.hears(2, true) ? 1 : 0);
        Due.isThrown("down from the first", NoSuchElementException.class, () -> x.hears(0, false) ? 1 : 0);
    }

    private static void windIn() {
        BellTelegraph x = Given.row(3);
        x.wind(0, 5);
        x.wind(1, 1);
        Due.is("after 0 hours", x.windIn(0, 0), 5);
        Due.is("after 5 hours", x.windIn(0, 5), 5);
        Due.is("after 6 hours", x.windIn(0, 6), 6);
        Due.is("after 11 hours", x.windIn(0, 11), 6);
        Due.is("after 12 hours", x.windIn(0, 12), 9);
        Due.is("of the ridge 1 after 6 hours", x.windIn(1, 6), 5);
        Due.is("of the ridge 1 after 12 hours", x.windIn(1, 12), 7);
        x.hours(5);
        Due.is("from the hour 5 after 1 hour", x.windIn(0, 1), 6);
        Due.is("from the hour 5 after 6 hours", x.windIn(0, 6), 6);
        Due.is("from the hour 5 after 7 hours", x.windIn(0, 7), 9);
        Due.is("the wind now", x.ridgeOf(0, 1), 5);
        int later = x.windIn(0, 192);
        int latest = x.windIn(0, 200);
        x.hours(96);
        x.hours(96);
        Due.is("192 hours later", x.ridgeOf(0, 1), later);
        x.hours(8);
        Due.is("200 hours later", x.ridgeOf(0, 1), latest);
        for (int wrong : BELOW_AND_FAR) {
            Due.isThrown("no such ridge", IndexOutOfBoundsException.class, () -> x.windIn(wrong, 0));
            Due.isThrown("no such ridge and hours", IndexOutOfBoundsException.class, () -> x.windIn(wrong, 201));
            Due.isThrown("hours out of range", IllegalArgumentException.class, () -> x.windIn(0, wrong));
        }
        Due.isThrown("the ridge behind the last", IndexOutOfBoundsException.class, () -> x.windIn(2, 0));
        Due.isThrown("201 hours", IllegalArgumentException.class, () -> x.windIn(1, 201));
    }

    private static void arrivesIn() {
        BellTelegraph x = Given.codedRow(4);
        x.send(0, 3, 124);
        x.send(0, 1, 1);
        x.send(3, 2, 5);
        x.silence(1, 0, 10);
        Due.is("through a silent convent", x.arrivesIn(0), 10 + 7 + 7);
        Due.is("behind another one", x.arrivesIn(1), 8);
        Due.is("in one hour", x.arrivesIn(2), 1);
        x.hours(3);
        Due.is("three hours later", x.arrivesIn(0), 21);
        Due.isThrown("one that arrived", NoSuchElementException.class, () -> x.arrivesIn(2));
        x.drop(1);
        Due.isThrown("one that was dropped", NoSuchElementException.class, () -> x.arrivesIn(1));
        for (int wrong : BELOW_AND_FAR) {
            Due.isThrown("no such message", IndexOutOfBoundsException.class, () -> x.arrivesIn(wrong));
        }
        Due.isThrown("the message behind the last", IndexOutOfBoundsException.class, () -> x.arrivesIn(3));
        int hours = x.arrivesIn(0);
        Due.is("an hour too few", x.hours(hours - 1), 0);
        Due.is("the last hour", x.hours(1), 1);
    }

    /** At 23 hours of silence a day, a sign of 4 hours is rung in 4 days. */
    private static void arrivesInAtMostSoManyHours() {
        BellTelegraph x = Given.codedRow(2);
        x.silence(0, 16, 15);
        x.send(0, 1, 44441);
        Due.is("arrives in 400 hours", x.arrivesIn(0), 16 * 24 + 16);
        Due.is("loses in 400 hours", x.wouldLose(0), 0);
        x.silence(0, 17, 16);
        Due.isThrown("arrives in 401 hours", NoSuchElementException.class, () -> x.arrivesIn(0));
        Due.isThrown("loses in 401 hours", NoSuchElementException.class, () -> x.wouldLose(0));
        x.hours(1);
        Due.is("arrives in 400 hours after one", x.arrivesIn(0), 400);
    }

    private static void wouldLose() {
        BellTelegraph x = Given.codedRow(3);
        x.ear(1, 0);
        x.send(0, 2, 12);
        x.send(2, 1, 4);
        x.send(1, 2, 33);
        x.send(1, 0, 1);
        Due.is("all at a deaf one", x.wouldLose(0), 2);
        Due.is("one at a deaf one", x.wouldLose(1), 1);
        Due.is("none", x.wouldLose(2), 0);
        x.hours(1);
        x.ear(1, 9);
        Due.is("lost already and lost later", x.messageOf(0, 4), 1);
        Due.is("the second sign is heard", x.wouldLose(0), 1);
        Due.is("rung for an hour to a deaf one", x.wouldLose(1), 1);
        Due.is("the lost ones now", x.lost(), 1);
        x.drop(3);
        Due.isThrown("one that was dropped", NoSuchElementException.class, () -> x.wouldLose(3));
        x.hours(96);
        Due.isThrown("one that arrived", NoSuchElementException.class, () -> x.wouldLose(0));
        for (int wrong : BELOW_AND_FAR) {
            Due.isThrown("no such message", IndexOutOfBoundsException.class, () -> x.wouldLose(wrong));
        }
        Due.isThrown("the message behind the last", IndexOutOfBoundsException.class, () -> x.wouldLose(4));
    }

    private static void ranked() {
        BellTelegraph x = Given.codedRow(4);
        x.ear(3, 0);
        x.send(0, 1, 4);
        x.send(1, 0, 1);
        x.send(2, 3, 14);
        x.send(1, 0, 44);
        x.send(1, 0, 1);
        x.drop(4);
        x.hours(1);
        int[] due = {2, 0, 3};
        for (int rank = 0; rank < due.length; rank++) {
            Due.is("the rank " + rank, x.ranked(rank), due[rank]);
        }
        Due.isThrown("the rank 3", NoSuchElementException.class, () -> x.ranked(3));
        for (int wrong : BELOW_AND_FAR) {
            Due.isThrown("the rank " + wrong, NoSuchElementException.class, () -> x.ranked(wrong));
        }
    }

    private static void rankedByTheHour() {
        BellTelegraph x = Given.codedRow(3);
        x.ear(2, 0);
        x.send(0, 1, 44444);
        x.hours(1);
        x.send(0, 1, 1);
        x.send(1, 2, 144);
        x.hours(1);
        x.send(0, 1, 1);
        x.send(1, 2, 1);
        int[] due = {2, 0, 1, 3, 4};
        for (int rank = 0; rank < due.length; rank++) {
            Due.is("the rank " + rank, x.ranked(rank), due[rank]);
        }
        x.hours(4);
        Due.is("the hour", x.account(0), 6);
        Due.is("two that lost as many", x.messageOf(2, 4), 2);
        Due.is("the first of all then", x.ranked(0), 2);
        Due.is("the second of all then", x.ranked(1), 0);
    }

    private static void lost() {
        BellTelegraph x = Given.codedRow(3);
        x.ear(1, 0);
        x.ear(2, 0);
        x.send(0, 1, 11);
        x.send(0, 2, 121);
        x.send(1, 2, 15);
        x.send(1, 0, 15);
        x.hours(4);
        x.drop(1);
        Due.is("the signs lost at 1", x.conventOf(1, 6), 3);
        Due.is("the signs lost at 2", x.conventOf(2, 6), 2);
        Due.is("lost", x.lost(), 5);
        Due.is("lostAgain", x.lostAgain(), 5);
        x.undo();
        x.undo();
        Due.is("lost after undo", x.lost(), 0);
        Due.is("lostAgain after undo", x.lostAgain(), 0);
    }

    private static void askingChangesNothing() {
        BellTelegraph x = Given.codedRow(3);
        x.send(0, 2, 12);
        x.hours(2);
        String before = Given.state(x);
        x.arrivesIn(0);
        x.wouldLose(0);
        x.windIn(0, 200);
        x.ranked(0);
        x.lost();
        x.lostAgain();
        x.strength(0, true);
        x.hears(0, true);
        x.line(0);
        Due.isText("the state after asking", Given.state(x), before);
        x.undo();
        Due.is("the hour after the undo behind asking", x.account(0), 0);
    }
}
