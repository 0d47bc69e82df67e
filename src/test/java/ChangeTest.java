import java.util.NoSuchElementException;

/** The promises 1 to 8: a new object, and all changes but that hours go by. */
public final class ChangeTest {
    private static final int LEAST = Integer.MIN_VALUE;
    private static final int MOST = Integer.MAX_VALUE;

    public static void main(String[] args) {
        aNewObject();
        convent();
        conventIsRefused();
        code();
        silence();
        silenceKeepsFromRinging();
        wind();
        ear();
        send();
        sendIsRefused();
        sendIsRefusedForTheFirstReason();
        drop();
        dropIsRefused();
        aRefusalChangesNothing();
        Due.end("ChangeTest");
    }

    private static void aNewObject() {
        BellTelegraph x = new BellTelegraph();
        for (int what = 0; what <= 11; what++) {
            Due.is("account(" + what + ") of a new one", x.account(what), 0);
        }
        for (int sign = 1; sign <= 8; sign++) {
            Due.is("psalm(" + sign + ") of a new one", x.psalm(sign), 0);
        }
        Due.is("lost of a new one", x.lost(), 0);
        Due.is("lostAgain of a new one", x.lostAgain(), 0);
        Due.is("faultPosition of a new one", x.faultPosition(), -1);
        Due.isThrown("conventOf of a new one", IndexOutOfBoundsException.class, () -> x.conventOf(0, 0));
        Due.isThrown("ridgeOf of a new one", IndexOutOfBoundsException.class, () -> x.ridgeOf(0, 0));
        Due.isThrown("messageOf of a new one", IndexOutOfBoundsException.class, () -> x.messageOf(0, 0));
        Due.isThrown("arrived of a new one", NoSuchElementException.class, () -> x.arrived(0));
        Due.isThrown("ranked of a new one", NoSuchElementException.class, () -> x.ranked(0));
        Due.isThrown("character of a new one", IndexOutOfBoundsException.class, () -> x.character(0));
        Due.isThrown("reason of a new one", NoSuchElementException.class, () -> x.reason(0));
        Due.isThrown("undo of a new one", IllegalStateException.class, () -> x.undo());
        Due.isThrown("restore of a new one", IllegalStateException.class, () -> x.restore());
        BellTelegraph y = new BellTelegraph();
        y.convent(1, 1, 1);
        Due.is("the convents of another object", x.account(2), 0);
    }

    private static void convent() {
        BellTelegraph x = new BellTelegraph();
        Due.is("the first convent", x.convent(0, 9, LEAST), 0);
        Due.is("the second convent", x.convent(9, 0, 1), 1);
        Due.is("the third convent", x.convent(4, 5, 9), 2);
        Due.is("the tone 0", x.conventOf(0, 0), 0);
        Due.is("the ear 9", x.conventOf(0, 1), 9);
        Due.is("the tone 9", x.conventOf(1, 0), 9);
        Due.is("the ear 0", x.conventOf(1, 1), 0);
        Due.is("the length 1", x.ridgeOf(0, 0), 1);
        Due.is("the length 9", x.ridgeOf(1, 0), 9);
        for (int what = 2; what <= 7; what++) {
            Due.is("conventOf(2, " + what + ") at first", x.conventOf(2, what), 0);
        }
        for (int length : new int[] {0, -1, 10, MOST}) {
            Due.is("a first convent with the length " + length, new BellTelegraph().convent(1, 1, length), 0);
        }
        x.wind(1, 7);
        x.hours(6);
        x.undo();
        x.undo();
        x.undo();
        x.hours(6);
        Due.is("the third convent again", x.convent(1, 2, 3), 2);
        Due.is("the length of the ridge before it", x.ridgeOf(1, 0), 3);
        Due.is("the wind of a ridge that begins late", x.ridgeOf(1, 1), 0);
    }

    private static void conventIsRefused() {
        BellTelegraph x = new BellTelegraph();
        for (int wrong : new int[] {-1, 10, LEAST, MOST}) {
            Due.isRefused("the tone " + wrong, x, 1, 0, () -> x.convent(wrong, 5, 5));
            Due.isRefused("the ear " + wrong, x, 1, 0, () -> x.convent(5, wrong, 5));
        }
        x.convent(5, 5, 5);
        for (int wrong : new int[] {0, 10, -1, LEAST, MOST}) {
            Due.isRefused("the length " + wrong, x, 1, 0, () -> x.convent(5, 5, wrong));
        }
        for (int k = 1; k < 6; k++) {
            Due.is("the convent " + k, x.convent(5, 5, 5), k);
        }
        Due.isRefused("a seventh convent", x, 2, 6, () -> x.convent(5, 5, 5));
        Due.isRefused("a seventh convent with the tone 10", x, 1, 0, () -> x.convent(10, 5, 5));
        Due.isRefused("a seventh convent with the length 0", x, 1, 0, () -> x.convent(5, 5, 0));
        Due.is("the convents", x.account(2), 6);
        Due.is("the changes", x.account(10), 6);
    }

    private static void code() {
        BellTelegraph x = new BellTelegraph();
        Due.is("the psalm before the first one", x.code(1, 150), 0);
        Due.is("the psalm before the second one", x.code(1, 1), 150);
        Due.is("a psalm that is free again", x.code(8, 150), 0);
        Due.is("the same psalm once more", x.code(8, 150), 150);
        Due.is("the psalm of the sign 1", x.psalm(1), 1);
        Due.is("the psalm of the sign 8", x.psalm(8), 150);
        for (int wrong : new int[] {0, 9, -1, LEAST, MOST}) {
            Due.isRefused("the sign " + wrong, x, 1, 0, () -> x.code(wrong, 5));
        }
        for (int wrong : new int[] {0, 151, -1, LEAST, MOST}) {
            Due.isRefused("the psalm " + wrong, x, 1, 0, () -> x.code(5, wrong));
        }
        Due.isRefused("a psalm of the sign 8", x, 6, 8, () -> x.code(1, 150));
        Due.isRefused("a psalm of the sign 1", x, 6, 1, () -> x.code(2, 1));
        Due.isRefused("a psalm of another sign for the sign 9", x, 1, 0, () -> x.code(9, 1));
        Due.is("the psalm of the sign 1 afterwards", x.psalm(1), 1);
        Due.is("the psalm of the sign 2 afterwards", x.psalm(2), 0);
        Due.is("the signs with a psalm", x.account(3), 2);
    }

    private static void silence() {
        BellTelegraph x = Given.row(2);
        Due.is("silence over midnight", x.silence(1, 22, 6), 8);
        Due.is("from when it is", x.conventOf(1, 2), 22);
        Due.is("until when it is", x.conventOf(1, 3), 6);
        Due.is("silence by day", x.silence(1, 6, 22), 16);
        Due.is("silence at both edges", x.silence(0, 0, 23), 23);
        Due.is("silence of the last hour", x.silence(0, 23, 0), 1);
        Due.is("no silence", x.silence(0, 7, 7), 0);
        Due.is("no silence at the last hour", x.silence(0, 23, 23), 0);
        for (int wrong : new int[] {-1, 24, LEAST, MOST}) {
            Due.isRefused("silence from " + wrong, x, 1, 0, () -> x.silence(0, wrong, 5));
            Due.isRefused("silence until " + wrong, x, 1, 0, () -> x.silence(0, 5, wrong));
        }
        for (int wrong : new int[] {-1, 2, LEAST, MOST}) {
            Due.isRefused("silence of the convent " + wrong, x, 3, wrong, () -> x.silence(wrong, 5, 6));
            Due.isRefused("two faults, the convent " + wrong, x, 3, wrong, () -> x.silence(wrong, 24, -1));
        }
        Due.is("from when the first one stays", x.conventOf(0, 2), 23);
    }

    private static void silenceKeepsFromRinging() {
        BellTelegraph x = Given.codedRow(2);
        x.send(0, 1, 44444444);
        x.silence(0, 2, 4);
        int[] rang = {1, 2, 2, 2, 3};
        int[] silent = {0, 1, 1, 0, 0};
        for (int k = 0; k < rang.length; k++) {
            x.hours(1);
            Due.is("the hours rung after " + (k + 1) + " hours", x.conventOf(0, 5), rang[k]);
            Due.is("silent after " + (k + 1) + " hours", x.conventOf(0, 7), silent[k]);
        }
        x.silence(0, 23, 1);
        x.hours(18);
        Due.is("the hours rung until 23", x.conventOf(0, 5), 21);
        Due.is("silent at 23", x.conventOf(0, 7), 1);
        x.hours(2);
        Due.is("the hours rung until 1 of the next day", x.conventOf(0, 5), 21);
        x.hours(1);
        Due.is("the hours rung until 2 of the next day", x.conventOf(0, 5), 22);
        x.silence(0, 2, 2);
        x.hours(1);
        Due.is("the hours rung without silence", x.conventOf(0, 5), 23);
    }

    private static void wind() {
        BellTelegraph x = Given.row(3);
        Due.is("the wind before the first one", x.wind(1, 9), 0);
        Due.is("the wind before the second one", x.wind(1, 0), 9);
        Due.is("the wind of another ridge", x.wind(0, 4), 0);
        Due.is("the wind that was set", x.ridgeOf(0, 1), 4);
        for (int wrong : new int[] {-1, 10, LEAST, MOST}) {
            Due.isRefused("the wind " + wrong, x, 1, 0, () -> x.wind(0, wrong));
        }
        for (int wrong : new int[] {-1, 2, LEAST, MOST}) {
            Due.isRefused("the ridge " + wrong, x, 3, wrong, () -> x.wind(wrong, 3));
            Due.isRefused("two faults, the ridge " + wrong, x, 3, wrong, () -> x.wind(wrong, 10));
        }
        BellTelegraph y = Given.row(1);
        Due.isRefused("a ridge of one convent", y, 3, 0, () -> y.wind(0, 3));
        BellTelegraph z = Given.row(0);
        Due.isRefused("a ridge of no convent", z, 3, -1, () -> z.wind(-1, 3));
        Due.is("the wind that stays", x.ridgeOf(0, 1), 4);
    }

    private static void ear() {
        BellTelegraph x = Given.row(2);
        Due.is("the ear before the first one", x.ear(1, 0), 9);
        Due.is("the ear before the second one", x.ear(1, 9), 0);
        Due.is("the ear of another convent", x.ear(0, 3), 9);
        Due.is("the ear that was set", x.conventOf(0, 1), 3);
        for (int wrong : new int[] {-1, 10, LEAST, MOST}) {
            Due.isRefused("the ear " + wrong, x, 1, 0, () -> x.ear(0, wrong));
        }
        for (int wrong : new int[] {-1, 2, LEAST, MOST}) {
            Due.isRefused("the convent " + wrong, x, 3, wrong, () -> x.ear(wrong, 3));
            Due.isRefused("two faults, the convent " + wrong, x, 3, wrong, () -> x.ear(wrong, 10));
        }
        Due.is("the ear that stays", x.conventOf(0, 1), 3);
    }

    private static void send() {
        BellTelegraph x = Given.codedRow(3);
        x.hours(5);
        Due.is("the first message", x.send(2, 0, 12345678), 0);
        int[] due = {2, 0, 2, 8, 0, 0, 0, 0, 5};
        for (int what = 0; what <= 8; what++) {
            Due.is("messageOf(0, " + what + ") when it is sent", x.messageOf(0, what), due[what]);
        }
        for (int place = 0; place < 8; place++) {
            Due.is("its sign " + place, x.sign(0, place), place + 1);
        }
        Due.is("a message of the sign 1", x.send(2, 1, 1), 1);
        Due.is("its signs", x.messageOf(1, 3), 1);
        Due.is("a message of the greatest number", x.send(0, 2, 88888888), 2);
        Due.is("the first one that waits at 2", x.waiting(2, 0), 0);
        Due.is("the second one that waits at 2", x.waiting(2, 1), 1);
        Due.is("the first one that waits at 0", x.waiting(0, 0), 2);
        Due.is("the place of the first sign", x.sign(x.send(0, 1, 21), 0), 2);
    }

    private static void sendIsRefused() {
        BellTelegraph x = Given.codedRow(2);
        for (int wrong : new int[] {-1, 2, LEAST, MOST}) {
            Due.isRefused("from the convent " + wrong, x, 3, wrong, () -> x.send(wrong, 1, 1));
            Due.isRefused("to the convent " + wrong, x, 3, wrong, () -> x.send(0, wrong, 1));
        }
        Due.isRefused("from and to the convent 1", x, 5, 1, () -> x.send(1, 1, 1));
        Due.isRefused("from and to the convent 0", x, 5, 0, () -> x.send(0, 0, 1));
        for (int wrong : new int[] {0, -1, -11, 9, 10, 19, 90, 91, 101, 111111110, 111111111, 1111111111, LEAST, MOST}) {
            Due.isRefused("the signs " + wrong, x, 1, 0, () -> x.send(0, 1, wrong));
        }
        for (int k = 0; k < 16; k++) {
            Due.is("the message " + k, x.send(0, 1, 1), k);
        }
        Due.isRefused("a message 16", x, 2, 16, () -> x.send(0, 1, 1));
        x.drop(3);
        Due.isRefused("a message 16 after one was dropped", x, 2, 16, () -> x.send(0, 1, 1));
        Due.is("the messages", x.account(4), 16);
    }

    private static void sendIsRefusedForTheFirstReason() {
        BellTelegraph x = Given.row(2);
        x.code(5, 4);
        Due.isRefused("the sign 3 without a psalm", x, 4, 3, () -> x.send(0, 1, 5357));
        Due.isRefused("the signs 7 and 3 without a psalm", x, 4, 7, () -> x.send(0, 1, 573));
        Due.isRefused("a sign without a psalm ahead of a 9", x, 1, 0, () -> x.send(0, 1, 39));
        Due.isRefused("the same convent, and signs 0", x, 5, 1, () -> x.send(1, 1, 0));
        Due.isRefused("no such convents, both the same", x, 3, 2, () -> x.send(2, 2, 0));
        Due.isRefused("no such convents, both others", x, 3, 7, () -> x.send(7, -1, 5));
        for (int k = 0; k < 16; k++) {
            x.send(0, 1, 5);
        }
        Due.isRefused("a sign without a psalm in a message 16", x, 4, 6, () -> x.send(0, 1, 6));
        Due.isRefused("signs 0 of a message 16", x, 1, 0, () -> x.send(0, 1, 0));
    }

    private static void drop() {
        BellTelegraph x = Given.codedRow(3);
        x.send(0, 2, 14);
        x.send(1, 2, 2);
        x.send(1, 0, 3);
        x.send(1, 2, 1);
        x.hours(2);
        Due.is("where the message 2 waited", x.drop(2), 1);
        Due.is("how it is then", x.messageOf(2, 7), 2);
        Due.is("where it was dropped", x.messageOf(2, 2), 1);
        Due.is("the messages that wait at 1", x.conventOf(1, 4), 1);
        Due.is("the one that waits at 1", x.waiting(1, 0), 3);
        Due.is("where the message 0 waited", x.drop(0), 0);
        Due.is("the sign that was due", x.messageOf(0, 5), 1);
        Due.is("the hours for which it was rung", x.messageOf(0, 6), 1);
        Due.is("the messages that wait at 0", x.conventOf(0, 4), 0);
        Due.is("the hours that bring the last one", x.hours(1), 1);
        Due.is("the dropped ones", x.account(7), 2);
        Due.is("the dropped one after an hour", x.messageOf(0, 6), 1);
        BellTelegraph y = Given.codedRow(3);
        y.send(0, 2, 1);
        y.hours(1);
        Due.is("where a message waited that went on", y.drop(0), 1);
    }

    private static void dropIsRefused() {
        BellTelegraph x = Given.codedRow(2);
        x.send(0, 1, 1);
        x.send(0, 1, 1);
        x.hours(1);
        for (int wrong : new int[] {-1, 2, LEAST, MOST}) {
            Due.isRefused("to drop the message " + wrong, x, 3, wrong, () -> x.drop(wrong));
        }
        Due.isRefused("to drop one that arrived", x, 7, 1, () -> x.drop(0));
        x.drop(1);
        Due.isRefused("to drop one that was dropped", x, 7, 2, () -> x.drop(1));
        Due.is("how the one that arrived is", x.messageOf(0, 7), 1);
    }

    private static void aRefusalChangesNothing() {
        BellTelegraph x = Given.codedRow(6);
        x.send(0, 5, 123);
        x.hours(3);
        String before = Given.state(x);
        int changes = x.account(10);
        Due.isRefused("a convent", x, 2, 6, () -> x.convent(1, 1, 1));
        Due.isRefused("a code", x, 6, 2, () -> x.code(1, 5));
        Due.isRefused("a silence", x, 1, 0, () -> x.silence(1, 1, 24));
        Due.isRefused("a wind", x, 1, 0, () -> x.wind(1, 10));
        Due.isRefused("an ear", x, 1, 0, () -> x.ear(1, 10));
        Due.isRefused("a message", x, 1, 0, () -> x.send(0, 1, 9));
        Due.isRefused("a drop", x, 3, 1, () -> x.drop(1));
        Due.isRefused("hours", x, 1, 0, () -> x.hours(97));
        Due.isText("the state after refusals", Given.state(x), before);
        Due.is("the changes after refusals", x.account(10), changes);
        x.undo();
        Due.is("the hour after the undo behind refusals", x.account(0), 0);
    }
}
