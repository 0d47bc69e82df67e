import java.util.NoSuchElementException;

/** The promises 32 to 37: means and shares, accounts, undo, and the snapshot. */
public final class SumTest {
    public static void main(String[] args) {
        meanEar();
        lostShare();
        account();
        accountOfMessages();
        undo();
        undoOfEachChange();
        undoOfEightCalls();
        whatIsForgottenStaysSo();
        whatComesInPlaceOfTheUndone(false);
        whatComesInPlaceOfTheUndone(true);
        restoreInPlaceOfOthers();
        undoOfEachPsalm();
        aFullTelegraph();
        whatIsLostAtTheFirstConvent();
        undoInTheMidstOfASign();
        saveAndRestore();
        restoreForgetsWhatCanBeUndone();
        undoKeepsTheSnapshot();
        whatIsNoChange();
        Due.end("SumTest");
    }

    private static void meanEar() {
        BellTelegraph x = new BellTelegraph();
        Due.isThrown("no listeners", ArithmeticException.class, () -> x.meanEar());
        x.convent(1, 0, 1);
        Due.is("one deaf listener", x.meanEar(), 0f);
        x.convent(1, 9, 1);
        Due.is("two listeners", x.meanEar(), 4.5f);
        x.convent(1, 1, 1);
        Due.is("three listeners", x.meanEar(), 10f / 3f);
        x.ear(0, 1);
        Due.is("another ear", x.meanEar(), 11f / 3f);
    }

    private static void lostShare() {
        BellTelegraph x = Given.codedRow(3);
        Due.isThrown("no messages", ArithmeticException.class, () -> x.lostShare());
        x.send(0, 1, 11);
        Due.is("none lost", x.lostShare(), 0.0);
        x.ear(1, 0);
        x.hours(1);
        Due.is("one of 2", x.lostShare(), 0.5);
        x.send(1, 2, 5);
        Due.is("one of 3", x.lostShare(), 1.0 / 3.0);
        x.hours(1);
        x.send(2, 0, 12345678);
        x.drop(2);
        Due.is("two of 11, one of them dropped", x.lostShare(), 2.0 / 11.0);
    }

    private static void account() {
        BellTelegraph x = Given.row(3);
        x.code(3, 10);
        x.code(8, 4);
        x.silence(0, 4, 8);
        x.silence(2, 3, 1);
        x.hours(28);
        Given.write(x, "abc");
        int[] due = {28, 4, 3, 2, 0, 0, 0, 0, 0, 2, 8, 3};
        for (int what = 0; what <= 11; what++) {
            Due.is("account(" + what + ")", x.account(what), due[what]);
        }
        for (int wrong : new int[] {-1, 12, Integer.MIN_VALUE, Integer.MAX_VALUE}) {
            Due.isThrown("account(" + wrong + ")", IllegalArgumentException.class, () -> x.account(wrong));
        }
        BellTelegraph y = new BellTelegraph();
        for (int changes = 1; changes <= 10; changes++) {
            y.hours(1);
            Due.is("what can be undone after " + changes, y.account(10), Math.min(changes, 8));
        }
        y.hours(13);
        Due.is("the hour of the day 23", y.account(1), 23);
        y.hours(1);
        Due.is("the hour of the day 0", y.account(1), 0);
    }

    private static void accountOfMessages() {
        BellTelegraph x = Given.codedRow(3);
        x.send(0, 1, 1);
        x.send(0, 1, 44);
        x.send(1, 2, 1);
        x.send(2, 1, 44);
        x.send(2, 1, 1);
        x.send(2, 0, 1);
        x.hours(1);
        x.drop(3);
        x.drop(1);
        x.drop(4);
        int[] due = {6, 1, 2, 3, 3};
        for (int what = 4; what <= 8; what++) {
            Due.is("account(" + what + ")", x.account(what), due[what - 4]);
        }
    }

    private static void undo() {
        BellTelegraph x = new BellTelegraph();
        Due.isThrown("nothing to undo", IllegalStateException.class, () -> x.undo());
        x.hours(1);
        x.hours(1);
        Due.is("what can still be undone", x.undo(), 1);
        Due.is("the hour then", x.account(0), 1);
        Due.is("nothing more can be undone", x.undo(), 0);
        Due.is("the hour at last", x.account(0), 0);
        Due.isThrown("nothing more to undo", IllegalStateException.class, () -> x.undo());
        x.hours(5);
        Due.is("a change behind", x.undo(), 0);
        Due.is("the hour behind it", x.account(0), 0);
    }

    private static BellTelegraph underWay() {
        BellTelegraph x = Given.codedRow(3);
        x.send(0, 2, 123);
        x.send(1, 0, 1);
        return x;
    }

    private static void undoOfEachChange() {
        isUndone("convent", x -> x.convent(1, 2, 3));
        isUndone("code", x -> x.code(1, 100));
        isUndone("silence", x -> x.silence(0, 0, 9));
        isUndone("wind", x -> x.wind(1, 8));
        isUndone("ear", x -> x.ear(1, 3));
        isUndone("send", x -> x.send(2, 0, 8));
        isUndone("drop", x -> x.drop(0));
        isUndone("hours", x -> x.hours(96));
        isUndone("commands", x -> Given.carryOut(x, "e1=0;h50;w0=3;q1:3-9;s0>1:5"));
    }

    private static void isUndone(String what, Edge.Use change) {
        BellTelegraph x = underWay();
        x.undo();
        x.hours(1);
        x.undo();
        String before = Given.state(x);
        Due.is("what can be undone ahead of " + what, x.account(10), 7);
        change.of(x);
        Due.isTrue(what + " changes something", !Given.state(x).equals(before));
        Due.is("what can be undone after " + what, x.account(10), 8);
        Due.is("what can be undone after the undo of " + what, x.undo(), 7);
        Due.isText("the state after the undo of " + what, Given.state(x), before);
    }

    private static void undoOfEightCalls() {
        BellTelegraph x = Given.codedRow(3);
        x.send(0, 2, 44444444);
        for (int k = 0; k < 30; k++) {
            x.hours(k % 3 + 1);
        }
        for (int k = 29; k >= 22; k--) {
            Due.is("what can still be undone", x.undo(), k - 22);
            Due.isText("how it is before the change " + k, told(x), told(rungFor(k)));
        }
        Due.isThrown("a ninth one", IllegalStateException.class, () -> x.undo());
    }

    private static BellTelegraph rungFor(int changes) {
        BellTelegraph x = Given.codedRow(3);
        x.send(0, 2, 44444444);
        for (int k = 0; k < changes; k++) {
            x.hours(k % 3 + 1);
        }
        return x;
    }

    /** Few of the numbers of a state, so that one object can be asked eight times. */
    private static String told(BellTelegraph x) {
        StringBuilder told = new StringBuilder("hour " + x.account(0) + ", hours rung " + x.account(8) + ", message");
        for (int what = 2; what <= 7; what++) {
            told.append(' ').append(x.messageOf(0, what));
        }
        return told + ", wind " + x.ridgeOf(0, 1) + " " + x.ridgeOf(1, 1);
    }

    private static void whatIsForgottenStaysSo() {
        BellTelegraph x = new BellTelegraph();
        for (int k = 0; k < 9; k++) {
            x.hours(1);
        }
        x.undo();
        Due.is("what can be undone after 9 changes and an undo", x.account(10), 7);
        x.hours(2);
        x.hours(3);
        for (int k = 7; k >= 0; k--) {
            Due.is("what can still be undone", x.undo(), k);
        }
        Due.is("the hour of the earliest one that is kept", x.account(0), 2);
        Due.isThrown("one that was forgotten", IllegalStateException.class, () -> x.undo());
    }

    /** What is undone leaves nothing behind for what comes in its place. */
    private static void whatComesInPlaceOfTheUndone(boolean isRestored) {
        BellTelegraph x = Given.codedRow(2);
        x.save();
        x.convent(3, 9, 2);
        x.silence(2, 3, 1);
        x.send(0, 2, 1);
        x.send(2, 1, 45);
        x.send(2, 0, 4);
        x.ear(2, 0);
        x.hours(2);
        x.drop(1);
        Due.is("the hours that it rang", x.conventOf(2, 5), 1);
        Due.is("the signs that were lost there", x.conventOf(2, 6), 1);
        for (int k = 0; k < 8 && !isRestored; k++) {
            x.undo();
        }
        if (isRestored) {
            x.restore();
        }
        Due.isThrown("an arrival that was undone", NoSuchElementException.class, () -> x.arrived(0));
        x.hours(3);
        x.convent(7, 8, 9);
        int[] convent = {7, 8, 0, 0, 0, 0, 0, 0};
        for (int what = 0; what <= 7; what++) {
            Due.is("conventOf(2, " + what + ") in place of it", x.conventOf(2, what), convent[what]);
        }
        Due.isThrown("one that waited there", NoSuchElementException.class, () -> x.waiting(2, 0));
        x.send(1, 0, 3);
        x.send(0, 2, 5);
        int[] message = {0, 2, 0, 1, 0, 0, 0, 0, 3};
        for (int what = 0; what <= 8; what++) {
            Due.is("messageOf(1, " + what + ") in place of it", x.messageOf(1, what), message[what]);
        }
    }

    private static void restoreInPlaceOfOthers() {
        BellTelegraph x = Given.codedRow(2);
        x.convent(3, 9, 2);
        x.send(2, 1, 1);
        x.send(0, 1, 2);
        x.send(1, 0, 4);
        x.hours(2);
        x.silence(2, 5, 9);
        x.save();
        String saved = Given.state(x);
        for (int k = 0; k < 6; k++) {
            x.undo();
        }
        x.convent(4, 8, 5);
        x.wind(1, 6);
        x.hours(3);
        x.send(0, 1, 8);
        x.send(2, 0, 5);
        x.send(1, 2, 17);
        x.hours(96);
        x.restore();
        Due.isText("the state that is restored", Given.state(x), saved);
        Due.is("the first arrival", x.arrived(0), 0);
        Due.is("the second arrival", x.arrived(1), 1);
        Due.isThrown("a third arrival", NoSuchElementException.class, () -> x.arrived(2));
        x.hours(2);
        Due.is("the third arrival behind it", x.arrived(2), 2);
    }

    private static void undoOfEachPsalm() {
        BellTelegraph x = new BellTelegraph();
        for (int sign = 1; sign <= 8; sign++) {
            x.code(sign, 10 * sign);
            x.code(sign, 10 * sign + 1);
            x.undo();
            Due.is("the psalm of the sign " + sign, x.psalm(sign), 10 * sign);
        }
    }

    /** As many convents and messages as there can be, each as long as it can be. */
    private static void aFullTelegraph() {
        BellTelegraph x = Given.codedRow(5);
        x.convent(9, 0, 9);
        for (int k = 0; k < 16; k++) {
            x.send(k % 2 == 0 ? 5 : 4, k % 2 == 0 ? 4 : 5, 87654321);
        }
        Due.is("the bits of 8 signs", x.signs(15), 0x1fe);
        Due.is("the last one that waits", x.waiting(5, 7), 14);
        Due.is("the last rank", x.ranked(15), 15);
        Due.is("the messages that arrive in 96 hours", x.hours(96), 8);
        Due.is("the messages that arrive in 64 more", x.hours(64), 8);
        for (int place = 0; place < 16; place++) {
            Due.is("the arrival " + place, x.arrived(place), place ^ 1);
        }
        Due.is("lost", x.lost(), 128);
        Due.is("lostAgain", x.lostAgain(), 128);
        Due.is("the share", x.lostShare(), 1.0);
        Due.is("the mean ear", x.meanEar(), 45f / 6f);
        Due.is("the hours that all rang", x.account(8), 320);
        Due.is("those under way", x.account(5), 0);
        Due.is("those that arrived", x.account(6), 16);
    }

    private static void whatIsLostAtTheFirstConvent() {
        BellTelegraph x = Given.codedRow(2);
        x.ear(0, 0);
        x.send(1, 0, 15);
        x.hours(2);
        Due.is("lost at the first convent", x.conventOf(0, 6), 2);
        Due.is("lost", x.lost(), 2);
        Due.is("lostAgain", x.lostAgain(), 2);
    }

    private static void undoInTheMidstOfASign() {
        BellTelegraph x = Given.codedRow(2);
        x.send(0, 1, 4);
        x.ear(1, 0);
        x.hours(1);
        x.ear(1, 9);
        x.hours(3);
        Due.isText("one that was not heard in its first hour", Given.line(x, 0), "0>1:?");
        x.undo();
        x.hours(3);
        Due.isText("the same after an undo", Given.line(x, 0), "0>1:?");
        x.undo();
        x.save();
        x.undo();
        x.undo();
        x.ear(1, 9);
        x.hours(4);
        Due.isText("one that was heard in all its hours", Given.line(x, 0), "0>1:4");
        x.restore();
        x.hours(3);
        Due.isText("the first one after a restore", Given.line(x, 0), "0>1:?");
    }

    private static void saveAndRestore() {
        BellTelegraph x = Given.codedRow(3);
        Due.isThrown("no snapshot", IllegalStateException.class, () -> x.restore());
        x.send(0, 2, 12);
        x.hours(2);
        Due.is("the hour that is saved", x.save(), 2);
        String saved = Given.state(x);
        Given.carryOut(x, "h30;e0=1;e2=0;q1:1-5;w1=2;s0>1:8;d1");
        x.code(1, 150);
        x.convent(1, 1, 1);
        Due.is("the hour that is restored", x.restore(), 2);
        Due.isText("the state that is restored", Given.state(x), saved);
        x.hours(40);
        Due.is("the hour that is restored again", x.restore(), 2);
        Due.isText("the state that is restored again", Given.state(x), saved);
        x.hours(7);
        Due.is("the hour of a later snapshot", x.save(), 9);
        x.hours(1);
        Due.is("the hour of the latest one", x.restore(), 9);
        BellTelegraph y = new BellTelegraph();
        y.save();
        y.convent(1, 1, 1);
        y.hours(3);
        Due.is("a snapshot of a new one", y.restore(), 0);
        Due.is("the convents of a new one", y.account(2), 0);
    }

    private static void restoreForgetsWhatCanBeUndone() {
        BellTelegraph x = Given.row(3);
        x.save();
        x.hours(1);
        Given.write(x, "ab");
        Due.is("what can be undone ahead", x.account(10), 4);
        x.restore();
        Due.is("what can be undone behind", x.account(10), 0);
        Due.is("the text buffer behind", x.account(11), 2);
        Due.isThrown("to undo behind", IllegalStateException.class, () -> x.undo());
        x.hours(5);
        Due.is("a change behind", x.undo(), 0);
        Due.is("the hour behind", x.account(0), 0);
    }

    private static void undoKeepsTheSnapshot() {
        BellTelegraph x = Given.row(1);
        x.hours(3);
        x.save();
        x.undo();
        x.undo();
        Due.is("the convents after undo", x.account(2), 0);
        x.hours(1);
        Due.is("the hour that is restored", x.restore(), 3);
        Due.is("the convents that are restored", x.account(2), 1);
    }

    private static void whatIsNoChange() {
        BellTelegraph x = Given.codedRow(2);
        x.undo();
        Given.write(x, "h");
        x.save();
        x.line(x.send(0, 1, 1));
        x.undo();
        Due.is("what can be undone behind save and append", x.account(10), 7);
        Due.is("the text buffer behind an undo", x.account(11), 1);
        Given.write(x, "3");
        x.commands();
        Due.is("the hour behind the text", x.account(0), 3);
    }
}
