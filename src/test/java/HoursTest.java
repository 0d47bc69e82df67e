/** The promise 9: hours go by. */
public final class HoursTest {
    public static void main(String[] args) {
        hoursAreInRange();
        aSignIsRungForItsHours();
        aPsalmIsAskedInEachHour();
        aSignHasToBeHeardInAllItsHours();
        theListenerIsDeaf();
        twoRingToOneListener();
        aWeakBellKeepsOthersFromBeingHeard();
        aLostSignKeepsOthersFromBeingHeard();
        twoRingToEachOther();
        aLostSignIsRungForOneHour();
        theFirstOneRings();
        messagesGoBehindTheHour();
        messagesArriveInTheOrderOfConvents();
        messagesComeBehindThoseThatWait();
        windsTurn();
        windsTurnHearing();
        aSilentConventBreaksASign();
        Due.end("HoursTest");
    }

    private static void hoursAreInRange() {
        BellTelegraph x = Given.codedRow(2);
        for (int wrong : new int[] {0, -1, 97, Integer.MIN_VALUE, Integer.MAX_VALUE}) {
            Due.isRefused(wrong + " hours", x, 1, 0, () -> x.hours(wrong));
        }
        x.send(0, 1, 1);
        x.send(0, 1, 44);
        Due.is("what arrives in 1 hour", x.hours(1), 1);
        Due.is("the hour after 1", x.account(0), 1);
        Due.is("what arrives in 7 hours", x.hours(7), 0);
        x.send(0, 1, 1);
        Due.is("what arrives in 96 hours", x.hours(96), 2);
        Due.is("the hour after 96 more", x.account(0), 104);
        Due.is("hours without convents", new BellTelegraph().hours(96), 0);
    }

    private static void aSignIsRungForItsHours() {
        int[] psalms = {4, 1, 2, 3, 148, 149, 150, 147};
        for (int k = 0; k < psalms.length; k++) {
            BellTelegraph x = Given.row(2);
            x.code(6, psalms[k]);
            x.send(0, 1, 6);
            int hours = k % 4 + 1;
            for (int gone = 1; gone < hours; gone++) {
                Due.is("the psalm " + psalms[k] + " in the hour " + gone, x.hours(1), 0);
                Due.is("the hours for which it was rung", x.messageOf(0, 6), gone);
                Due.is("the place that is due", x.messageOf(0, 5), 0);
            }
            Due.is("the psalm " + psalms[k] + " in its last hour", x.hours(1), 1);
            Due.is("the hours rung of the psalm " + psalms[k], x.conventOf(0, 5), hours);
            Due.isText("its line", Given.line(x, 0), "0>1:6");
            Due.is("its hours when it is arrived", x.messageOf(0, 6), 0);
        }
    }

    private static void aPsalmIsAskedInEachHour() {
        BellTelegraph x = Given.row(2);
        x.code(1, 3);
        x.send(0, 1, 11);
        x.hours(2);
        x.code(1, 4);
        Due.is("the hours for which it was rung", x.messageOf(0, 6), 2);
        x.hours(1);
        Due.is("the place behind a psalm that became shorter", x.messageOf(0, 5), 1);
        x.code(1, 6);
        x.hours(1);
        x.code(1, 7);
        x.hours(2);
        Due.is("the hours of a psalm that became longer", x.messageOf(0, 6), 3);
        Due.is("its last hour", x.hours(1), 1);
    }

    private static void aSignHasToBeHeardInAllItsHours() {
        for (int deaf = 0; deaf < 4; deaf++) {
            BellTelegraph x = Given.codedRow(2);
            x.send(0, 1, 41);
            for (int hour = 0; hour < 4; hour++) {
                x.ear(1, hour == deaf ? 0 : 9);
                Due.is("the signs lost ahead of the last hour", x.messageOf(0, 4), 0);
                x.hours(1);
            }
            x.ear(1, 9);
            Due.is("the sign not heard in its hour " + deaf, x.sign(0, 0), 0);
            Due.is("the place that is due", x.messageOf(0, 5), 1);
            Due.is("the signs lost at the listener", x.conventOf(1, 6), 1);
            x.hours(1);
            Due.isText("the line, deaf in the hour " + deaf, Given.line(x, 0), "0>1:?1");
        }
    }

    private static void theListenerIsDeaf() {
        BellTelegraph x = new BellTelegraph();
        x.convent(0, 9, 1);
        x.convent(0, 0, 1);
        x.code(1, 4);
        x.send(0, 1, 1);
        x.send(1, 0, 1);
        Due.is("what arrives", x.hours(1), 2);
        Due.isText("to the deaf one", Given.line(x, 0), "0>1:?");
        Due.isText("from the deaf one", Given.line(x, 1), "1>0:1");
        Due.is("the signs lost at the deaf one", x.conventOf(1, 6), 1);
        Due.is("the signs lost at the other one", x.conventOf(0, 6), 0);
    }

    private static void twoRingToOneListener() {
        BellTelegraph x = Given.codedRow(3);
        x.send(2, 1, 1);
        x.send(0, 1, 1);
        Due.is("what arrives", x.hours(1), 2);
        Due.isText("the one from the lower convent", Given.line(x, 1), "0>1:1");
        Due.isText("the one from the higher convent", Given.line(x, 0), "2>1:?");
        Due.is("the signs lost at the listener", x.conventOf(1, 6), 1);
        Due.is("the hours that the higher one rang", x.conventOf(2, 5), 1);
        BellTelegraph y = Given.codedRow(3);
        y.send(0, 1, 1);
        y.send(2, 1, 2);
        y.hours(2);
        Due.isText("one that is not heard in the first of 2 hours", Given.line(y, 1), "2>1:?");
        BellTelegraph z = Given.codedRow(3);
        z.silence(0, 0, 1);
        z.send(0, 1, 1);
        z.send(2, 1, 1);
        z.hours(2);
        Due.isText("one beside a silent convent", Given.line(z, 1), "2>1:1");
        Due.isText("one of a convent that was silent", Given.line(z, 0), "0>1:1");
    }

    private static void aWeakBellKeepsOthersFromBeingHeard() {
        BellTelegraph x = new BellTelegraph();
        x.convent(9, 9, 1);
        x.convent(0, 1, 9);
        x.convent(0, 9, 1);
        x.code(1, 4);
        x.send(0, 1, 1);
        x.send(2, 1, 1);
        Due.isTrue("the first one is too weak", !x.hears(0, true));
        Due.isTrue("the second one is heard", x.hears(2, false));
        x.hours(1);
        Due.isText("the one that is too weak", Given.line(x, 0), "0>1:?");
        Due.isText("the one behind it", Given.line(x, 1), "2>1:?");
        Due.is("the signs lost at the listener", x.conventOf(1, 6), 2);
    }

    private static void aLostSignKeepsOthersFromBeingHeard() {
        BellTelegraph x = Given.codedRow(4);
        x.ear(1, 0);
        x.send(0, 3, 1);
        x.hours(1);
        x.ear(1, 9);
        x.send(3, 2, 1);
        Due.isText("the sign that is lost", Given.line(x, 0), "0>3:?@1");
        x.hours(1);
        Due.isText("the one that rings to the same listener", Given.line(x, 1), "3>2:?");
        Due.is("the hours that the convent of the lost sign rang", x.conventOf(1, 5), 1);
        Due.is("the signs lost at that listener", x.conventOf(2, 6), 1);
    }

    private static void twoRingToEachOther() {
        BellTelegraph x = Given.codedRow(2);
        x.send(0, 1, 1);
        x.send(1, 0, 1);
        x.hours(1);
        Due.isText("the one up", Given.line(x, 0), "0>1:1");
        Due.isText("the one down", Given.line(x, 1), "1>0:1");
    }

    private static void aLostSignIsRungForOneHour() {
        BellTelegraph x = Given.codedRow(3);
        x.ear(1, 0);
        x.send(0, 2, 44);
        x.hours(8);
        Due.isText("both signs are lost", Given.line(x, 0), "0>2:??@1");
        Due.is("the signs lost at the listener", x.conventOf(1, 6), 2);
        x.ear(2, 0);
        x.hours(1);
        Due.is("the place behind a lost sign", x.messageOf(0, 5), 1);
        Due.is("the hours of the next one", x.messageOf(0, 6), 0);
        Due.is("what arrives an hour later", x.hours(1), 1);
        Due.is("the hours that the second convent rang", x.conventOf(1, 5), 2);
        Due.is("the signs lost at the last listener", x.conventOf(2, 6), 0);
        Due.is("the lost ones", x.lost(), 2);
    }

    private static void theFirstOneRings() {
        BellTelegraph x = Given.codedRow(2);
        x.send(0, 1, 2);
        x.send(0, 1, 1);
        x.hours(1);
        Due.is("the hours of the second one", x.messageOf(1, 6), 0);
        x.drop(0);
        Due.is("what arrives when the first one is dropped", x.hours(1), 1);
        Due.is("which one", x.arrived(0), 1);
    }

    private static void messagesGoBehindTheHour() {
        BellTelegraph x = Given.codedRow(4);
        x.send(0, 3, 1);
        Due.is("what arrives in 2 hours", x.hours(2), 0);
        Due.is("where it is after 2 hours", x.messageOf(0, 2), 2);
        Due.is("what arrives in the third hour", x.hours(1), 1);
        Due.is("where it is when it is arrived", x.messageOf(0, 2), 3);
        Due.is("the messages that wait there", x.conventOf(3, 4), 0);
        Due.is("the place that is due", x.messageOf(0, 5), 0);
        x.send(3, 1, 12);
        x.hours(3);
        Due.is("the one that goes down", x.messageOf(1, 2), 2);
        Due.is("its first sign is due there", x.messageOf(1, 5), 0);
        Due.is("when it arrives", x.arrivesIn(1), 3);
    }

    private static void messagesArriveInTheOrderOfConvents() {
        BellTelegraph x = Given.codedRow(4);
        x.send(3, 2, 1);
        x.send(1, 0, 1);
        x.send(2, 3, 1);
        Due.is("what arrives", x.hours(1), 3);
        Due.is("the first one", x.arrived(0), 1);
        Due.is("the second one", x.arrived(1), 2);
        Due.is("the third one", x.arrived(2), 0);
    }

    private static void messagesComeBehindThoseThatWait() {
        BellTelegraph x = Given.codedRow(3);
        x.send(2, 0, 1);
        x.send(0, 2, 1);
        x.send(1, 2, 4);
        x.send(1, 2, 4);
        x.hours(1);
        int[] due = {2, 3, 1, 0};
        Due.is("how many wait", x.conventOf(1, 4), 4);
        for (int place = 0; place < due.length; place++) {
            Due.is("the one that waits at the place " + place, x.waiting(1, place), due[place]);
        }
        BellTelegraph y = Given.codedRow(3);
        y.send(1, 2, 1);
        y.send(0, 2, 1);
        y.hours(1);
        Due.is("the one that comes when another one goes", y.waiting(1, 0), 1);
    }

    private static void windsTurn() {
        BellTelegraph x = Given.row(6);
        for (int ridge = 0; ridge < 5; ridge++) {
            x.wind(ridge, 4);
        }
        x.hours(5);
        Due.is("the wind in the hour 5", x.ridgeOf(4, 1), 4);
        x.hours(1);
        int[] first = {3, 4, 5, 6, 7};
        int[] second = {0, 4, 8, 2, 6};
        for (int ridge = 0; ridge < 5; ridge++) {
            Due.is("the wind of the ridge " + ridge + " in the hour 6", x.ridgeOf(ridge, 1), first[ridge]);
        }
        x.hours(6);
        for (int ridge = 0; ridge < 5; ridge++) {
            Due.is("the wind of the ridge " + ridge + " in the hour 12", x.ridgeOf(ridge, 1), second[ridge]);
        }
    }

    private static void windsTurnHearing() {
        BellTelegraph x = new BellTelegraph();
        x.convent(9, 9, 1);
        x.convent(9, 1, 2);
        x.code(1, 4);
        x.wind(0, 2);
        x.send(0, 1, 11);
        x.hours(4);
        Due.isText("heard at the strength 10", Given.line(x, 0), "0>1:11");
        x.undo();
        x.hours(1);
        x.wind(0, 3);
        x.hours(1);
        Due.isText("not heard at the strength 9", Given.line(x, 0), "0>1:1?");
        BellTelegraph y = new BellTelegraph();
        y.convent(9, 9, 1);
        y.convent(9, 1, 2);
        y.code(1, 4);
        y.wind(0, 2);
        y.hours(5);
        y.send(0, 1, 111);
        y.hours(3);
        Due.isText("a wind that turns between two signs", Given.line(y, 0), "0>1:1??");
    }

    private static void aSilentConventBreaksASign() {
        BellTelegraph x = Given.codedRow(2);
        x.silence(0, 1, 20);
        x.send(0, 1, 2);
        Due.is("what arrives while it is silent", x.hours(20), 0);
        Due.is("the hours for which it was rung", x.messageOf(0, 6), 1);
        Due.is("what arrives in the hour behind", x.hours(1), 1);
        Due.isText("its line", Given.line(x, 0), "0>1:2");
        BellTelegraph y = Given.codedRow(2);
        y.silence(1, 0, 23);
        y.send(0, 1, 1);
        y.hours(1);
        Due.isText("to a silent convent, which listens", Given.line(y, 0), "0>1:1");
    }
}
