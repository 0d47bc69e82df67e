import java.io.IOException;

/** The edges of an hour that goes by: promise 9, and "An hour goes by" and "Details" of "Terms". */
public final class HourEdgeTest {
    public static void main(String[] args) throws IOException, IllegalAccessException {
        Sentences.hold(HourEdgeTest.class, args);
    }

    // Promise 9

    @Says(promise = 9, value = "how many, 1 to 96")
    static void theHoursAreFrom1To96() {
        BellTelegraph x = new BellTelegraph();
        x.hours(1);
        Due.is("the hour behind the fewest", x.account(0), 1);
        x.hours(96);
        Due.is("the hour behind the most", x.account(0), 97);
        for (int wrong : new int[] {0, 97, -1, Integer.MIN_VALUE, Integer.MAX_VALUE}) {
            Edge.isRefused(wrong + " hours", Given::busy, 1, 0, y -> y.hours(wrong));
        }
    }

    @Says(promise = 9, value = "Throws `UnsupportedOperationException` if it is refused for the reason 1; the reason is kept")
    static void hoursOutOfRangeAreRefusedWithoutAnyConvent() {
        Edge.isRefused("0 hours of nothing", BellTelegraph::new, 1, 0, y -> y.hours(0));
        Edge.isRefused("97 hours of all", Given::full, 1, 0, y -> y.hours(97));
    }

    @Says(promise = 9, value = "Returns how many messages arrive in them.")
    static void noneOrAllMessagesArrive() {
        Due.is("what arrives of nothing", new BellTelegraph().hours(96), 0);
        Due.is("what arrives without messages", Given.codedRow(6).hours(96), 0);
        BellTelegraph x = Given.codedRow(2);
        for (int k = 0; k < 16; k++) {
            x.send(k % 2, 1 - k % 2, 1);
        }
        Due.is("what arrives of two that ring", x.hours(1), 2);
        Due.is("what arrives of all others", x.hours(96), 14);
        Due.is("what arrives again", x.hours(96), 0);
        BellTelegraph y = Given.codedRow(2);
        for (int k = 0; k < 16; k++) {
            y.send(0, 1, 5);
        }
        Due.is("what arrives of 16", y.hours(16), 16);
        BellTelegraph z = Given.codedRow(2);
        z.send(0, 1, 1);
        z.drop(0);
        Due.is("what arrives of one that was dropped", z.hours(5), 0);
    }

    // An hour goes by

    @Says(promise = 9, terms = "An hour goes by", value = "For each convent in the order of numbers")
    static void theLowerConventRingsFirst() {
        BellTelegraph x = Given.codedRow(6);
        x.send(5, 4, 1);
        x.send(3, 4, 1);
        x.send(2, 1, 1);
        x.send(0, 1, 1);
        x.hours(1);
        Due.isText("the first of all convents", Given.line(x, 3), "0>1:1");
        Due.isText("the one above it", Given.line(x, 2), "2>1:?");
        Due.isText("the lower one of the last", Given.line(x, 1), "3>4:1");
        Due.isText("the last of all convents", Given.line(x, 0), "5>4:?");
    }

    /** The hours that the first convent rang so far, after each of so many hours. */
    private static String rung(BellTelegraph x, int hours) {
        StringBuilder rung = new StringBuilder();
        int before = x.conventOf(0, 5);
        for (int k = 0; k < hours; k++) {
            x.hours(1);
            rung.append(x.conventOf(0, 5) == before ? '.' : 'r');
            before = x.conventOf(0, 5);
        }
        return rung.toString();
    }

    @Says(promise = 9, terms = "An hour goes by", value = "that is not silent in this hour")
    static void aConventDoesNotRingInItsSilence() {
        BellTelegraph x = Given.codedRow(2);
        x.send(0, 1, 44444444);
        x.silence(0, 2, 4);
        Due.isText("silence by day", rung(x, 28), "rr.." + "r".repeat(22) + "..");
        BellTelegraph y = Given.codedRow(2);
        y.send(0, 1, 44444444);
        y.silence(0, 23, 1);
        Due.isText("silence over midnight", rung(y, 28), "." + "r".repeat(22) + ".." + "rrr");
        BellTelegraph z = Given.codedRow(2);
        z.send(0, 1, 44444444);
        z.silence(0, 23, 23);
        Due.isText("silence of no hour", rung(z, 28), "r".repeat(28));
    }

    @Says(promise = 9, terms = "An hour goes by", value = "that is not silent in this hour")
    static void aSilentConventListens() {
        BellTelegraph x = Given.codedRow(2);
        x.silence(1, 0, 23);
        x.send(0, 1, 11);
        Due.is("what arrives at a silent convent", x.hours(2), 1);
        Due.isText("what it heard", Given.line(x, 0), "0>1:11");
    }

    @Says(promise = 9, terms = "An hour goes by", value = "and at which a message waits:")
    static void aConventAtWhichNoneWaitsDoesNotRing() {
        BellTelegraph x = Given.codedRow(3);
        Due.isText("without messages", rung(x, 3), "...");
        x.send(0, 2, 2);
        Due.isText("until its only message goes", rung(x, 5), "rr...");
        x.send(0, 2, 4);
        x.drop(1);
        Due.isText("when its only message is dropped", rung(x, 3), "...");
        Due.is("the hours of the last convent", x.conventOf(2, 5), 0);
    }

    @Says(promise = 9, terms = "An hour goes by", value = "it rings the sign of the first one that is due for an hour")
    static void onlyTheFirstOneIsRung() {
        BellTelegraph x = Given.codedRow(2);
        for (int k = 0; k < 16; k++) {
            x.send(0, 1, 2);
        }
        x.hours(1);
        Due.is("the hours of the first one", x.messageOf(0, 6), 1);
        for (int k = 1; k < 16; k++) {
            Due.is("the hours of the message " + k, x.messageOf(k, 6), 0);
        }
        x.hours(1);
        Due.is("how the first one is", x.messageOf(0, 7), 1);
        Due.is("how the second one is", x.messageOf(1, 7), 0);
    }

    @Says(promise = 9, terms = "An hour goes by", value = "to the next convent on the way.")
    static void aMessageIsRungOneConventOnUpAndDown() {
        BellTelegraph x = Given.codedRow(6);
        x.send(0, 5, 1);
        for (int at = 0; at < 5; at++) {
            Due.is("where the one up is", x.messageOf(0, 2), at);
            x.hours(1);
            Due.is("the hours that the convent rang", x.conventOf(at, 5), 1);
        }
        Due.is("where the one up is at last", x.messageOf(0, 2), 5);
        x.send(5, 0, 1);
        for (int at = 5; at > 0; at--) {
            Due.is("where the one down is", x.messageOf(1, 2), at);
            x.hours(1);
        }
        Due.is("where the one down is at last", x.messageOf(1, 2), 0);
        Due.is("what is lost", x.lost(), 0);
    }

    @Says(promise = 9, terms = "An hour goes by", value = "If the listener there does not hear it")
    static void aSignIsHeardAtTheStrength10AndNotAt9() {
        for (int wind = 0; wind <= 1; wind++) {
            BellTelegraph x = new BellTelegraph();
            x.convent(9, 1, 1);
            x.convent(9, 1, 3);
            x.code(1, 4);
            x.wind(0, wind);
            x.send(0, 1, 1);
            x.send(1, 0, 1);
            Due.is("the strength", x.strength(0, true), 10 - wind);
            x.hours(1);
            Due.isText("up at " + (10 - wind), Given.line(x, 0), wind == 0 ? "0>1:1" : "0>1:?");
            Due.isText("down at " + (10 - wind), Given.line(x, 1), wind == 0 ? "1>0:1" : "1>0:?");
        }
    }

    @Says(promise = 9, terms = "An hour goes by", value = "If the listener there does not hear it")
    static void aDeafListenerDoesNotHearTheStrongestBell() {
        BellTelegraph x = Given.codedRow(2);
        x.ear(1, 0);
        x.send(0, 1, 15);
        x.hours(1);
        x.ear(1, 1);
        x.hours(1);
        Due.isText("the ear 0, then the ear 1", Given.line(x, 0), "0>1:?5");
    }

    @Says(promise = 9, terms = "An hour goes by", value = "or a convent rang to the same listener in this hour already, the sign is not heard in this hour.")
    static void theSecondOneThatRingsToAListenerIsNotHeard() {
        BellTelegraph x = Given.codedRow(3);
        x.send(0, 1, 1);
        x.send(2, 1, 2);
        x.hours(2);
        Due.isText("one beside another one in its first hour", Given.line(x, 1), "2>1:?");
        Due.isText("the other one", Given.line(x, 0), "0>1:1");
        x.send(2, 1, 1);
        x.hours(1);
        Due.isText("one beside none in a later hour", Given.line(x, 2), "2>1:1");
    }

    @Says(promise = 9, terms = "An hour goes by", value = "or a convent rang to the same listener in this hour already")
    static void bellsToUnlikeListenersAreAllHeard() {
        BellTelegraph x = Given.codedRow(6);
        for (int k = 0; k < 6; k++) {
            x.send(k, k % 2 == 0 ? k + 1 : k - 1, 1);
        }
        Due.is("what arrives", x.hours(1), 6);
        Due.is("what is lost", x.lost(), 0);
    }

    @Says(promise = 9, terms = "An hour goes by", value = "When a sign was rung for its hours")
    static void aSignIsNotLostAheadOfItsLastHour() {
        BellTelegraph x = Given.codedRow(2);
        x.ear(1, 0);
        x.send(0, 1, 45);
        x.hours(3);
        Due.isText("the line after 3 of 4 hours", Given.line(x, 0), "0>1:45@0");
        Due.is("the place that is due", x.messageOf(0, 5), 0);
        Due.is("what is lost", x.lost(), 0);
        x.hours(1);
        Due.isText("the line after 4 hours", Given.line(x, 0), "0>1:?5@0");
        Due.is("the place that is due then", x.messageOf(0, 5), 1);
        Due.is("what is lost then", x.lost(), 1);
    }

    @Says(promise = 9, terms = "An hour goes by", value = "it is written if it was heard in all of them, and lost otherwise;")
    static void aSignHasToBeHeardFromItsFirstHourToItsLast() {
        for (int deaf = 0; deaf <= 4; deaf++) {
            BellTelegraph x = Given.codedRow(2);
            x.send(0, 1, 4);
            for (int hour = 0; hour < 4; hour++) {
                x.ear(1, hour == deaf ? 0 : 9);
                x.hours(1);
            }
            Due.isText("not heard in the hour " + deaf, Given.line(x, 0), deaf == 4 ? "0>1:4" : "0>1:?");
        }
    }

    @Says(promise = 9, terms = "An hour goes by", value = "then the next sign is due.")
    static void theNextSignBeginsAnew() {
        BellTelegraph x = Given.codedRow(2);
        x.ear(1, 0);
        x.send(0, 1, 22);
        x.hours(2);
        Due.is("the place that is due", x.messageOf(0, 5), 1);
        Due.is("the hours for which it was rung", x.messageOf(0, 6), 0);
        x.ear(1, 9);
        x.hours(2);
        Due.isText("one behind a sign that was lost", Given.line(x, 0), "0>1:?2");
    }

    @Says(promise = 9, terms = "An hour goes by", value = "A sign that is lost is rung for one hour, whatever it was, and stays lost;")
    static void aLostSignOfFourHoursIsRungForOne() {
        BellTelegraph x = Given.codedRow(3);
        x.ear(1, 0);
        x.send(0, 2, 41);
        x.hours(4);
        x.ear(1, 9);
        x.hours(1);
        Due.isText("the line at the next convent", Given.line(x, 0), "0>2:?1@1");
        x.hours(1);
        Due.is("the place behind the lost sign", x.messageOf(0, 5), 1);
        Due.is("the hours of the next one", x.messageOf(0, 6), 0);
        Due.is("what arrives then", x.hours(1), 1);
        Due.isText("the line at last", Given.line(x, 0), "0>2:?1");
    }

    @Says(promise = 9, terms = "An hour goes by", value = "it does not count as lost again.")
    static void aLostSignCountsAtTheFirstListenerOnly() {
        BellTelegraph x = Given.codedRow(6);
        for (int k = 1; k < 6; k++) {
            x.ear(k, 0);
        }
        x.send(0, 5, 12345678);
        x.hours(96);
        Due.is("how it is", x.messageOf(0, 7), 1);
        for (int k = 0; k < 6; k++) {
            Due.is("what is lost at " + k, x.conventOf(k, 6), k == 1 ? 8 : 0);
        }
        Due.is("what is lost", x.lost(), 8);
        Due.is("what is lost by the second way", x.lostAgain(), 8);
    }

    @Says(promise = 9, terms = "An hour goes by", value = "Behind the last sign, the message goes to the next convent;")
    static void aMessageDoesNotGoAheadOfItsLastSign() {
        BellTelegraph x = Given.codedRow(3);
        x.send(0, 2, 11111112);
        x.hours(8);
        Due.is("where it is ahead of the last hour", x.messageOf(0, 2), 0);
        Due.is("the place that is due there", x.messageOf(0, 5), 7);
        x.hours(1);
        Due.is("where it is behind it", x.messageOf(0, 2), 1);
        Due.is("how many wait where it was", x.conventOf(0, 4), 0);
        Due.is("how many wait where it is", x.conventOf(1, 4), 1);
        Due.isText("its line", Given.line(x, 0), "0>2:11111112@1");
    }

    @Says(promise = 9, terms = "An hour goes by", value = "its first sign is due there;")
    static void theFirstSignIsDueAtTheNextConvent() {
        BellTelegraph x = Given.codedRow(3);
        x.send(0, 2, 12);
        x.hours(3);
        Due.is("where it is", x.messageOf(0, 2), 1);
        Due.is("the place that is due", x.messageOf(0, 5), 0);
        Due.is("the hours for which it was rung", x.messageOf(0, 6), 0);
        Due.is("the hours that it needs from there", x.arrivesIn(0), 3);
    }

    @Says(promise = 9, terms = "An hour goes by", value = "if it is the one to which it is, the message is arrived.")
    static void aMessageArrivesAtTheFirstAndAtTheLastConvent() {
        BellTelegraph x = Given.codedRow(6);
        x.send(1, 0, 1);
        x.send(4, 5, 1);
        x.send(2, 0, 1);
        x.send(3, 5, 1);
        Due.is("what arrives in the first hour", x.hours(1), 2);
        Due.is("how the one at its first convent is", x.messageOf(0, 7), 1);
        Due.is("how the one at its last convent is", x.messageOf(1, 7), 1);
        Due.is("how the one ahead of its first convent is", x.messageOf(2, 7), 0);
        Due.is("how the one ahead of its last convent is", x.messageOf(3, 7), 0);
        Due.is("what arrives in the second hour", x.hours(1), 2);
        Due.is("how many wait at the first convent", x.conventOf(0, 4), 0);
        Due.is("how many wait at the last convent", x.conventOf(5, 4), 0);
    }

    @Says(promise = 9, terms = "An hour goes by", value = "Messages that go in an hour come behind it")
    static void aMessageIsNotRungAtTwoConventsInOneHour() {
        BellTelegraph x = Given.codedRow(4);
        x.send(0, 3, 1);
        x.hours(1);
        Due.is("where it is after an hour", x.messageOf(0, 2), 1);
        Due.is("the hours that the next convent rang", x.conventOf(1, 5), 0);
        Due.is("the hours that all rang", x.account(8), 1);
        x.send(3, 0, 1);
        x.hours(1);
        Due.is("where the one up is after two hours", x.messageOf(0, 2), 2);
        Due.is("where the one down is after an hour", x.messageOf(1, 2), 2);
    }

    @Says(promise = 9, terms = "An hour goes by", value = "in the order of the convents from which they go")
    static void messagesComeInTheOrderOfTheConventsFromWhichTheyGo() {
        BellTelegraph x = Given.codedRow(6);
        x.send(5, 3, 1);
        x.send(3, 5, 1);
        x.send(5, 4, 1);
        x.send(0, 1, 1);
        x.hours(1);
        Due.is("the first one at 4", x.waiting(4, 0), 1);
        Due.is("the second one at 4", x.waiting(4, 1), 0);
        Due.is("how many wait at 4", x.conventOf(4, 4), 2);
        x.send(1, 0, 1);
        x.hours(1);
        Due.is("the first one that arrived", x.arrived(0), 3);
        Due.is("the second one, from the lower convent", x.arrived(1), 4);
        Due.is("the third one, from the convent 4", x.arrived(2), 1);
        Due.is("the fourth one, from the convent 5", x.arrived(3), 2);
    }

    @Says(promise = 9, terms = "An hour goes by", value = "behind those that wait.")
    static void messagesComeBehindThoseThatWait() {
        BellTelegraph x = Given.codedRow(3);
        x.send(0, 2, 1);
        x.send(2, 0, 1);
        for (int k = 2; k < 16; k++) {
            x.send(1, 0, 4);
        }
        x.hours(1);
        Due.is("how many wait", x.conventOf(1, 4), 16);
        for (int place = 0; place < 14; place++) {
            Due.is("the one at the place " + place, x.waiting(1, place), place + 2);
        }
        Due.is("the last but one", x.waiting(1, 14), 0);
        Due.is("the last one", x.waiting(1, 15), 1);
    }

    @Says(promise = 9, terms = "An hour goes by", value = "Then the next hour begins.")
    static void theWindOfTheNextHourIsNotHeardInThisOne() {
        BellTelegraph x = new BellTelegraph();
        x.convent(9, 9, 1);
        x.convent(9, 1, 2);
        x.code(1, 4);
        x.hours(5);
        x.wind(0, 2);
        x.send(0, 1, 11);
        Due.is("the strength in the hour 5", x.strength(0, true), 10);
        x.hours(1);
        Due.is("the strength in the hour 6", x.strength(0, true), 5);
        x.hours(1);
        Due.isText("the signs of the hours 5 and 6", Given.line(x, 0), "0>1:1?");
        Due.is("the hour", x.account(0), 7);
    }

    // Details

    @Says(promise = 9, terms = "Details", value = "How long a sign is rung is asked by its psalm in each hour.")
    static void aPsalmThatIsGivenInTheMidstOfASignCounts() {
        BellTelegraph x = Given.row(2);
        x.code(1, 3);
        x.send(0, 1, 11);
        x.hours(3);
        x.code(1, 4);
        Due.is("the place ahead of the next hour", x.messageOf(0, 5), 0);
        x.hours(1);
        Due.is("the place when the hours became 1", x.messageOf(0, 5), 1);
        x.code(1, 6);
        x.hours(2);
        x.code(1, 7);
        x.hours(1);
        Due.is("the hours rung when they became 4", x.messageOf(0, 6), 3);
        Due.is("what arrives in the fourth one", x.hours(1), 1);
        Due.isText("the line", Given.line(x, 0), "0>1:11");
    }

    @Says(promise = 9, terms = "Details", value = "A convent that is too weak to be heard, or rings a sign that is lost, rang to its listener all the same.")
    static void aBellThatIsNotHeardDrownsTheNext() {
        BellTelegraph x = new BellTelegraph();
        x.convent(9, 9, 1);
        x.convent(0, 1, 4);
        x.convent(0, 9, 1);
        x.code(1, 4);
        x.send(0, 1, 1);
        x.send(2, 1, 1);
        Due.is("the strength that is too weak", x.strength(0, true), 8);
        Due.isTrue("the other one is strong enough", x.hears(2, false));
        x.hours(1);
        Due.isText("the one behind a bell that is too weak", Given.line(x, 1), "2>1:?");
    }

    @Says(promise = 9, terms = "Details", value = "or rings a sign that is lost, rang to its listener all the same.")
    static void aLostSignDrownsTheNext() {
        BellTelegraph x = Given.codedRow(4);
        x.ear(1, 0);
        x.send(0, 3, 1);
        x.hours(1);
        x.send(3, 2, 1);
        x.hours(1);
        Due.isText("the one behind a sign that is lost", Given.line(x, 1), "3>2:?");
    }

    @Says(promise = 10, terms = "Details", value = "The hours in which a sign that is lost is rung count as hours that the convent rang.")
    static void theHoursOfLostSignsCount() {
        BellTelegraph x = Given.codedRow(3);
        x.ear(1, 0);
        x.send(0, 2, 44444444);
        x.hours(32);
        Due.is("the hours of the first convent", x.conventOf(0, 5), 32);
        Due.is("what arrives in 7 hours", x.hours(7), 0);
        Due.is("the hours of the second convent", x.conventOf(1, 5), 7);
        Due.is("what arrives in the eighth one", x.hours(1), 1);
        Due.is("the hours of the second convent at last", x.conventOf(1, 5), 8);
        Due.is("the hours of all", x.account(8), 40);
    }

    @Says(promise = 13, terms = "Details", value = "Of a message that is arrived the first sign is due, at place 0.")
    static void theFirstSignOfAnArrivedMessageIsDue() {
        BellTelegraph x = Given.codedRow(2);
        x.send(0, 1, 12345678);
        x.hours(96);
        Due.is("how it is", x.messageOf(0, 7), 1);
        Due.is("the place that is due", x.messageOf(0, 5), 0);
        Due.is("the hours for which it was rung", x.messageOf(0, 6), 0);
    }
}
