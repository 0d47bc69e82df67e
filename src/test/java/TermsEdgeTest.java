import java.io.IOException;

/** The edges that "Terms" names for convents, ridges, signs, messages and hearing. */
public final class TermsEdgeTest {
    private static final int LEAST = Integer.MIN_VALUE;
    private static final int MOST = Integer.MAX_VALUE;

    public static void main(String[] args) throws IOException, IllegalAccessException {
        Sentences.hold(TermsEdgeTest.class, args);
    }

    // Convents

    @Says(promise = 2, terms = "Convents", value = "There are at most 6 convents, numbered from 0, in a row.")
    static void theSixthConventIsTheLast() {
        BellTelegraph x = new BellTelegraph();
        for (int k = 0; k < 6; k++) {
            Due.is("the convent " + k, x.convent(k, 5, 1), k);
        }
        Due.is("the convents", x.account(2), 6);
        Due.is("the tone of the last one", x.conventOf(5, 0), 5);
        Due.isThrown("a convent 6", IndexOutOfBoundsException.class, () -> x.conventOf(6, 0));
        Edge.isRefused("a seventh convent", Given::full, 2, 6, y -> y.convent(5, 5, 5));
    }

    @Says(promise = 10, terms = "Convents", value = "numbered from 0")
    static void thereIsNoConventAheadOfTheFirst() {
        BellTelegraph x = new BellTelegraph();
        Due.isThrown("a convent 0 of none", IndexOutOfBoundsException.class, () -> x.conventOf(0, 0));
        x.convent(4, 5, 1);
        Due.is("the tone of the convent 0", x.conventOf(0, 0), 4);
        Due.isThrown("a convent -1", IndexOutOfBoundsException.class, () -> x.conventOf(-1, 0));
    }

    @Says(promise = 2, terms = "Convents", value = "Each has a bell with a tone from 0, the deepest one, to 9")
    static void aToneIsFrom0To9() {
        BellTelegraph x = new BellTelegraph();
        x.convent(0, 5, 1);
        x.convent(9, 5, 1);
        Due.is("the deepest tone", x.conventOf(0, 0), 0);
        Due.is("the highest tone", x.conventOf(1, 0), 9);
        for (int wrong : new int[] {-1, 10, LEAST, MOST}) {
            Edge.isRefused("the tone " + wrong, Given::busy, 1, 0, y -> y.convent(wrong, 5, 5));
        }
    }

    @Says(promise = 2, terms = "Convents", value = "a listener with an ear from 0, who is deaf, to 9")
    static void anEarOfANewConventIsFrom0To9() {
        BellTelegraph x = new BellTelegraph();
        x.convent(5, 0, 1);
        x.convent(5, 9, 1);
        Due.is("the least ear", x.conventOf(0, 1), 0);
        Due.is("the best ear", x.conventOf(1, 1), 9);
        for (int wrong : new int[] {-1, 10, LEAST, MOST}) {
            Edge.isRefused("the ear " + wrong, Given::busy, 1, 0, y -> y.convent(5, wrong, 5));
        }
    }

    @Says(promise = 6, terms = "Convents", value = "a listener with an ear from 0, who is deaf, to 9")
    static void anEarThatIsSetIsFrom0To9() {
        BellTelegraph x = Given.row(2);
        x.ear(0, 0);
        Due.is("the least ear", x.conventOf(0, 1), 0);
        Due.isTrue("the ear 0 is deaf", !x.hears(1, false));
        x.ear(0, 1);
        Due.isTrue("the ear 1 is not deaf", x.hears(1, false));
        x.ear(0, 9);
        Due.is("the best ear", x.conventOf(0, 1), 9);
        for (int wrong : new int[] {-1, 10, LEAST, MOST}) {
            Edge.isRefused("the ear " + wrong, Given::busy, 1, 0, y -> y.ear(0, wrong));
        }
    }

    /** Whether the first convent is silent in each of 48 hours from now on, as a text of "s" and ".". */
    private static String silentHours(BellTelegraph x) {
        StringBuilder hours = new StringBuilder();
        for (int k = 0; k < 48; k++) {
            hours.append(x.conventOf(0, 7) == 1 ? 's' : '.');
            x.hours(1);
        }
        return hours.toString();
    }

    @Says(promise = 10, terms = "Convents", value = "from an hour of the day on, until ahead of another one;")
    static void silenceByDayBeginsWithItsFirstHourAndEndsAheadOfTheOther() {
        BellTelegraph x = Given.row(1);
        x.silence(0, 5, 9);
        Due.isText("silence from 5 until 9", silentHours(x), ".....ssss...............".repeat(2));
        BellTelegraph y = Given.row(1);
        y.silence(0, 0, 23);
        Due.isText("silence from 0 until 23", silentHours(y), "sssssssssssssssssssssss.".repeat(2));
        BellTelegraph z = Given.row(1);
        z.silence(0, 11, 12);
        Due.isText("silence of one hour", silentHours(z), "...........s............".repeat(2));
    }

    @Says(promise = 10, terms = "Convents", value = "over midnight, if the second one is less;")
    static void silenceOverMidnightBeginsByNightAndEndsByMorning() {
        BellTelegraph x = Given.row(1);
        x.silence(0, 22, 2);
        Due.isText("silence from 22 until 2", silentHours(x), "ss....................ss".repeat(2));
        BellTelegraph y = Given.row(1);
        y.silence(0, 23, 0);
        Due.isText("silence from 23 until 0", silentHours(y), ".......................s".repeat(2));
        BellTelegraph z = Given.row(1);
        z.silence(0, 13, 12);
        Due.isText("silence from 13 until 12", silentHours(z), "ssssssssssss.sssssssssss".repeat(2));
    }

    @Says(promise = 10, terms = "Convents", value = "and none, if both are alike, as at first.")
    static void thereIsNoSilenceIfBothHoursAreAlikeNorAtFirst() {
        Due.isText("silence at first", silentHours(Given.row(1)), "........................".repeat(2));
        for (int hour : new int[] {0, 12, 23}) {
            BellTelegraph x = Given.row(1);
            x.silence(0, 5, 4);
            x.silence(0, hour, hour);
            Due.isText("silence from and until " + hour, silentHours(x), "........................".repeat(2));
        }
    }

    @Says(promise = 10, terms = "Convents", value = "as at first.")
    static void aConventInPlaceOfAnotherIsAsAtFirst() {
        BellTelegraph x = Given.codedRow(2);
        x.save();
        x.convent(5, 5, 5);
        x.ear(2, 0);
        x.silence(2, 3, 1);
        x.send(2, 1, 2);
        x.send(1, 2, 1);
        x.send(2, 0, 1);
        x.hours(1);
        Due.is("the hours that it rang in its silence", x.conventOf(2, 5), 0);
        x.hours(2);
        Due.is("the hours that it rang behind it", x.conventOf(2, 5), 2);
        Due.is("the signs that were lost there", x.conventOf(2, 6), 1);
        x.restore();
        Due.is("the third convent again", x.convent(9, 9, 9), 2);
        int[] due = {9, 9, 0, 0, 0, 0, 0, 0};
        for (int what = 0; what <= 7; what++) {
            Due.is("conventOf(2, " + what + ")", x.conventOf(2, what), due[what]);
        }
        Due.is("the length of the ridge", x.ridgeOf(1, 0), 9);
    }

    // Ridges

    @Says(promise = 11, terms = "Ridges", value = "Between the convents k and k + 1 is the ridge k")
    static void thereIsARidgeLessThanConvents() {
        BellTelegraph x = new BellTelegraph();
        for (int convents = 0; convents <= 6; convents++) {
            int last = convents - 1;
            Due.isThrown("the ridge behind " + convents, IndexOutOfBoundsException.class, () -> x.ridgeOf(last, 0));
            if (convents >= 2) {
                Due.is("the last ridge of " + convents, x.ridgeOf(convents - 2, 0), convents);
            }
            if (convents < 6) {
                x.convent(5, 5, convents + 1);
            }
        }
        Due.isThrown("the ridge -1", IndexOutOfBoundsException.class, () -> x.ridgeOf(-1, 0));
        Due.is("the first ridge", x.ridgeOf(0, 0), 2);
    }

    @Says(promise = 2, terms = "Ridges", value = "with a length from 1 to 9")
    static void aLengthIsFrom1To9() {
        BellTelegraph x = Given.row(1);
        x.convent(5, 5, 1);
        x.convent(5, 5, 9);
        Due.is("the least length", x.ridgeOf(0, 0), 1);
        Due.is("the greatest length", x.ridgeOf(1, 0), 9);
        for (int wrong : new int[] {0, 10, -1, LEAST, MOST}) {
            Edge.isRefused("the length " + wrong, Given::busy, 1, 0, y -> y.convent(5, 5, wrong));
            Edge.isRefused("the length " + wrong, () -> Given.row(1), 1, 0, y -> y.convent(5, 5, wrong));
        }
    }

    @Says(promise = 5, terms = "Ridges", value = "and a wind from 0 to 9, at first 0.")
    static void aWindIsFrom0To9() {
        BellTelegraph x = Given.row(3);
        x.hours(7);
        x.convent(5, 5, 5);
        Due.is("the wind at first", x.ridgeOf(2, 1), 0);
        Due.is("the wind ahead of 9", x.wind(2, 9), 0);
        Due.is("the greatest wind", x.ridgeOf(2, 1), 9);
        Due.is("the wind ahead of 0", x.wind(2, 0), 9);
        Due.is("the least wind", x.ridgeOf(2, 1), 0);
        for (int wrong : new int[] {-1, 10, LEAST, MOST}) {
            Edge.isRefused("the wind " + wrong, Given::busy, 1, 0, y -> y.wind(0, wrong));
        }
    }

    @Says(promise = 34, terms = "Ridges", value = "Hours are counted from 0;")
    static void theFirstHourIs0() {
        BellTelegraph x = new BellTelegraph();
        Due.is("the first hour", x.account(0), 0);
        x.hours(1);
        Due.is("the second hour", x.account(0), 1);
    }

    @Says(promise = 34, terms = "Ridges", value = "the hour of the day is the hour modulo 24.")
    static void theHourOfTheDayBeginsAgainAtMidnight() {
        BellTelegraph x = new BellTelegraph();
        Due.is("the first hour of the day", x.account(1), 0);
        x.hours(23);
        Due.is("the last hour of the day", x.account(1), 23);
        x.hours(1);
        Due.is("the hour past midnight", x.account(0), 24);
        Due.is("the hour of the day past midnight", x.account(1), 0);
        x.hours(95);
        Due.is("the hour of the day four days on", x.account(1), 23);
        x.hours(1);
        Due.is("the hour of the day past that midnight", x.account(1), 0);
    }

    @Says(promise = 9, terms = "Ridges", value = "When an hour begins that is divisible by 6, the wind of each ridge becomes")
    static void aWindTurnsWhenAnHourBeginsThatIsDivisibleBy6() {
        BellTelegraph x = Given.row(2);
        Due.is("the wind in the hour 0", x.ridgeOf(0, 1), 0);
        int[] due = {0, 1, 4, 3, 0};
        for (int hour = 1; hour <= 26; hour++) {
            x.hours(1);
            Due.is("the wind in the hour " + hour, x.ridgeOf(0, 1), due[hour / 6]);
        }
    }

    @Says(promise = 9, terms = "Ridges", value = "becomes 3 times what it was, and its number and 1 more, modulo 10.")
    static void aWindWrapsAroundAt10() {
        // By the ridge and the wind before: what just stays below 10, what is 10, and the greatest.
        int[][] cases = {{0, 2, 7}, {0, 3, 0}, {0, 9, 8}, {4, 1, 8}, {4, 5, 0}, {4, 9, 2}, {3, 2, 0}, {2, 2, 9}, {1, 0, 2}};
        for (int[] one : cases) {
            BellTelegraph x = Given.row(6);
            x.hours(5);
            x.wind(one[0], one[1]);
            x.hours(1);
            Due.is("the wind of the ridge " + one[0] + " behind " + one[1], x.ridgeOf(one[0], 1), one[2]);
        }
    }

    @Says(promise = 9, terms = "Ridges", value = "the wind of each ridge becomes")
    static void theWindsOfAllRidgesTurn() {
        BellTelegraph x = Given.row(6);
        x.hours(6);
        for (int ridge = 0; ridge < 5; ridge++) {
            Due.is("the wind of the ridge " + ridge, x.ridgeOf(ridge, 1), ridge + 1);
        }
    }

    // Signs

    @Says(promise = 3, terms = "Signs", value = "The signs are 1 to 8.")
    static void aSignIsFrom1To8() {
        BellTelegraph x = new BellTelegraph();
        Due.is("the psalm ahead of that of the sign 1", x.code(1, 11), 0);
        Due.is("the psalm ahead of that of the sign 8", x.code(8, 88), 0);
        Due.is("the psalm of the sign 1", x.psalm(1), 11);
        Due.is("the psalm of the sign 8", x.psalm(8), 88);
        for (int wrong : new int[] {0, 9, -1, LEAST, MOST}) {
            Edge.isRefused("the sign " + wrong, Given::busy, 1, 0, y -> y.code(wrong, 99));
        }
    }

    @Says(promise = 3, terms = "Signs", value = "A sign has a psalm from 1 to 150")
    static void aPsalmIsFrom1To150() {
        BellTelegraph x = new BellTelegraph();
        x.code(1, 1);
        x.code(2, 150);
        Due.is("the least psalm", x.psalm(1), 1);
        Due.is("the greatest psalm", x.psalm(2), 150);
        for (int wrong : new int[] {0, 151, -1, LEAST, MOST}) {
            Edge.isRefused("the psalm " + wrong, Given::busy, 1, 0, y -> y.code(1, wrong));
        }
    }

    @Says(promise = 12, terms = "Signs", value = "or none, as at first;")
    static void aSignHasNoPsalmAtFirst() {
        BellTelegraph x = new BellTelegraph();
        x.code(4, 1);
        for (int sign = 1; sign <= 8; sign++) {
            Due.is("the psalm of the sign " + sign, x.psalm(sign), sign == 4 ? 1 : 0);
        }
    }

    @Says(promise = 3, terms = "Signs", value = "no two signs have the same psalm.")
    static void aPsalmOfAnotherSignIsRefused() {
        Edge.isRefused("the psalm of the first sign", Given::full, 6, 1, y -> y.code(8, 4));
        Edge.isRefused("the psalm of the last sign", Given::full, 6, 8, y -> y.code(1, 11));
        BellTelegraph x = Given.full();
        Due.is("the same psalm for the same sign", x.code(8, 11), 11);
        x.code(8, 150);
        Due.is("a psalm that another sign has no more", x.code(1, 11), 4);
    }

    @Says(promise = 9, terms = "Signs", value = "It is rung for as many hours as the psalm modulo 4, and 1 more.")
    static void theHoursOfASignWrapAroundAt4() {
        int[] psalms = {1, 2, 3, 4, 5, 7, 8, 147, 148, 149, 150};
        int[] hours = {2, 3, 4, 1, 2, 4, 1, 4, 1, 2, 3};
        for (int k = 0; k < psalms.length; k++) {
            BellTelegraph x = Given.row(2);
            x.code(1, psalms[k]);
            x.send(0, 1, 1);
            Due.is("the hours of the psalm " + psalms[k], x.arrivesIn(0), hours[k]);
            for (int gone = 1; gone < hours[k]; gone++) {
                x.hours(1);
                Due.is("the hours rung of the psalm " + psalms[k], x.messageOf(0, 6), gone);
            }
            Due.is("what arrives in its last hour", x.hours(1), 1);
        }
    }

    // Messages

    @Says(promise = 7, terms = "Messages", value = "There are at most 16 messages, numbered from 0")
    static void theSixteenthMessageIsTheLast() {
        BellTelegraph x = Given.codedRow(2);
        Due.isThrown("a message 0 of none", IndexOutOfBoundsException.class, () -> x.messageOf(0, 0));
        for (int k = 0; k < 16; k++) {
            Due.is("the message " + k, x.send(0, 1, 1), k);
        }
        Due.is("the messages", x.account(4), 16);
        Due.is("how the last one is", x.messageOf(15, 7), 0);
        Due.isThrown("a message 16", IndexOutOfBoundsException.class, () -> x.messageOf(16, 0));
        Due.isThrown("a message -1", IndexOutOfBoundsException.class, () -> x.messageOf(-1, 0));
        Edge.isRefused("a seventeenth message", Given::full, 2, 16, y -> y.send(0, 1, 1));
    }

    @Says(promise = 7, terms = "Messages", value = "There are at most 16 messages")
    static void messagesThatArrivedOrWereDroppedCountToo() {
        BellTelegraph x = Given.full();
        x.hours(96);
        Due.is("the messages that arrived", x.account(6), 16);
        Due.isRefused("a seventeenth message", x, 2, 16, () -> x.send(0, 1, 1));
        BellTelegraph y = Given.full();
        y.drop(15);
        Due.isRefused("a seventeenth message", y, 2, 16, () -> y.send(0, 1, 1));
    }

    @Says(promise = 7, terms = "Messages", value = "each from a convent to another one")
    static void aMessageIsNotToTheConventFromWhichItIs() {
        Edge.isRefused("from and to the first convent", Given::busy, 5, 0, y -> y.send(0, 0, 1));
        Edge.isRefused("from and to the last convent", Given::busy, 5, 2, y -> y.send(2, 2, 1));
        BellTelegraph x = Given.codedRow(6);
        Due.is("to the next one", x.send(0, 1, 1), 0);
        Due.is("to the one before", x.send(5, 4, 1), 1);
        Due.is("to the farthest one", x.send(0, 5, 1), 2);
    }

    @Says(promise = 7, terms = "Messages", value = "of 1 to 8 signs")
    static void aMessageIsOf1To8Signs() {
        BellTelegraph x = Given.codedRow(2);
        x.send(0, 1, 1);
        x.send(0, 1, 11111111);
        Due.is("the fewest signs", x.messageOf(0, 3), 1);
        Due.is("the most signs", x.messageOf(1, 3), 8);
        Edge.isRefused("no signs", Given::busy, 1, 0, y -> y.send(0, 1, 0));
        Edge.isRefused("9 signs", Given::busy, 1, 0, y -> y.send(0, 1, 111111111));
        Edge.isRefused("10 signs", Given::busy, 1, 0, y -> y.send(0, 1, 1111111111));
    }

    @Says(promise = 13, terms = "Messages", value = "some of which are lost by and by.")
    static void noSignIsLostAtFirstAndAllCanBeAtLast() {
        BellTelegraph x = Given.codedRow(2);
        x.ear(1, 0);
        x.send(0, 1, 15151515);
        for (int lost = 0; lost <= 8; lost++) {
            Due.is("the signs that are lost", x.messageOf(0, 4), lost);
            Due.is("all the signs", x.messageOf(0, 3), 8);
            x.hours(1);
        }
        Due.is("the signs that it still has", x.signs(0), 0);
    }

    @Says(promise = 13, terms = "Messages", value = "A message is under way, 0, as at first, arrived, 1, or dropped, 2.")
    static void aMessageIsUnderWayUntilItArrivesOrIsDropped() {
        BellTelegraph x = Given.codedRow(3);
        x.send(0, 2, 1);
        x.send(1, 0, 3);
        Due.is("how it is at first", x.messageOf(0, 7), 0);
        x.hours(1);
        Due.is("how it is an hour before", x.messageOf(0, 7), 0);
        x.hours(2);
        Due.is("how it is behind another one", x.messageOf(0, 7), 0);
        x.hours(1);
        Due.is("how it is at last", x.messageOf(0, 7), 1);
        x.send(0, 1, 2);
        x.hours(1);
        x.drop(2);
        Due.is("how it is when it is dropped", x.messageOf(2, 7), 2);
    }

    @Says(promise = 13, terms = "Messages", value = "A message is under way, 0, as at first")
    static void aMessageInPlaceOfOneThatWasUndoneIsUnderWay() {
        BellTelegraph x = Given.codedRow(3);
        Given.carryOut(x, "s0>1:2;h96");
        Due.is("how the one that is undone is", x.messageOf(0, 7), 1);
        x.undo();
        x.send(2, 0, 345);
        int[] due = {2, 0, 2, 3, 0, 0, 0, 0, 0};
        for (int what = 0; what <= 8; what++) {
            Due.is("messageOf(0, " + what + ")", x.messageOf(0, what), due[what]);
        }
        x.undo();
        Given.carryOut(x, "s0>1:2;d0");
        x.undo();
        x.send(0, 1, 2);
        Due.is("how one in place of a dropped one is", x.messageOf(0, 7), 0);
    }

    @Says(promise = 16, terms = "Messages", value = "One that is under way waits at a convent, at first at that from which it is, behind those that wait there.")
    static void aMessageWaitsBehindThoseThatWait() {
        BellTelegraph x = Given.codedRow(3);
        for (int k = 0; k < 16; k++) {
            x.send(1, k % 2 * 2, 1);
            Due.is("the messages that wait", x.conventOf(1, 4), k + 1);
            Due.is("the first one", x.waiting(1, 0), 0);
            Due.is("the last one", x.waiting(1, k), k);
        }
        Due.is("those that wait at another convent", x.conventOf(0, 4), 0);
        x.hours(1);
        Due.is("those that still wait", x.conventOf(1, 4), 15);
        Due.is("the first one then", x.waiting(1, 0), 1);
    }

    // Hearing

    @Says(promise = 18, terms = "Hearing", value = "The strength of a bell at the next convent is 24, less its tone, more by the ear there, less twice the length and less the wind of the ridge between.")
    static void theStrengthIsFromMinus12To31() {
        BellTelegraph x = new BellTelegraph();
        x.convent(9, 9, 1);
        x.convent(0, 0, 9);
        x.wind(0, 9);
        Due.is("the least strength", x.strength(0, true), -12);
        Due.is("the strength the other way", x.strength(1, false), 6);
        BellTelegraph y = new BellTelegraph();
        y.convent(0, 0, 9);
        y.convent(9, 9, 1);
        Due.is("the greatest strength", y.strength(0, true), 31);
        Due.is("the strength the other way", y.strength(1, false), 13);
    }

    @Says(promise = 19, terms = "Hearing", value = "The listener there hears it if the strength is 10 or more")
    static void theStrength10IsHeardAnd9IsNot() {
        BellTelegraph x = new BellTelegraph();
        x.convent(9, 1, 1);
        x.convent(9, 1, 3);
        Due.is("the strength that is heard", x.strength(0, true), 10);
        Due.isTrue("10 is heard", x.hears(0, true));
        Due.isTrue("10 is heard the other way", x.hears(1, false));
        x.wind(0, 1);
        Due.is("the strength that is not heard", x.strength(0, true), 9);
        Due.isTrue("9 is not heard", !x.hears(0, true));
        Due.isTrue("9 is not heard the other way", !x.hears(1, false));
    }

    @Says(promise = 19, terms = "Hearing", value = "and the ear is not 0.")
    static void theEar0DoesNotHearWhateverTheStrength() {
        BellTelegraph x = new BellTelegraph();
        x.convent(0, 9, 1);
        x.convent(0, 0, 1);
        Due.is("the strength at the ear 0", x.strength(0, true), 22);
        Due.isTrue("the ear 0 does not hear 22", !x.hears(0, true));
        x.ear(1, 1);
        Due.isTrue("the ear 1 hears 23", x.hears(0, true));
    }
}
