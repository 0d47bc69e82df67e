import java.io.IOException;
import java.util.function.Supplier;

/** The edges of means, accounts, undo and the snapshot: the promises 32 to 37, "Changes" and "Exceptions". */
public final class SumEdgeTest {
    private static final int LEAST = Integer.MIN_VALUE;
    private static final int MOST = Integer.MAX_VALUE;
    private static final Class<IllegalArgumentException> NO_ARGUMENT = IllegalArgumentException.class;
    private static final Class<IllegalStateException> NO_STATE = IllegalStateException.class;
    private static final Class<UnsupportedOperationException> REFUSED = UnsupportedOperationException.class;

    public static void main(String[] args) throws IOException, IllegalAccessException {
        Sentences.hold(SumEdgeTest.class, args);
    }

    // Promises 32 and 33

    @Says(promise = 32, value = "Throws `ArithmeticException` if there are none")
    static void thereIsNoMeanOfNoListeners() {
        Edge.isThrown("a new one", ArithmeticException.class, BellTelegraph::new, y -> y.meanEar());
        Edge.isThrown("one convent undone", ArithmeticException.class, SumEdgeTest::undone, y -> y.meanEar());
    }

    private static BellTelegraph undone() {
        BellTelegraph x = new BellTelegraph();
        x.code(1, 4);
        x.convent(5, 5, 5);
        x.undo();
        return x;
    }

    @Says(promise = 32, value = "their sum divided by their number, both as floats.")
    static void theMeanEarIsFrom0To9() {
        BellTelegraph x = new BellTelegraph();
        x.convent(5, 0, 1);
        Due.is("of one deaf listener", x.meanEar(), 0f);
        x.ear(0, 9);
        Due.is("of one good listener", x.meanEar(), 9f);
        x.convent(5, 1, 1);
        x.convent(5, 0, 1);
        Due.is("of three listeners", x.meanEar(), 10f / 3f);
        for (int k = 3; k < 6; k++) {
            x.convent(5, 0, 1);
        }
        Due.is("of six listeners", x.meanEar(), 10f / 6f);
        Due.is("of the best listeners", Given.row(6).meanEar(), 9f);
    }

    @Says(promise = 33, value = "Throws `ArithmeticException` if there are no messages")
    static void thereIsNoShareWithoutMessages() {
        Edge.isThrown("a new one", ArithmeticException.class, BellTelegraph::new, y -> y.lostShare());
        Edge.isThrown("one with convents", ArithmeticException.class, Given::busyWithoutMessages, y -> y.lostShare());
    }

    @Says(promise = 33, value = "the share of the signs of all messages that are lost, both as doubles.")
    static void theLostShareIsFrom0To1() {
        BellTelegraph x = Given.codedRow(2);
        x.ear(1, 0);
        x.send(0, 1, 15151515);
        for (int lost = 0; lost <= 8; lost++) {
            Due.is("the share of " + lost, x.lostShare(), (double) lost / 8.0);
            x.hours(1);
        }
        x.send(1, 0, 1);
        Due.is("the share of 8 of 9", x.lostShare(), 8.0 / 9.0);
        Due.is("the share of what is not rung yet", Given.full().lostShare(), 0.0);
    }

    // Promise 34

    @Says(promise = 34, value = "Throws `IllegalArgumentException` if what is not from 0 to 11")
    static void noSuchAccount() {
        for (int wrong : new int[] {-1, 12, LEAST, MOST}) {
            Edge.isThrown("what " + wrong, NO_ARGUMENT, Given::busy, y -> y.account(wrong));
            Edge.isThrown("what " + wrong, NO_ARGUMENT, BellTelegraph::new, y -> y.account(wrong));
        }
    }

    private static void isAccount(BellTelegraph x, int first, int... due) {
        for (int k = 0; k < due.length; k++) {
            Due.is("account(" + (first + k) + ")", x.account(first + k), due[k]);
        }
    }

    @Says(promise = 34, value = "0 for the hour, 1 for the hour of the day, 2 for the convents, 3 for the signs with a psalm, 4 for the messages, 5 for those that are under way, 6 for those that arrived, 7 for those that were dropped")
    static void theAccountsOfAllAndOfNone() {
        isAccount(new BellTelegraph(), 0, 0, 0, 0, 0, 0, 0, 0, 0);
        BellTelegraph x = Given.full();
        isAccount(x, 0, 0, 0, 6, 8, 16, 16, 0, 0);
        for (int k = 0; k < 16; k++) {
            x.drop(k);
        }
        isAccount(x, 0, 0, 0, 6, 8, 16, 0, 0, 16);
        BellTelegraph y = Given.full();
        y.hours(96);
        isAccount(y, 0, 96, 0, 6, 8, 16, 0, 16, 0);
    }

    @Says(promise = 34, value = "8 for the hours that convents rang so far, all together, 9 for the convents that are silent in this hour")
    static void allConventsRingOrAreSilent() {
        BellTelegraph x = Given.codedRow(6);
        for (int k = 0; k < 6; k++) {
            x.send(k, k == 5 ? 4 : k + 1, 4);
        }
        isAccount(x, 8, 0, 0);
        x.hours(1);
        isAccount(x, 8, 6, 0);
        for (int k = 0; k < 6; k++) {
            x.silence(k, 1, 0);
            isAccount(x, 8, 6, k + 1);
        }
        x.hours(22);
        isAccount(x, 8, 6, 6);
        x.hours(1);
        isAccount(x, 8, 6, 0);
        x.hours(1);
        isAccount(x, 8, 12, 6);
    }

    @Says(promise = 34, value = "10 for the changes that can be undone, 11 for the characters in the text buffer")
    static void theChangesAreFrom0To8() {
        BellTelegraph x = new BellTelegraph();
        for (int changes = 0; changes <= 10; changes++) {
            Due.is("what can be undone after " + changes, x.account(10), Math.min(changes, 8));
            x.hours(1);
        }
        for (int left = 7; left >= 0; left--) {
            x.undo();
            Due.is("what can still be undone", x.account(10), left);
        }
    }

    // Promise 35 and "Changes"

    @Says(promise = 35, value = "Throws `IllegalStateException` if there is none")
    static void nothingIsUndone() {
        Edge.isThrown("a new one", NO_STATE, BellTelegraph::new, y -> y.undo());
        Edge.isThrown("behind all that is kept", NO_STATE, SumEdgeTest::allUndone, y -> y.undo());
        Edge.isThrown("behind a restore", NO_STATE, SumEdgeTest::restored, y -> y.undo());
    }

    private static BellTelegraph allUndone() {
        BellTelegraph x = Given.busy();
        for (int k = 0; k < 8; k++) {
            x.undo();
        }
        return x;
    }

    private static BellTelegraph restored() {
        BellTelegraph x = Given.busy();
        x.restore();
        return x;
    }

    @Says(promise = 35, value = "Undoes the latest call that can be undone.")
    static void theLatestCallIsUndoneFirst() {
        BellTelegraph x = Given.row(6);
        x.ear(5, 0);
        x.code(8, 150);
        x.undo();
        Due.is("the psalm that was given last", x.psalm(8), 0);
        Due.is("the ear that was set ahead of it", x.conventOf(5, 1), 0);
        x.undo();
        Due.is("the ear behind two", x.conventOf(5, 1), 9);
        x.undo();
        Due.is("the convents behind three", x.account(2), 5);
    }

    @Says(promise = 35, value = "Returns the number of calls that can still be undone.")
    static void from7To0CallsCanStillBeUndone() {
        BellTelegraph x = new BellTelegraph();
        x.hours(1);
        Due.is("behind the only one", x.undo(), 0);
        for (int k = 0; k < 20; k++) {
            x.hours(1);
        }
        for (int left = 7; left >= 0; left--) {
            Due.is("behind one of the latest 8", x.undo(), left);
            Due.is("the hour", x.account(0), left + 12);
        }
        Due.isThrown("a ninth one", NO_STATE, () -> x.undo());
        Due.is("the hour then", x.account(0), 12);
    }

    @Says(promise = 35, terms = "Changes", value = "What there was before each of the latest 8 is kept;")
    static void theNinthIsForgotten() {
        for (int changes : new int[] {8, 9, 10, 17, 18, 19, 27}) {
            BellTelegraph x = new BellTelegraph();
            for (int k = 0; k < changes; k++) {
                x.hours(k + 1);
            }
            for (int k = 0; k < 8; k++) {
                x.undo();
            }
            int left = changes - 8;
            Due.is("the hour behind 8 of " + changes, x.account(0), left * (left + 1) / 2);
            Due.isThrown("a ninth one of " + changes, NO_STATE, () -> x.undo());
        }
    }

    @Says(promise = 35, terms = "Changes", value = "What there was before each of the latest 8 is kept;")
    static void theForgottenDoNotComeBack() {
        BellTelegraph x = new BellTelegraph();
        for (int k = 0; k < 9; k++) {
            x.hours(1);
        }
        Due.is("behind one of 9", x.undo(), 7);
        x.hours(10);
        Due.is("what can be undone then", x.account(10), 8);
        for (int left = 7; left >= 0; left--) {
            Due.is("what can still be undone", x.undo(), left);
        }
        Due.is("the hour of the earliest one that is kept", x.account(0), 1);
        Due.isThrown("the one that was forgotten", NO_STATE, () -> x.undo());
    }

    /** A change behind eight others of a full history, and what undo makes of it. */
    private static void isUndone(String what, Supplier<BellTelegraph> made, Edge.Use change) {
        String before = Given.state(made.get());
        BellTelegraph x = made.get();
        Due.is(what + ": what can be undone ahead", x.account(10), 8);
        change.of(x);
        Due.is(what + ": what can be undone behind", x.account(10), 8);
        Due.isTrue(what + " changes something", !Given.state(x).equals(before));
        BellTelegraph y = made.get();
        change.of(y);
        Due.is(what + ": what can still be undone", y.undo(), 7);
        Due.isText("the state behind the undo of " + what, Given.state(y), before);
    }

    @Says(promise = 35, terms = "Changes", value = "What can be undone are the successful calls of convent, code, silence, wind, ear, send, drop, hours and commands.")
    static void eachChangeIsUndone() {
        isUndone("convent", Given::busy, y -> y.convent(9, 1, 9));
        isUndone("code", Given::busy, y -> y.code(8, 150));
        isUndone("code in place of another", Given::busy, y -> y.code(1, 150));
        isUndone("silence", Given::busy, y -> y.silence(0, 23, 22));
        isUndone("wind", Given::busy, y -> y.wind(0, 9));
        isUndone("ear", Given::busy, y -> y.ear(2, 0));
        isUndone("send", Given::busy, y -> y.send(2, 0, 33333333));
        isUndone("drop", Given::busy, y -> y.drop(1));
        isUndone("hours", Given::busy, y -> y.hours(96));
        isUndone("commands", Given::busy, y -> Given.carryOut(y, "e1=0;s2>0:12;d3;h96;w0=9;q0:1-0"));
        isUndone("hours of all", Given::full, y -> y.hours(96));
        isUndone("the last drop", Given::full, y -> y.drop(15));
        isUndone("the sixth convent", SumEdgeTest::fiveConvents, y -> y.convent(0, 0, 9));
    }

    private static BellTelegraph fiveConvents() {
        return Given.codedRow(5);
    }

    @Says(promise = 35, terms = "Changes", value = "What can be undone are the successful calls of convent, code, silence, wind, ear, send, drop, hours and commands.")
    static void aChangeToTheSameIsOneToo() {
        BellTelegraph x = Given.row(2);
        x.code(1, 7);
        x.code(1, 7);
        x.silence(0, 0, 0);
        x.wind(0, 0);
        x.ear(0, 9);
        Due.is("what can be undone", x.account(10), 7);
        Given.carryOut(x, "e0=9");
        Due.is("what can be undone behind a text", x.account(10), 8);
    }

    @Says(promise = 35, terms = "Changes", value = "What can be undone are the successful calls")
    static void callsWithoutSuccessAndOtherCallsAreNotUndone() {
        BellTelegraph x = Given.row(2);
        Due.isThrown("a convent", REFUSED, () -> x.convent(10, 1, 1));
        Due.isThrown("hours", REFUSED, () -> x.hours(0));
        Due.isThrown("a text", REFUSED, () -> Given.carryOut(x, "h1;h0"));
        Due.isThrown("a fault", NO_ARGUMENT, () -> Given.carryOut(x, "h1;"));
        x.save();
        x.append('h');
        x.meanEar();
        Due.is("what can be undone", x.account(10), 2);
        x.undo();
        Due.is("what can be undone behind an undo", x.account(10), 1);
        Due.is("the convents", x.account(2), 1);
    }

    @Says(promise = 37, terms = "Changes", value = "restore forgets it.")
    static void restoreForgetsAllThatIsKept() {
        BellTelegraph x = Given.busy();
        Due.is("what can be undone ahead", x.account(10), 8);
        x.restore();
        Due.is("what can be undone behind", x.account(10), 0);
        Due.isThrown("an undo behind", NO_STATE, () -> x.undo());
        x.hours(1);
        Due.is("a change behind", x.undo(), 0);
        Due.isThrown("an undo of one more", NO_STATE, () -> x.undo());
    }

    @Says(promise = 35, terms = "Changes", value = "The text buffer, the fault position, the reason and the line do not belong to it, and stay.")
    static void whatDoesNotBelongToAChangeStays() {
        for (boolean isUndone : new boolean[] {true, false}) {
            BellTelegraph x = Given.full();
            x.save();
            Due.isThrown("a text that is refused", REFUSED, () -> Given.carryOut(x, "h1;d99"));
            Due.isThrown("a fault", NO_ARGUMENT, () -> Given.carryOut(x, "h1;z"));
            x.line(15);
            x.hours(1);
            Given.write(x, "h96");
            if (isUndone) {
                x.undo();
            } else {
                x.restore();
            }
            Due.is("the hour", x.account(0), 0);
            Due.is("the text buffer", x.account(11), 3);
            Due.is("the fault position", x.faultPosition(), 3);
            Due.isReason("the text", x, 3, 99, 1);
            Due.is("the last character of the line", x.character(6), '3');
            Due.is("the text", x.commands(), 1);
            Due.is("the hour behind it", x.account(0), 96);
        }
    }

    @Says(promise = 35, terms = "Changes", value = "The text buffer, the fault position, the reason and the line do not belong to it, and stay.")
    static void theTextOfCommandsThatAreUndoneDoesNotComeBack() {
        BellTelegraph x = Given.full();
        Given.carryOut(x, "h1;h1");
        x.undo();
        Due.is("the text buffer", x.account(11), 0);
        Due.isThrown("the text", NO_ARGUMENT, () -> x.commands());
        Due.is("the fault position", x.faultPosition(), 0);
        x.undo();
        Due.is("the fault position behind an undo", x.faultPosition(), 0);
    }

    // Promises 36 and 37

    @Says(promise = 36, value = "Saves all that can be undone, in place of an earlier snapshot.")
    static void nothingAndAllIsSaved() {
        BellTelegraph x = new BellTelegraph();
        Due.is("the hour of nothing", x.save(), 0);
        x.code(1, 4);
        x.convent(1, 1, 1);
        x.hours(96);
        x.restore();
        Due.isText("what is restored of nothing", Given.seen(x), Given.seen(new BellTelegraph()));
        BellTelegraph y = Given.full();
        y.hours(2);
        y.save();
        String saved = Given.state(y);
        y.hours(96);
        y.restore();
        BellTelegraph z = Given.full();
        z.hours(2);
        Due.isText("what is saved of all", saved, Given.state(z));
        Due.is("the hour of all", y.account(0), 2);
        Due.is("how the last message is", y.messageOf(15, 7), z.messageOf(15, 7));
        Due.is("what arrives of all", y.hours(96), z.hours(96));
    }

    @Says(promise = 36, value = "in place of an earlier snapshot.")
    static void aLaterSnapshotIsInPlaceOfAnEarlierOne() {
        BellTelegraph x = Given.full();
        x.save();
        x.undo();
        x.undo();
        Due.is("the hour", x.save(), 0);
        x.hours(30);
        x.restore();
        Due.is("the messages of the later one", x.account(4), 14);
        x.hours(30);
        Due.is("the hour of the latest one", x.save(), 30);
        x.hours(1);
        Due.is("the hour that is restored", x.restore(), 30);
    }

    @Says(promise = 36, value = "Saves all that can be undone")
    static void aSnapshotIsNotUndone() {
        BellTelegraph x = Given.row(1);
        x.hours(5);
        x.save();
        x.undo();
        x.undo();
        Due.is("the convents", x.account(2), 0);
        Due.is("the hour that is restored", x.restore(), 5);
        Due.is("the convents that are restored", x.account(2), 1);
    }

    @Says(promise = 37, value = "Returns the hour.")
    static void theHourThatIsRestoredIsTheOneThatWasSaved() {
        BellTelegraph x = new BellTelegraph();
        x.save();
        x.hours(96);
        Due.is("the first hour", x.restore(), 0);
        x.hours(96);
        x.save();
        x.hours(1);
        x.undo();
        x.undo();
        Due.is("an hour behind that of now", x.restore(), 96);
    }

    @Says(promise = 36, value = "Returns the hour.")
    static void theHourThatIsSavedIsNotThatOfTheDay() {
        BellTelegraph x = new BellTelegraph();
        x.hours(24);
        Due.is("the hour past midnight", x.save(), 24);
        x.hours(1);
        Due.is("the hour past midnight that is restored", x.restore(), 24);
    }

    @Says(promise = 37, value = "Throws `IllegalStateException` if there is no snapshot")
    static void nothingIsRestored() {
        Edge.isThrown("a new one", NO_STATE, BellTelegraph::new, y -> y.restore());
        Edge.isThrown("a full one", NO_STATE, Given::full, y -> y.restore());
    }

    @Says(promise = 37, value = "Restores what was saved; the snapshot is kept.")
    static void aSnapshotIsRestoredAgainAndAgain() {
        BellTelegraph x = Given.busy();
        x.restore();
        String saved = Given.state(x);
        for (int turn = 0; turn < 3; turn++) {
            Given.carryOut(x, "e0=0;w0=9;h96");
            x.convent(0, 0, 9);
            Due.is("the hour that is restored", x.restore(), 1);
            Due.isText("what is restored", Given.state(x), saved);
        }
    }

    @Says(promise = 37, value = "Restores what was saved; the snapshot is kept.")
    static void aSnapshotComesInPlaceOfAllThatIsUnlikeIt() {
        BellTelegraph x = new BellTelegraph();
        fill(x, 1);
        x.save();
        String saved = Given.state(x);
        for (int k = 0; k < 8; k++) {
            x.undo();
        }
        Due.is("the convents that are undone", x.account(2), 0);
        x.hours(7);
        fill(x, 3);
        Due.isTrue("all is unlike it", !Given.state(x).equals(saved));
        x.restore();
        Due.isText("what is restored", Given.state(x), saved);
        BellTelegraph y = new BellTelegraph();
        fill(y, 1);
        Due.is("what arrives behind it", x.hours(3), y.hours(3));
        Due.isText("what comes of it", Given.state(x), Given.state(y));
    }

    /** Eight changes, unlike for 1 and for 3, after which messages are arrived, in another order too. */
    private static void fill(BellTelegraph x, int number) {
        x.convent(number, 9 - number, number);
        x.convent(number + 1, 8 - number, number + 1);
        x.convent(number + 2, 7 - number, number + 2);
        x.code(number, 4 * number);
        x.code(number + 1, 4 * number + 1);
        Given.carryOut(x, number == 1 ? "s0>1:1;s1>0:12" : "s1>2:34;s2>1:3");
        x.silence(0, number, number + 20);
        x.hours(number);
    }

    // Exceptions

    @Says(promise = 10, terms = "Exceptions", value = "If several conditions of a method are fulfilled, the one that is listed first determines the exception.")
    static void theConditionThatIsListedFirstTells() {
        Class<IndexOutOfBoundsException> noIndex = IndexOutOfBoundsException.class;
        Edge.isThrown("conventOf", noIndex, BellTelegraph::new, y -> y.conventOf(0, 8));
        Edge.isThrown("ridgeOf", noIndex, BellTelegraph::new, y -> y.ridgeOf(0, 2));
        Edge.isThrown("messageOf", noIndex, BellTelegraph::new, y -> y.messageOf(0, 9));
        Edge.isThrown("waiting", noIndex, BellTelegraph::new, y -> y.waiting(0, 0));
        Edge.isThrown("strength", noIndex, BellTelegraph::new, y -> y.strength(0, true));
        Edge.isThrown("hears", noIndex, BellTelegraph::new, y -> y.hears(0, false) ? 1 : 0);
        Edge.isThrown("windIn", noIndex, BellTelegraph::new, y -> y.windIn(0, 201));
        Edge.isThrown("reason", NO_ARGUMENT, BellTelegraph::new, y -> y.reason(3));
    }

    @Says(promise = 27, terms = "Exceptions", value = "A call that throws an exception leaves the state unchanged, unless stated otherwise.")
    static void aCallThatThrowsLeavesTheStateUnchanged() {
        Edge.isRefused("a change", Given::full, 1, 0, y -> y.hours(0));
        Edge.isThrown("a question", NO_ARGUMENT, Given::full, y -> y.psalm(9));
        Edge.isTextRefused(Given::full, "h1;d0;h0", 1, 0, 2);
        Edge.isFault(Given::full, "h1;d0;h", 7);
        Edge.isThrown("a restore", NO_STATE, Given::full, y -> y.restore());
    }
}
