import java.util.NoSuchElementException;

/** A bell telegraph of convents on hilltops. The document ../shared/DOC.md says what each call promises. */
public final class BellTelegraph {
    private static final int MOST_CONVENTS = 6;
    private static final int MOST_RIDGES = MOST_CONVENTS - 1;
    private static final int MOST_MESSAGES = 16;
    private static final int MOST_SIGNS = 8;
    private static final int HIGHEST_SIGN = 8;
    private static final int HIGHEST_PSALM = 150;
    private static final int HIGHEST_DIGIT = 9;
    private static final int GREATEST_SIGNS = 88888888;

    private static final int HOURS_OF_DAY = 24;
    private static final int HOURS_OF_WIND = 6;
    private static final int MOST_HOURS = 96;
    private static final int MOST_WIND_HOURS = 200;
    private static final int MOST_TRIAL_HOURS = 400;
    private static final int FULL_STRENGTH = 24;
    private static final int HEARD_STRENGTH = 10;

    private static final int UNDER_WAY = 0;
    private static final int ARRIVED = 1;
    private static final int DROPPED = 2;

    private static final int NO_REASON = 0;
    private static final int OUT_OF_RANGE = 1;
    private static final int TOO_MANY = 2;
    private static final int NOT_THERE = 3;
    private static final int NO_PSALM = 4;
    private static final int SAME_CONVENT = 5;
    private static final int PSALM_TAKEN = 6;
    private static final int NOT_UNDER_WAY = 7;

    private static final int TO_CONVENT = 0;
    private static final int TO_CODE = 1;
    private static final int TO_SILENCE = 2;
    private static final int TO_WIND = 3;
    private static final int TO_EAR = 4;
    private static final int TO_SEND = 5;
    private static final int TO_DROP = 6;
    private static final int TO_HOURS = 7;

    private static final int MOST_CHARACTERS = 60;
    // The shortest command has 2 characters and a ";" behind it, so 60 characters hold no more than 20.
    private static final int MOST_COMMANDS = 20;
    private static final int MOST_LINE = 14;
    private static final int MOST_CHANGES = 8;

    // Every answer of a change is 0 or more, so this one can stand for a refusal.
    private static final int REFUSED = -1;
    private static final int NONE = -1;

    private final Network now;
    private final Network trial;
    private final Network saved;
    private boolean isSaved;
    private final History history;
    private final Refusal refusal;
    private final Command single;
    private final CommandText text;
    private int faultPosition;
    private final char[] line;
    private int lineLength;

    public BellTelegraph() {
        now = new Network();
        trial = new Network();
        saved = new Network();
        history = new History();
        refusal = new Refusal();
        single = new Command();
        text = new CommandText();
        faultPosition = NONE;
        line = new char[MOST_LINE];
    }

    // Changes

    public int convent(int tone, int ear, int length) throws UnsupportedOperationException {
        single.set(TO_CONVENT, tone, ear, length);
        return changeBySingle();
    }

    public int code(int sign, int psalm) throws UnsupportedOperationException {
        single.set(TO_CODE, sign, psalm, 0);
        return changeBySingle();
    }

    public int silence(int convent, int from, int until) throws UnsupportedOperationException {
        single.set(TO_SILENCE, convent, from, until);
        return changeBySingle();
    }

    public int wind(int ridge, int wind) throws UnsupportedOperationException {
        single.set(TO_WIND, ridge, wind, 0);
        return changeBySingle();
    }

    public int ear(int convent, int ear) throws UnsupportedOperationException {
        single.set(TO_EAR, convent, ear, 0);
        return changeBySingle();
    }

    public int send(int from, int to, int signs) throws UnsupportedOperationException {
        single.set(TO_SEND, from, to, signs);
        return changeBySingle();
    }

    public int drop(int message) throws UnsupportedOperationException {
        single.set(TO_DROP, message, 0, 0);
        return changeBySingle();
    }

    public int hours(int hours) throws UnsupportedOperationException {
        single.set(TO_HOURS, hours, 0, 0);
        return changeBySingle();
    }

    private int changeBySingle() {
        history.spare().takeFrom(now);
        int answer = now.carryOut(single, refusal);
        if (answer == REFUSED) {
            refusal.command = 0;
            throw new UnsupportedOperationException();
        }
        history.keepSpare();
        return answer;
    }

    // Convents, ridges, signs

    public int conventOf(int convent, int what) throws IndexOutOfBoundsException, IllegalArgumentException {
        Convent asked = askedConvent(convent);
        switch (what) {
            case 0: return asked.tone;
            case 1: return asked.ear;
            case 2: return asked.silentFrom;
            case 3: return asked.silentUntil;
            case 4: return asked.waitingCount;
            case 5: return asked.hoursRung;
            case 6: return asked.signsLost;
            case 7: return asked.isSilentAt(now.hourOfDay()) ? 1 : 0;
            default: throw new IllegalArgumentException();
        }
    }

    public int ridgeOf(int ridge, int what) throws IndexOutOfBoundsException, IllegalArgumentException {
        Ridge asked = askedRidge(ridge);
        switch (what) {
            case 0: return asked.length;
            case 1: return asked.wind;
            default: throw new IllegalArgumentException();
        }
    }

    public int psalm(int sign) throws IllegalArgumentException {
        if (!isSign(sign)) {
            throw new IllegalArgumentException();
        }
        return now.psalms[sign];
    }

    public int strength(int convent, boolean isUp) throws IndexOutOfBoundsException, NoSuchElementException {
        return now.strengthBetween(convent, askedNeighbour(convent, isUp));
    }

    public boolean hears(int convent, boolean isUp) throws IndexOutOfBoundsException, NoSuchElementException {
        return now.isHeardBetween(convent, askedNeighbour(convent, isUp));
    }

    public int windIn(int ridge, int hours) throws IndexOutOfBoundsException, IllegalArgumentException {
        int wind = askedRidge(ridge).wind;
        if (hours < 0 || hours > MOST_WIND_HOURS) {
            throw new IllegalArgumentException();
        }
        for (int gone = 1; gone <= hours; gone++) {
            if ((now.hour + gone) % HOURS_OF_WIND == 0) {
                wind = turnedWind(wind, ridge);
            }
        }
        return wind;
    }

    public float meanEar() throws ArithmeticException {
        if (now.conventCount == 0) {
            throw new ArithmeticException();
        }
        int sum = 0;
        for (int k = 0; k < now.conventCount; k++) {
            sum += now.convents[k].ear;
        }
        return (float) sum / (float) now.conventCount;
    }

    private Convent askedConvent(int convent) {
        if (!now.hasConvent(convent)) {
            throw new IndexOutOfBoundsException();
        }
        return now.convents[convent];
    }

    private Ridge askedRidge(int ridge) {
        if (!now.hasRidge(ridge)) {
            throw new IndexOutOfBoundsException();
        }
        return now.ridges[ridge];
    }

    private int askedNeighbour(int convent, boolean isUp) {
        if (!now.hasConvent(convent)) {
            throw new IndexOutOfBoundsException();
        }
        int next = isUp ? convent + 1 : convent - 1;
        if (!now.hasConvent(next)) {
            throw new NoSuchElementException();
        }
        return next;
    }

    // Messages

    public int messageOf(int message, int what) throws IndexOutOfBoundsException, IllegalArgumentException {
        Message asked = askedMessage(message);
        switch (what) {
            case 0: return asked.from;
            case 1: return asked.to;
            case 2: return asked.at;
            case 3: return asked.signCount;
            case 4: return asked.lostSigns();
            case 5: return asked.place;
            case 6: return asked.hoursRung;
            case 7: return asked.how;
            case 8: return asked.hourSent;
            default: throw new IllegalArgumentException();
        }
    }

    public int sign(int message, int place) throws IndexOutOfBoundsException {
        Message asked = askedMessage(message);
        if (place < 0 || place >= asked.signCount) {
            throw new IndexOutOfBoundsException();
        }
        return asked.signs[place];
    }

    public int signs(int message) throws IndexOutOfBoundsException {
        Message asked = askedMessage(message);
        int bits = 0;
        for (int place = 0; place < asked.signCount; place++) {
            if (asked.signs[place] != 0) {
                bits |= 1 << asked.signs[place];
            }
        }
        return bits;
    }

    public int waiting(int convent, int place) throws IndexOutOfBoundsException, NoSuchElementException {
        Convent asked = askedConvent(convent);
        if (place < 0 || place >= asked.waitingCount) {
            throw new NoSuchElementException();
        }
        return asked.queue[place];
    }

    public int arrived(int place) throws NoSuchElementException {
        if (place < 0 || place >= now.arrivedCount) {
            throw new NoSuchElementException();
        }
        return now.arrivals[place];
    }

    public int arrivesIn(int message) throws IndexOutOfBoundsException, NoSuchElementException {
        int hours = hoursUntilArrived(askedMessage(message), message);
        if (hours == NONE) {
            throw new NoSuchElementException();
        }
        return hours;
    }

    public int wouldLose(int message) throws IndexOutOfBoundsException, NoSuchElementException {
        if (hoursUntilArrived(askedMessage(message), message) == NONE) {
            throw new NoSuchElementException();
        }
        return trial.messages[message].lostSigns();
    }

    /** Lets hours go by in the trial until a message is arrived there; answers how many, or NONE. */
    private int hoursUntilArrived(Message asked, int number) {
        if (asked.how != UNDER_WAY) {
            return NONE;
        }
        trial.takeFrom(now);
        for (int hours = 1; hours <= MOST_TRIAL_HOURS; hours++) {
            trial.passHour();
            if (trial.messages[number].how == ARRIVED) {
                return hours;
            }
        }
        return NONE;
    }

    private Message askedMessage(int message) {
        if (!now.hasMessage(message)) {
            throw new IndexOutOfBoundsException();
        }
        return now.messages[message];
    }

    public int ranked(int rank) throws NoSuchElementException {
        int found = NONE;
        for (int k = 0; k < now.messageCount && found == NONE; k++) {
            if (now.messages[k].how == UNDER_WAY && now.countAheadInRank(k) == rank) {
                found = k;
            }
        }
        if (found == NONE) {
            throw new NoSuchElementException();
        }
        return found;
    }

    public int lost() {
        int sum = 0;
        for (int k = 0; k < now.conventCount; k++) {
            sum += now.convents[k].signsLost;
        }
        return sum;
    }

    public int lostAgain() {
        int sum = 0;
        for (int k = 0; k < now.messageCount; k++) {
            sum += now.messages[k].lostSigns();
        }
        return sum;
    }

    public double lostShare() throws ArithmeticException {
        if (now.messageCount == 0) {
            throw new ArithmeticException();
        }
        int sent = 0;
        for (int k = 0; k < now.messageCount; k++) {
            sent += now.messages[k].signCount;
        }
        return (double) lostAgain() / (double) sent;
    }

    // Texts and reasons

    public int append(char character) throws IllegalStateException {
        if (text.length >= MOST_CHARACTERS) {
            throw new IllegalStateException();
        }
        text.add(character);
        return text.length;
    }

    public int commands() throws IllegalArgumentException, UnsupportedOperationException {
        faultPosition = text.read();
        text.length = 0;
        if (faultPosition != NONE) {
            throw new IllegalArgumentException();
        }
        history.spare().takeFrom(now);
        for (int k = 0; k < text.commandCount; k++) {
            if (now.carryOut(text.commands[k], refusal) == REFUSED) {
                refusal.command = k;
                now.takeFrom(history.spare());
                throw new UnsupportedOperationException();
            }
        }
        history.keepSpare();
        return text.commandCount;
    }

    public int faultPosition() {
        return faultPosition;
    }

    public int reason(int what) throws IllegalArgumentException, NoSuchElementException {
        if (what < 0 || what > 2) {
            throw new IllegalArgumentException();
        }
        if (refusal.reason == NO_REASON) {
            throw new NoSuchElementException();
        }
        switch (what) {
            case 0: return refusal.reason;
            case 1: return refusal.detail;
            default: return refusal.command;
        }
    }

    // The line

    public int line(int message) throws IndexOutOfBoundsException {
        Message written = askedMessage(message);
        lineLength = 0;
        writeDigit(written.from);
        write('>');
        writeDigit(written.to);
        write(':');
        for (int place = 0; place < written.signCount; place++) {
            if (written.signs[place] == 0) {
                write('?');
            } else {
                writeDigit(written.signs[place]);
            }
        }
        if (written.how == UNDER_WAY) {
            write('@');
            writeDigit(written.at);
        } else if (written.how == DROPPED) {
            write('x');
        }
        return lineLength;
    }

    private void writeDigit(int digit) {
        write((char) ('0' + digit));
    }

    private void write(char character) {
        if (lineLength < MOST_LINE) {
            line[lineLength] = character;
            lineLength++;
        }
    }

    public char character(int index) throws IndexOutOfBoundsException {
        if (index < 0 || index >= lineLength) {
            throw new IndexOutOfBoundsException();
        }
        return line[index];
    }

    // Accounts

    public int account(int what) throws IllegalArgumentException {
        switch (what) {
            case 0: return now.hour;
            case 1: return now.hourOfDay();
            case 2: return now.conventCount;
            case 3: return now.countSignsWithPsalm();
            case 4: return now.messageCount;
            case 5: return now.countMessages(UNDER_WAY);
            case 6: return now.countMessages(ARRIVED);
            case 7: return now.countMessages(DROPPED);
            case 8: return now.countHoursRung();
            case 9: return now.countSilentConvents();
            case 10: return history.kept;
            case 11: return text.length;
            default: throw new IllegalArgumentException();
        }
    }

    // Undo and the snapshot

    public int undo() throws IllegalStateException {
        if (history.kept == 0) {
            throw new IllegalStateException();
        }
        now.takeFrom(history.takeLatest());
        return history.kept;
    }

    public int save() {
        saved.takeFrom(now);
        isSaved = true;
        return now.hour;
    }

    public int restore() throws IllegalStateException {
        if (!isSaved) {
            throw new IllegalStateException();
        }
        now.takeFrom(saved);
        history.kept = 0;
        return now.hour;
    }

    private static boolean isDigit(int number) {
        return number >= 0 && number <= HIGHEST_DIGIT;
    }

    private static boolean isSign(int number) {
        return number >= 1 && number <= HIGHEST_SIGN;
    }

    private static boolean isHourOfDay(int number) {
        return number >= 0 && number < HOURS_OF_DAY;
    }

    private static int turnedWind(int wind, int ridge) {
        return (3 * wind + ridge + 1) % 10;
    }

    /** A convent, with the messages that wait there by their numbers. */
    private static final class Convent {
        int tone;
        int ear;
        int silentFrom;
        int silentUntil;
        int hoursRung;
        int signsLost;
        int waitingCount;
        final int[] queue = new int[MOST_MESSAGES];

        /** The row may have held a convent that was undone, so everything is set. */
        void begin(int itsTone, int itsEar) {
            tone = itsTone;
            ear = itsEar;
            silentFrom = 0;
            silentUntil = 0;
            hoursRung = 0;
            signsLost = 0;
            waitingCount = 0;
        }

        void takeFrom(Convent other) {
            tone = other.tone;
            ear = other.ear;
            silentFrom = other.silentFrom;
            silentUntil = other.silentUntil;
            hoursRung = other.hoursRung;
            signsLost = other.signsLost;
            waitingCount = other.waitingCount;
            System.arraycopy(other.queue, 0, queue, 0, MOST_MESSAGES);
        }

        boolean isSilentAt(int hourOfDay) {
            if (silentFrom <= silentUntil) {
                return hourOfDay >= silentFrom && hourOfDay < silentUntil;
            }
            return hourOfDay >= silentFrom || hourOfDay < silentUntil;
        }

        /** The message that waits here first, or NONE. */
        int firstWaiting() {
            return waitingCount > 0 ? queue[0] : NONE;
        }

        void join(int message) {
            if (waitingCount < MOST_MESSAGES) {
                queue[waitingCount] = message;
                waitingCount++;
            }
        }

        void leave(int message) {
            int left = 0;
            for (int place = 0; place < waitingCount; place++) {
                if (queue[place] != message) {
                    queue[left] = queue[place];
                    left++;
                }
            }
            waitingCount = left;
        }
    }

    /** What is between two convents. */
    private static final class Ridge {
        int length;
        int wind;
    }

    /** A message; a sign of it that is lost is 0. */
    private static final class Message {
        int from;
        int to;
        int at;
        int how;
        int hourSent;
        int place;
        int hoursRung;
        boolean isHeard;
        int signCount;
        final int[] signs = new int[MOST_SIGNS];

        void begin(int itsFrom, int itsTo, int hour) {
            from = itsFrom;
            to = itsTo;
            at = itsFrom;
            how = UNDER_WAY;
            hourSent = hour;
            makeDue(0);
        }

        void takeFrom(Message other) {
            from = other.from;
            to = other.to;
            at = other.at;
            how = other.how;
            hourSent = other.hourSent;
            place = other.place;
            hoursRung = other.hoursRung;
            isHeard = other.isHeard;
            signCount = other.signCount;
            System.arraycopy(other.signs, 0, signs, 0, MOST_SIGNS);
        }

        void makeDue(int itsPlace) {
            place = itsPlace;
            hoursRung = 0;
            isHeard = true;
        }

        boolean isRungOut() {
            return place >= signCount;
        }

        /** The sign that is due, or 0 if it is lost. */
        int dueSign() {
            return place < signCount ? signs[place] : 0;
        }

        void loseDueSign() {
            if (place < signCount) {
                signs[place] = 0;
            }
        }

        int nextFrom(int convent) {
            return to > convent ? convent + 1 : convent - 1;
        }

        int lostSigns() {
            int count = 0;
            for (int k = 0; k < signCount; k++) {
                if (signs[k] == 0) {
                    count++;
                }
            }
            return count;
        }
    }

    /** What a call or a command of a text asks for. */
    private static final class Command {
        int kind;
        int first;
        int second;
        int third;

        void set(int itsKind, int itsFirst, int itsSecond, int itsThird) {
            kind = itsKind;
            first = itsFirst;
            second = itsSecond;
            third = itsThird;
        }
    }

    /** The reason that is kept. */
    private static final class Refusal {
        int reason = NO_REASON;
        int detail;
        int command;

        int because(int itsReason, int itsDetail) {
            reason = itsReason;
            detail = itsDetail;
            return REFUSED;
        }
    }

    /** All that can be undone. */
    private static final class Network {
        int hour;
        int conventCount;
        final Convent[] convents = new Convent[MOST_CONVENTS];
        final Ridge[] ridges = new Ridge[MOST_RIDGES];
        final int[] psalms = new int[HIGHEST_SIGN + 1];
        int messageCount;
        final Message[] messages = new Message[MOST_MESSAGES];
        int arrivedCount;
        final int[] arrivals = new int[MOST_MESSAGES];
        // This one holds nothing between two calls, so takeFrom leaves it alone.
        final int[] spelled = new int[MOST_SIGNS];

        Network() {
            for (int k = 0; k < MOST_CONVENTS; k++) {
                convents[k] = new Convent();
            }
            for (int k = 0; k < MOST_RIDGES; k++) {
                ridges[k] = new Ridge();
            }
            for (int k = 0; k < MOST_MESSAGES; k++) {
                messages[k] = new Message();
            }
        }

        void takeFrom(Network other) {
            hour = other.hour;
            conventCount = other.conventCount;
            for (int k = 0; k < conventCount; k++) {
                convents[k].takeFrom(other.convents[k]);
            }
            for (int k = 0; k < MOST_RIDGES; k++) {
                ridges[k].length = other.ridges[k].length;
                ridges[k].wind = other.ridges[k].wind;
            }
            System.arraycopy(other.psalms, 0, psalms, 0, HIGHEST_SIGN + 1);
            messageCount = other.messageCount;
            for (int k = 0; k < messageCount; k++) {
                messages[k].takeFrom(other.messages[k]);
            }
            arrivedCount = other.arrivedCount;
            System.arraycopy(other.arrivals, 0, arrivals, 0, MOST_MESSAGES);
        }

        boolean hasConvent(int convent) {
            return convent >= 0 && convent < conventCount;
        }

        boolean hasRidge(int ridge) {
            return ridge >= 0 && ridge < conventCount - 1;
        }

        boolean hasMessage(int message) {
            return message >= 0 && message < messageCount;
        }

        int hourOfDay() {
            return hour % HOURS_OF_DAY;
        }

        int carryOut(Command command, Refusal refusal) {
            switch (command.kind) {
                case TO_CONVENT: return addConvent(command.first, command.second, command.third, refusal);
                case TO_CODE: return givePsalm(command.first, command.second, refusal);
                case TO_SILENCE: return setSilence(command.first, command.second, command.third, refusal);
                case TO_WIND: return setWind(command.first, command.second, refusal);
                case TO_EAR: return setEar(command.first, command.second, refusal);
                case TO_SEND: return addMessage(command.first, command.second, command.third, refusal);
                case TO_DROP: return dropMessage(command.first, refusal);
                default: return passHours(command.first, refusal);
            }
        }

        int addConvent(int tone, int ear, int length, Refusal refusal) {
            boolean isLength = conventCount == 0 || length >= 1 && length <= HIGHEST_DIGIT;
            if (!isDigit(tone) || !isDigit(ear) || !isLength) {
                return refusal.because(OUT_OF_RANGE, 0);
            }
            if (conventCount >= MOST_CONVENTS) {
                return refusal.because(TOO_MANY, MOST_CONVENTS);
            }
            if (conventCount > 0) {
                Ridge ridge = ridges[conventCount - 1];
                ridge.length = length;
                ridge.wind = 0;
            }
            convents[conventCount].begin(tone, ear);
            conventCount++;
            return conventCount - 1;
        }

        int givePsalm(int sign, int psalm, Refusal refusal) {
            if (!isSign(sign) || psalm < 1 || psalm > HIGHEST_PSALM) {
                return refusal.because(OUT_OF_RANGE, 0);
            }
            for (int other = 1; other <= HIGHEST_SIGN; other++) {
                if (other != sign && psalms[other] == psalm) {
                    return refusal.because(PSALM_TAKEN, other);
                }
            }
            int before = psalms[sign];
            psalms[sign] = psalm;
            return before;
        }

        int setSilence(int convent, int from, int until, Refusal refusal) {
            if (!hasConvent(convent)) {
                return refusal.because(NOT_THERE, convent);
            }
            if (!isHourOfDay(from) || !isHourOfDay(until)) {
                return refusal.because(OUT_OF_RANGE, 0);
            }
            convents[convent].silentFrom = from;
            convents[convent].silentUntil = until;
            return (until - from + HOURS_OF_DAY) % HOURS_OF_DAY;
        }

        int setWind(int ridge, int wind, Refusal refusal) {
            if (!hasRidge(ridge)) {
                return refusal.because(NOT_THERE, ridge);
            }
            if (!isDigit(wind)) {
                return refusal.because(OUT_OF_RANGE, 0);
            }
            int before = ridges[ridge].wind;
            ridges[ridge].wind = wind;
            return before;
        }

        int setEar(int convent, int ear, Refusal refusal) {
            if (!hasConvent(convent)) {
                return refusal.because(NOT_THERE, convent);
            }
            if (!isDigit(ear)) {
                return refusal.because(OUT_OF_RANGE, 0);
            }
            int before = convents[convent].ear;
            convents[convent].ear = ear;
            return before;
        }

        int addMessage(int from, int to, int signs, Refusal refusal) {
            if (!hasConvent(from)) {
                return refusal.because(NOT_THERE, from);
            }
            if (!hasConvent(to)) {
                return refusal.because(NOT_THERE, to);
            }
            if (from == to) {
                return refusal.because(SAME_CONVENT, from);
            }
            int signCount = spell(signs);
            if (signCount == 0) {
                return refusal.because(OUT_OF_RANGE, 0);
            }
            for (int place = 0; place < signCount; place++) {
                if (psalms[spelled[place]] == 0) {
                    return refusal.because(NO_PSALM, spelled[place]);
                }
            }
            if (messageCount >= MOST_MESSAGES) {
                return refusal.because(TOO_MANY, MOST_MESSAGES);
            }
            Message message = messages[messageCount];
            message.begin(from, to, hour);
            message.signCount = signCount;
            System.arraycopy(spelled, 0, message.signs, 0, signCount);
            convents[from].join(messageCount);
            messageCount++;
            return messageCount - 1;
        }

        /** Spells the digits of a number; answers how many they are, or 0 if they are not signs. */
        int spell(int signs) {
            if (signs < 1 || signs > GREATEST_SIGNS) {
                return 0;
            }
            int count = 1;
            int least = 10;
            while (count < MOST_SIGNS && signs >= least) {
                count++;
                least *= 10;
            }
            int rest = signs;
            for (int place = count - 1; place >= 0; place--) {
                int digit = rest % 10;
                if (!isSign(digit)) {
                    return 0;
                }
                spelled[place] = digit;
                rest /= 10;
            }
            return count;
        }

        int dropMessage(int message, Refusal refusal) {
            if (!hasMessage(message)) {
                return refusal.because(NOT_THERE, message);
            }
            Message dropped = messages[message];
            if (dropped.how != UNDER_WAY) {
                return refusal.because(NOT_UNDER_WAY, dropped.how);
            }
            dropped.how = DROPPED;
            if (hasConvent(dropped.at)) {
                convents[dropped.at].leave(message);
            }
            return dropped.at;
        }

        int passHours(int hours, Refusal refusal) {
            if (hours < 1 || hours > MOST_HOURS) {
                return refusal.because(OUT_OF_RANGE, 0);
            }
            int before = arrivedCount;
            for (int gone = 0; gone < hours; gone++) {
                passHour();
            }
            return arrivedCount - before;
        }

        void passHour() {
            int listenersRungTo = 0;
            int hourOfDay = hourOfDay();
            for (int k = 0; k < conventCount; k++) {
                int number = convents[k].firstWaiting();
                if (hasMessage(number) && !convents[k].isSilentAt(hourOfDay)) {
                    int listener = messages[number].nextFrom(k);
                    boolean isFirst = (listenersRungTo >> listener & 1) == 0;
                    listenersRungTo |= 1 << listener;
                    convents[k].hoursRung++;
                    ring(messages[number], listener, isFirst && isHeardBetween(k, listener));
                }
            }
            // Only now, so that no message is rung at two convents in one hour.
            for (int k = 0; k < conventCount; k++) {
                int number = convents[k].firstWaiting();
                if (hasMessage(number) && messages[number].isRungOut()) {
                    moveOn(messages[number], number, k);
                }
            }
            beginNextHour();
        }

        /** Rings the sign that is due for an hour; behind its last hour the next place is due. */
        void ring(Message message, int listener, boolean isHeard) {
            int sign = message.dueSign();
            message.hoursRung++;
            message.isHeard = message.isHeard && isHeard;
            if (message.hoursRung < hoursOf(sign)) {
                return;
            }
            if (isSign(sign) && !message.isHeard) {
                message.loseDueSign();
                if (hasConvent(listener)) {
                    convents[listener].signsLost++;
                }
            }
            message.makeDue(message.place + 1);
        }

        /** For how many hours a sign is rung; one that is lost, whatever it was, for 1. */
        int hoursOf(int sign) {
            return sign >= 1 && sign <= HIGHEST_SIGN ? psalms[sign] % 4 + 1 : 1;
        }

        void moveOn(Message message, int number, int convent) {
            convents[convent].leave(number);
            message.at = message.nextFrom(convent);
            message.makeDue(0);
            if (message.at == message.to) {
                arrive(message, number);
            } else if (hasConvent(message.at)) {
                convents[message.at].join(number);
            }
        }

        void arrive(Message message, int number) {
            message.how = ARRIVED;
            if (arrivedCount < MOST_MESSAGES) {
                arrivals[arrivedCount] = number;
                arrivedCount++;
            }
        }

        void beginNextHour() {
            hour++;
            if (hour % HOURS_OF_WIND == 0) {
                for (int k = 0; k < MOST_RIDGES; k++) {
                    ridges[k].wind = turnedWind(ridges[k].wind, k);
                }
            }
        }

        /** Asked only of two convents that are next to each other, so that there is a ridge between them. */
        int strengthBetween(int ringer, int listener) {
            Ridge ridge = ridges[ringer < listener ? ringer : listener];
            return FULL_STRENGTH - convents[ringer].tone + convents[listener].ear - 2 * ridge.length - ridge.wind;
        }

        boolean isHeardBetween(int ringer, int listener) {
            return hasConvent(listener) && convents[listener].ear != 0
                && strengthBetween(ringer, listener) >= HEARD_STRENGTH;
        }

        int countAheadInRank(int message) {
            int count = 0;
            for (int k = 0; k < messageCount; k++) {
                if (messages[k].how == UNDER_WAY && isAheadInRank(k, message)) {
                    count++;
                }
            }
            return count;
        }

        boolean isAheadInRank(int one, int other) {
            int oneLost = messages[one].lostSigns();
            int otherLost = messages[other].lostSigns();
            if (oneLost != otherLost) {
                return oneLost > otherLost;
            }
            if (messages[one].hourSent != messages[other].hourSent) {
                return messages[one].hourSent < messages[other].hourSent;
            }
            return one < other;
        }

        int countSignsWithPsalm() {
            int count = 0;
            for (int sign = 1; sign <= HIGHEST_SIGN; sign++) {
                if (psalms[sign] != 0) {
                    count++;
                }
            }
            return count;
        }

        int countMessages(int how) {
            int count = 0;
            for (int k = 0; k < messageCount; k++) {
                if (messages[k].how == how) {
                    count++;
                }
            }
            return count;
        }

        int countHoursRung() {
            int sum = 0;
            for (int k = 0; k < conventCount; k++) {
                sum += convents[k].hoursRung;
            }
            return sum;
        }

        int countSilentConvents() {
            int count = 0;
            for (int k = 0; k < conventCount; k++) {
                if (convents[k].isSilentAt(hourOfDay())) {
                    count++;
                }
            }
            return count;
        }
    }

    /** What there was before each of the latest changes, in a ring of rows; one row is always spare. */
    private static final class History {
        final Network[] rows = new Network[MOST_CHANGES + 1];
        int spareRow;
        int kept;

        History() {
            for (int k = 0; k < MOST_CHANGES + 1; k++) {
                rows[k] = new Network();
            }
        }

        Network spare() {
            return rows[spareRow];
        }

        void keepSpare() {
            spareRow = (spareRow + 1) % (MOST_CHANGES + 1);
            if (kept < MOST_CHANGES) {
                kept++;
            }
        }

        /** The latest row becomes the spare one; asked only while a row is kept. */
        Network takeLatest() {
            spareRow = (spareRow + MOST_CHANGES) % (MOST_CHANGES + 1);
            kept--;
            return rows[spareRow];
        }
    }

    /** The text buffer, and the commands that were read from it. */
    private static final class CommandText {
        final char[] characters = new char[MOST_CHARACTERS];
        int length;
        final Command[] commands = new Command[MOST_COMMANDS];
        int commandCount;
        int position;

        CommandText() {
            for (int k = 0; k < MOST_COMMANDS; k++) {
                commands[k] = new Command();
            }
        }

        void add(char character) {
            if (length < MOST_CHARACTERS) {
                characters[length] = character;
                length++;
            }
        }

        /** Reads the commands; answers the fault position, or NONE. Each part stops reading ahead of its fault. */
        int read() {
            position = 0;
            commandCount = 0;
            boolean isGood = readCommand();
            for (int turn = 0; isGood && position < length && turn < MOST_CHARACTERS; turn++) {
                isGood = readCharacter(';') && readCommand();
            }
            return isGood ? NONE : position;
        }

        boolean readCommand() {
            if (commandCount >= MOST_COMMANDS) {
                return false;
            }
            Command command = commands[commandCount];
            commandCount++;
            switch (nextCharacter()) {
                case 's': return readSend(command);
                case 'h': return readOneNumber(command, TO_HOURS);
                case 'q': return readSilence(command);
                case 'w': return readSetting(command, TO_WIND);
                case 'e': return readSetting(command, TO_EAR);
                case 'd': return readOneNumber(command, TO_DROP);
                default: return false;
            }
        }

        boolean readSend(Command command) {
            position++;
            int from = readDigit(0, HIGHEST_DIGIT);
            if (from == NONE || !readCharacter('>')) {
                return false;
            }
            int to = readDigit(0, HIGHEST_DIGIT);
            if (to == NONE || !readCharacter(':')) {
                return false;
            }
            int signs = readSigns();
            command.set(TO_SEND, from, to, signs);
            return signs != NONE;
        }

        boolean readOneNumber(Command command, int kind) {
            position++;
            int number = readNumber();
            command.set(kind, number, 0, 0);
            return number != NONE;
        }

        boolean readSilence(Command command) {
            position++;
            int convent = readDigit(0, HIGHEST_DIGIT);
            if (convent == NONE || !readCharacter(':')) {
                return false;
            }
            int from = readNumber();
            if (from == NONE || !readCharacter('-')) {
                return false;
            }
            int until = readNumber();
            command.set(TO_SILENCE, convent, from, until);
            return until != NONE;
        }

        boolean readSetting(Command command, int kind) {
            position++;
            int number = readDigit(0, HIGHEST_DIGIT);
            if (number == NONE || !readCharacter('=')) {
                return false;
            }
            int value = readDigit(0, HIGHEST_DIGIT);
            command.set(kind, number, value, 0);
            return value != NONE;
        }

        /** The next character, or NONE behind the last one. */
        int nextCharacter() {
            return position < length ? characters[position] : NONE;
        }

        boolean readCharacter(char wanted) {
            if (nextCharacter() != wanted) {
                return false;
            }
            position++;
            return true;
        }

        int readDigit(int lowest, int highest) {
            int digit = nextCharacter() - '0';
            if (digit < lowest || digit > highest) {
                return NONE;
            }
            position++;
            return digit;
        }

        int readNumber() {
            int tens = readDigit(0, HIGHEST_DIGIT);
            if (tens == NONE) {
                return NONE;
            }
            int ones = readDigit(0, HIGHEST_DIGIT);
            return ones == NONE ? tens : 10 * tens + ones;
        }

        int readSigns() {
            int signs = NONE;
            for (int place = 0; place < MOST_SIGNS; place++) {
                int sign = readDigit(1, HIGHEST_SIGN);
                if (sign == NONE) {
                    return signs;
                }
                signs = place == 0 ? sign : 10 * signs + sign;
            }
            return signs;
        }
    }
}
