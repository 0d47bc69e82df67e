import java.util.ArrayDeque;
import java.util.ArrayList;
import java.util.Comparator;
import java.util.Deque;
import java.util.List;
import java.util.NoSuchElementException;
import java.util.TreeMap;
import java.util.regex.Matcher;
import java.util.regex.Pattern;

/** The telegraph a second time, written from the document in another way, to compare the class with. */
final class Model {
    private static final String COMMAND =
        "(?:s\\d>\\d:[1-8]{1,8}|h\\d{1,2}|q\\d:\\d{1,2}-\\d{1,2}|w\\d=\\d|e\\d=\\d|d\\d{1,2})";
    private static final Pattern TEXT = Pattern.compile(COMMAND + "(?:;" + COMMAND + ")*");

    /** A refusal, with its reason and the detail. */
    static final class Refused extends RuntimeException {
        private static final long serialVersionUID = 1;
        final int reason;
        final int detail;

        Refused(int reason, int detail) {
            this.reason = reason;
            this.detail = detail;
        }
    }

    private static final class Convent {
        int tone;
        int ear;
        int from;
        int until;
        int rang;
        int lost;
        int ridge;
        int wind;
    }

    private static final class Message {
        int from;
        int to;
        int at;
        String signs;
        int place;
        int rung;
        int misses;
        int how;
        int sent;
    }

    private static final class State {
        int hour;
        List<Convent> convents = new ArrayList<>();
        TreeMap<Integer, Integer> psalms = new TreeMap<>();
        List<Message> messages = new ArrayList<>();
        List<Integer> waiting = new ArrayList<>();
        List<Integer> arrived = new ArrayList<>();

        State copy() {
            State copy = new State();
            copy.hour = hour;
            copy.psalms.putAll(psalms);
            copy.waiting.addAll(waiting);
            copy.arrived.addAll(arrived);
            for (Convent c : convents) {
                Convent d = new Convent();
                d.tone = c.tone;
                d.ear = c.ear;
                d.from = c.from;
                d.until = c.until;
                d.rang = c.rang;
                d.lost = c.lost;
                d.ridge = c.ridge;
                d.wind = c.wind;
                copy.convents.add(d);
            }
            for (Message m : messages) {
                Message n = new Message();
                n.from = m.from;
                n.to = m.to;
                n.at = m.at;
                n.signs = m.signs;
                n.place = m.place;
                n.rung = m.rung;
                n.misses = m.misses;
                n.how = m.how;
                n.sent = m.sent;
                copy.messages.add(n);
            }
            return copy;
        }
    }

    private State state = new State();
    private State snapshot;
    private final Deque<State> undone = new ArrayDeque<>();
    private String buffer = "";
    private String line = "";
    private int fault = -1;
    private int[] reason;

    /** What a call answers; the arguments that it does not have mean nothing. */
    Object call(String name, int a, int b, int c) {
        switch (name) {
            case "convent": case "code": case "silence": case "wind": case "ear": case "send": case "drop":
            case "hours":
                return change(name, a, b, c);
            case "commands":
                return commands();
            case "append":
                return append((char) a);
            case "undo":
                return undo();
            case "save":
                snapshot = state.copy();
                return state.hour;
            case "restore":
                return restore();
            case "line":
                line = written(message(a));
                return line.length();
            default:
                return ask(name, a, b);
        }
    }

    private Object change(String name, int a, int b, int c) {
        State before = state.copy();
        try {
            Object answer = carryOut(name, a, b, c);
            remember(before);
            return answer;
        } catch (Refused refused) {
            state = before;
            reason = new int[] {refused.reason, refused.detail, 0};
            throw new UnsupportedOperationException();
        }
    }

    private void remember(State before) {
        undone.push(before);
        if (undone.size() > 8) {
            undone.removeLast();
        }
    }

    private Object undo() {
        if (undone.isEmpty()) {
            throw new IllegalStateException();
        }
        state = undone.pop();
        return undone.size();
    }

    private Object restore() {
        if (snapshot == null) {
            throw new IllegalStateException();
        }
        state = snapshot.copy();
        undone.clear();
        return state.hour;
    }

    private Object append(char character) {
        if (buffer.length() == 60) {
            throw new IllegalStateException();
        }
        buffer += character;
        return buffer.length();
    }

    private Object commands() {
        String text = buffer;
        buffer = "";
        fault = faultOf(text);
        if (fault >= 0) {
            throw new IllegalArgumentException();
        }
        State before = state.copy();
        String[] commands = text.split(";");
        for (int k = 0; k < commands.length; k++) {
            try {
                carryOutText(commands[k]);
            } catch (Refused refused) {
                state = before;
                reason = new int[] {refused.reason, refused.detail, k};
                throw new UnsupportedOperationException();
            }
        }
        remember(before);
        return commands.length;
    }

    /** Looks at every beginning of the text whether a text of commands can still begin so. */
    static int faultOf(String text) {
        for (int length = 1; length <= text.length(); length++) {
            Matcher matcher = TEXT.matcher(text.substring(0, length));
            if (!matcher.matches() && !matcher.hitEnd()) {
                return length - 1;
            }
        }
        return TEXT.matcher(text).matches() ? -1 : text.length();
    }

    private void carryOutText(String command) {
        String[] numbers = command.substring(1).split("[>:=-]");
        int a = Integer.parseInt(numbers[0]);
        int b = numbers.length > 1 ? Integer.parseInt(numbers[1]) : 0;
        int c = numbers.length > 2 ? Integer.parseInt(numbers[2]) : 0;
        switch (command.charAt(0)) {
            case 's': carryOut("send", a, b, c); break;
            case 'h': carryOut("hours", a, b, c); break;
            case 'q': carryOut("silence", a, b, c); break;
            case 'w': carryOut("wind", a, b, c); break;
            case 'e': carryOut("ear", a, b, c); break;
            default: carryOut("drop", a, b, c); break;
        }
    }

    private static void refuseIf(boolean applies, int reason, int detail) {
        if (applies) {
            throw new Refused(reason, detail);
        }
    }

    private static boolean isOut(int number, int least, int most) {
        return number < least || number > most;
    }

    private boolean noConvent(int convent) {
        return isOut(convent, 0, state.convents.size() - 1);
    }

    private boolean noRidge(int ridge) {
        return isOut(ridge, 0, state.convents.size() - 2);
    }

    private Object carryOut(String name, int a, int b, int c) {
        switch (name) {
            case "convent": return addConvent(a, b, c);
            case "code": {
                refuseIf(isOut(a, 1, 8) || isOut(b, 1, 150), 1, 0);
                state.psalms.forEach((sign, psalm) -> refuseIf(sign != a && psalm == b, 6, sign));
                Integer before = state.psalms.put(a, b);
                return before == null ? 0 : before;
            }
            case "silence": {
                refuseIf(noConvent(a), 3, a);
                refuseIf(isOut(b, 0, 23) || isOut(c, 0, 23), 1, 0);
                state.convents.get(a).from = b;
                state.convents.get(a).until = c;
                int hours = 0;
                for (int hour = 0; hour < 24; hour++) {
                    hours += isSilent(state.convents.get(a), hour) ? 1 : 0;
                }
                return hours;
            }
            case "wind": {
                refuseIf(noRidge(a), 3, a);
                refuseIf(isOut(b, 0, 9), 1, 0);
                int before = state.convents.get(a + 1).wind;
                state.convents.get(a + 1).wind = b;
                return before;
            }
            case "ear": {
                refuseIf(noConvent(a), 3, a);
                refuseIf(isOut(b, 0, 9), 1, 0);
                int before = state.convents.get(a).ear;
                state.convents.get(a).ear = b;
                return before;
            }
            case "send": return addMessage(a, b, c);
            case "drop": {
                refuseIf(isOut(a, 0, state.messages.size() - 1), 3, a);
                Message message = state.messages.get(a);
                refuseIf(message.how != 0, 7, message.how);
                message.how = 2;
                state.waiting.remove((Integer) a);
                return message.at;
            }
            default: {
                refuseIf(isOut(a, 1, 96), 1, 0);
                int before = state.arrived.size();
                for (int k = 0; k < a; k++) {
                    passHour(state);
                }
                return state.arrived.size() - before;
            }
        }
    }

    private int addConvent(int tone, int ear, int length) {
        int number = state.convents.size();
        refuseIf(isOut(tone, 0, 9) || isOut(ear, 0, 9) || number > 0 && isOut(length, 1, 9), 1, 0);
        refuseIf(number == 6, 2, 6);
        Convent convent = new Convent();
        convent.tone = tone;
        convent.ear = ear;
        convent.ridge = length;
        state.convents.add(convent);
        return number;
    }

    private int addMessage(int from, int to, int signs) {
        refuseIf(noConvent(from), 3, from);
        refuseIf(noConvent(to), 3, to);
        refuseIf(from == to, 5, from);
        String text = Integer.toString(signs);
        refuseIf(!text.matches("[1-8]{1,8}"), 1, 0);
        for (char sign : text.toCharArray()) {
            refuseIf(!state.psalms.containsKey(sign - '0'), 4, sign - '0');
        }
        refuseIf(state.messages.size() == 16, 2, 16);
        Message message = new Message();
        message.from = from;
        message.to = to;
        message.at = from;
        message.signs = text;
        message.sent = state.hour;
        state.messages.add(message);
        state.waiting.add(state.messages.size() - 1);
        return state.messages.size() - 1;
    }

    private static boolean isSilent(Convent convent, int hourOfDay) {
        for (int hour = convent.from; hour != convent.until; hour = (hour + 1) % 24) {
            if (hour == hourOfDay) {
                return true;
            }
        }
        return false;
    }

    private static int strength(State s, int ringer, int listener) {
        Convent between = s.convents.get(Math.max(ringer, listener));
        return 24 - s.convents.get(ringer).tone + s.convents.get(listener).ear - between.ridge * 2 - between.wind;
    }

    private static boolean hears(State s, int ringer, int listener) {
        return s.convents.get(listener).ear > 0 && strength(s, ringer, listener) > 9;
    }

    private static List<Integer> waitingAt(State s, int convent) {
        List<Integer> found = new ArrayList<>(s.waiting);
        found.removeIf(k -> s.messages.get(k).at != convent);
        return found;
    }

    private static void passHour(State s) {
        List<Integer> rungTo = new ArrayList<>();
        List<Integer> going = new ArrayList<>();
        for (int k = 0; k < s.convents.size(); k++) {
            List<Integer> here = waitingAt(s, k);
            if (isSilent(s.convents.get(k), s.hour % 24) || here.isEmpty()) {
                continue;
            }
            Message message = s.messages.get(here.get(0));
            int listener = k + Integer.signum(message.to - k);
            boolean isMissed = rungTo.contains(listener) || !hears(s, k, listener);
            rungTo.add(listener);
            s.convents.get(k).rang++;
            char sign = message.signs.charAt(message.place);
            message.rung++;
            message.misses += isMissed ? 1 : 0;
            if (sign == '?' || message.rung >= s.psalms.get(sign - '0') % 4 + 1) {
                if (sign != '?' && message.misses > 0) {
                    s.convents.get(listener).lost++;
                    message.signs = message.signs.substring(0, message.place) + "?"
                        + message.signs.substring(message.place + 1);
                }
                message.rung = 0;
                message.misses = 0;
                message.place++;
            }
            if (message.place == message.signs.length()) {
                going.add(here.get(0));
            }
        }
        for (Integer number : going) {
            Message message = s.messages.get(number);
            message.place = 0;
            message.at += Integer.signum(message.to - message.at);
            s.waiting.remove(number);
            if (message.at == message.to) {
                message.how = 1;
                s.arrived.add(number);
            } else {
                s.waiting.add(number);
            }
        }
        s.hour++;
        if (s.hour % 6 == 0) {
            for (int k = 1; k < s.convents.size(); k++) {
                s.convents.get(k).wind = (3 * s.convents.get(k).wind + k) % 10;
            }
        }
    }

    private Message message(int number) {
        if (isOut(number, 0, state.messages.size() - 1)) {
            throw new IndexOutOfBoundsException();
        }
        return state.messages.get(number);
    }

    private Convent convent(int number) {
        if (noConvent(number)) {
            throw new IndexOutOfBoundsException();
        }
        return state.convents.get(number);
    }

    private static int lostOf(Message message) {
        return message.signs.replaceAll("[^?]", "").length();
    }

    private static String written(Message m) {
        return m.from + ">" + m.to + ":" + m.signs + (m.how == 0 ? "@" + m.at : m.how == 2 ? "x" : "");
    }

    private Object ask(String name, int a, int b) {
        switch (name) {
            case "conventOf": {
                Convent c = convent(a);
                return pick(b, c.tone, c.ear, c.from, c.until, waitingAt(state, a).size(), c.rang, c.lost,
                    isSilent(c, state.hour % 24) ? 1 : 0);
            }
            case "ridgeOf":
                convent(noRidge(a) ? -1 : a);
                return pick(b, state.convents.get(a + 1).ridge, state.convents.get(a + 1).wind);
            case "psalm":
                pick(a - 1, 1, 2, 3, 4, 5, 6, 7, 8);
                return state.psalms.getOrDefault(a, 0);
            case "messageOf": {
                Message m = message(a);
                return pick(b, m.from, m.to, m.at, m.signs.length(), lostOf(m), m.place, m.rung, m.how, m.sent);
            }
            case "sign": {
                Message m = message(a);
                if (isOut(b, 0, m.signs.length() - 1)) {
                    throw new IndexOutOfBoundsException();
                }
                return m.signs.charAt(b) == '?' ? 0 : m.signs.charAt(b) - '0';
            }
            case "signs": {
                String left = message(a).signs.replace("?", "");
                return left.chars().map(sign -> 1 << sign - '0').reduce(0, (x, y) -> x | y);
            }
            case "waiting":
                convent(a);
                return element(waitingAt(state, a), b);
            case "arrived":
                return element(state.arrived, a);
            case "strength":
                return strength(state, a, neighbour(a, b));
            case "hears":
                return hears(state, a, neighbour(a, b)) ? 1 : 0;
            case "windIn": {
                convent(noRidge(a) ? -1 : a);
                if (isOut(b, 0, 200)) {
                    throw new IllegalArgumentException();
                }
                State later = state.copy();
                for (int k = 0; k < b; k++) {
                    passHour(later);
                }
                return later.convents.get(a + 1).wind;
            }
            case "arrivesIn":
                return tried(a)[0];
            case "wouldLose":
                return tried(a)[1];
            case "ranked": {
                List<Integer> ranks = new ArrayList<>(state.waiting);
                ranks.sort(Comparator.comparing((Integer k) -> -lostOf(state.messages.get(k)))
                    .thenComparing(k -> state.messages.get(k).sent).thenComparing(k -> k));
                return element(ranks, a);
            }
            default:
                return askMore(name, a);
        }
    }

    private Object askMore(String name, int a) {
        int lost = state.messages.stream().mapToInt(Model::lostOf).sum();
        int sent = state.messages.stream().mapToInt(m -> m.signs.length()).sum();
        switch (name) {
            case "lost":
                return state.convents.stream().mapToInt(c -> c.lost).sum();
            case "lostAgain":
                return lost;
            case "faultPosition":
                return fault;
            case "reason":
                pick(a, 1, 2, 3);
                if (reason == null) {
                    throw new NoSuchElementException();
                }
                return reason[a];
            case "character":
                if (isOut(a, 0, line.length() - 1)) {
                    throw new IndexOutOfBoundsException();
                }
                return (int) line.charAt(a);
            case "meanEar": {
                int ears = state.convents.stream().mapToInt(c -> c.ear).sum();
                failIf(state.convents.isEmpty());
                return (float) ears / (float) state.convents.size();
            }
            case "lostShare":
                failIf(state.messages.isEmpty());
                return (double) lost / (double) sent;
            default:
                return pick(a, state.hour, state.hour % 24, state.convents.size(), state.psalms.size(),
                    state.messages.size(), count(0), count(1), count(2),
                    state.convents.stream().mapToInt(c -> c.rang).sum(),
                    (int) state.convents.stream().filter(c -> isSilent(c, state.hour % 24)).count(),
                    undone.size(), buffer.length());
        }
    }

    private int count(int how) {
        return (int) state.messages.stream().filter(m -> m.how == how).count();
    }

    private int[] tried(int message) {
        message(message);
        State later = state.copy();
        for (int hours = 1; hours <= 400 && message(message).how == 0; hours++) {
            passHour(later);
            if (later.arrived.contains(message)) {
                return new int[] {hours, lostOf(later.messages.get(message))};
            }
        }
        throw new NoSuchElementException();
    }

    private int neighbour(int convent, int isUp) {
        convent(convent);
        int next = isUp != 0 ? convent + 1 : convent - 1;
        if (noConvent(next)) {
            throw new NoSuchElementException();
        }
        return next;
    }

    private static int element(List<Integer> list, int place) {
        if (isOut(place, 0, list.size() - 1)) {
            throw new NoSuchElementException();
        }
        return list.get(place);
    }

    private static int pick(int what, int... numbers) {
        if (isOut(what, 0, numbers.length - 1)) {
            throw new IllegalArgumentException();
        }
        return numbers[what];
    }

    private static void failIf(boolean isEmpty) {
        if (isEmpty) {
            throw new ArithmeticException();
        }
    }
}
