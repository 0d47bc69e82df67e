import java.util.Random;

/** Long runs of calls, each answered as the model answers it. The seeds are fixed, so a run is always the same. */
public final class ModelTest {
    private static final int RUNS = 1500;
    private static final int CALLS = 512;
    private static final String[] CHANGES = {
        "convent", "code", "silence", "wind", "ear", "send", "send", "send", "drop", "hours", "hours", "hours", "hours",
    };
    private static final String[] ASKED = {
        "conventOf", "ridgeOf", "psalm", "messageOf", "sign", "signs", "waiting", "arrived", "strength", "hears",
        "windIn", "arrivesIn", "wouldLose", "ranked", "lost", "lostAgain", "faultPosition", "reason", "line",
        "character", "meanEar", "lostShare", "account",
    };
    private static final int[] ODD = {Integer.MIN_VALUE, Integer.MAX_VALUE, -1, -2, 1000, 0x40000000, 65536};

    private final Random random;
    private final BellTelegraph real = new BellTelegraph();
    private final Model model = new Model();
    private final StringBuilder told = new StringBuilder();
    private int calls = 0;

    private ModelTest(int seed) {
        random = new Random(seed);
    }

    public static void main(String[] args) {
        for (int seed = 0; seed < RUNS; seed++) {
            String fault = new ModelTest(seed).run();
            Due.isText("the run " + seed, fault, "");
        }
        for (int seed = 0; seed < 20000; seed++) {
            compareFaults(new Random(seed));
        }
        Due.end("ModelTest");
    }

    private String run() {
        boolean isReady = random.nextInt(8) > 0;
        for (int k = 0; isReady && k < 2 + random.nextInt(5); k++) {
            step("convent", random.nextInt(10), random.nextInt(10), 1 + random.nextInt(9));
        }
        for (int k = 1; isReady && k <= 8; k++) {
            step("code", k, 1 + (k * 31 + random.nextInt(30)) % 150, 0);
        }
        while (calls < CALLS) {
            int kind = random.nextInt(100);
            if (kind < 45) {
                change(CHANGES[random.nextInt(CHANGES.length)]);
            } else if (kind < 48) {
                writeText();
            } else if (kind < 52) {
                step("undo", 0, 0, 0);
            } else if (kind < 54) {
                step(random.nextInt(3) == 0 ? "restore" : "save", 0, 0, 0);
            } else {
                ask(ASKED[random.nextInt(ASKED.length)]);
            }
            if (told.length() > 0) {
                return told.toString();
            }
        }
        return told.toString();
    }

    /** A number that is mostly in the range, sometimes beside it, and seldom far outside. */
    private int number(int least, int most) {
        int kind = random.nextInt(60);
        if (kind == 0) {
            return ODD[random.nextInt(ODD.length)];
        }
        if (kind == 1) {
            return least - 1;
        }
        if (kind == 2) {
            return most + 1;
        }
        return least + random.nextInt(most - least + 1);
    }

    private int convents() {
        return Math.max(1, (int) model.call("account", 2, 0, 0));
    }

    private int messages() {
        return Math.max(1, (int) model.call("account", 4, 0, 0));
    }

    private int signs(int least, int most) {
        int signs = 0;
        for (int k = 1 + random.nextInt(random.nextInt(8) == 0 ? 9 : 4); k > 0; k--) {
            signs = 10 * signs + least + random.nextInt(most - least + 1);
        }
        return random.nextInt(40) == 0 ? number(-3, 8) : signs;
    }

    private void change(String name) {
        int convent = number(0, convents() - 1);
        switch (name) {
            case "convent": step(name, number(0, 9), number(0, 9), number(1, 9)); break;
            case "code": step(name, number(1, 8), number(1, 150), 0); break;
            case "silence": step(name, convent, number(0, 23), random.nextInt(9) == 0 ? 0 : number(0, 23)); break;
            case "wind": step(name, convent, number(0, 9), 0); break;
            case "ear": step(name, convent, number(0, 9), 0); break;
            case "send":
                step(name, convent, number(0, convents() - 1), random.nextInt(30) == 0 ? signs(0, 9) : signs(1, 8));
                break;
            case "drop":
                if (random.nextInt(3) == 0) {
                    step(name, number(0, messages() - 1), 0, 0);
                }
                break;
            default: step(name, number(1, random.nextInt(4) == 0 ? 96 : 5), 0, 0); break;
        }
    }

    private void ask(String name) {
        int convent = number(0, convents() - 1);
        int message = number(0, messages() - 1);
        switch (name) {
            case "conventOf": step(name, convent, number(0, 7), 0); break;
            case "ridgeOf": step(name, convent, number(0, 1), 0); break;
            case "psalm": step(name, number(1, 8), 0, 0); break;
            case "messageOf": step(name, message, number(0, 8), 0); break;
            case "sign": step(name, message, number(0, 8), 0); break;
            case "waiting": step(name, convent, number(0, 3), 0); break;
            case "arrived": case "ranked": step(name, number(0, messages() - 1), 0, 0); break;
            case "strength": case "hears": step(name, convent, random.nextInt(2), 0); break;
            case "windIn": step(name, convent, number(0, 200), 0); break;
            case "character": step(name, number(0, 13), 0, 0); break;
            case "reason": step(name, number(0, 2), 0, 0); break;
            case "account": step(name, number(0, 11), 0, 0); break;
            default: step(name, message, 0, 0); break;
        }
    }

    private void writeText() {
        String text = text(random);
        for (int k = 0; k < text.length(); k++) {
            step("append", text.charAt(k), 0, 0);
        }
        step("commands", 0, 0, 0);
        step("faultPosition", 0, 0, 0);
    }

    private static String text(Random random) {
        StringBuilder text = new StringBuilder();
        int count = 1 + random.nextInt(random.nextInt(6) == 0 ? 20 : 4);
        for (int k = 0; k < count; k++) {
            text.append(k == 0 ? "" : ";").append(command(random));
        }
        if (random.nextInt(5) == 0) {
            text.setLength(random.nextInt(text.length() + 1));
        }
        if (random.nextInt(5) == 0 && text.length() > 0) {
            String odd = "shqwed;>:=-0123456789?@ x\u0000\u00e9";
            text.setCharAt(random.nextInt(text.length()), odd.charAt(random.nextInt(odd.length())));
        }
        if (random.nextInt(9) == 0) {
            text.insert(random.nextInt(text.length() + 1), (char) ('0' + random.nextInt(11)));
        }
        return text.length() > 61 && random.nextInt(4) > 0 ? text.substring(0, 60) : text.toString();
    }

    private static String command(Random random) {
        int small = random.nextInt(random.nextInt(6) == 0 ? 10 : 3);
        switch (random.nextInt(7)) {
            case 0: case 1: {
                StringBuilder signs = new StringBuilder();
                for (int k = 1 + random.nextInt(random.nextInt(5) == 0 ? 8 : 3); k > 0; k--) {
                    signs.append(1 + random.nextInt(8));
                }
                return "s" + small + ">" + (small + 1) % 10 + ":" + signs;
            }
            case 2: return "h" + (random.nextInt(3) == 0 ? "0" : "") + (1 + random.nextInt(9));
            case 3: return "q" + small + ":" + random.nextInt(25) + "-" + random.nextInt(24);
            case 4: return "w" + random.nextInt(3) + "=" + random.nextInt(10);
            case 5: return "e" + small + "=" + random.nextInt(10);
            default: return "d" + random.nextInt(17);
        }
    }

    private static void compareFaults(Random random) {
        String text = text(random);
        text = text.length() > 60 ? text.substring(0, 60) : text;
        BellTelegraph x = new BellTelegraph();
        for (int k = 0; k < text.length(); k++) {
            x.append(text.charAt(k));
        }
        try {
            x.commands();
        } catch (IllegalArgumentException | UnsupportedOperationException e) {
            // The fault position is what counts here.
        }
        Due.is("the fault of " + text, x.faultPosition(), Model.faultOf(text));
    }

    private void step(String name, int a, int b, int c) {
        if (calls >= CALLS || told.length() > 0) {
            return;
        }
        calls++;
        String got;
        String want;
        try {
            got = callReal(name, a, b, c).toString();
        } catch (RuntimeException e) {
            got = e.getClass().getName();
        }
        try {
            want = model.call(name, a, b, c).toString();
        } catch (RuntimeException e) {
            want = e.getClass().getName();
        }
        if (!got.equals(want)) {
            told.append("call ").append(calls).append(": ").append(name).append('(').append(a).append(", ").append(b)
                .append(", ").append(c).append(") answered ").append(got).append(", the model ").append(want);
        }
    }

    private Object callReal(String name, int a, int b, int c) {
        switch (name) {
            case "convent": return real.convent(a, b, c);
            case "code": return real.code(a, b);
            case "silence": return real.silence(a, b, c);
            case "wind": return real.wind(a, b);
            case "ear": return real.ear(a, b);
            case "send": return real.send(a, b, c);
            case "drop": return real.drop(a);
            case "hours": return real.hours(a);
            case "conventOf": return real.conventOf(a, b);
            case "ridgeOf": return real.ridgeOf(a, b);
            case "psalm": return real.psalm(a);
            case "messageOf": return real.messageOf(a, b);
            case "sign": return real.sign(a, b);
            case "signs": return real.signs(a);
            case "waiting": return real.waiting(a, b);
            case "arrived": return real.arrived(a);
            case "strength": return real.strength(a, b != 0);
            case "hears": return real.hears(a, b != 0) ? 1 : 0;
            case "windIn": return real.windIn(a, b);
            case "arrivesIn": return real.arrivesIn(a);
            case "wouldLose": return real.wouldLose(a);
            case "ranked": return real.ranked(a);
            case "lost": return real.lost();
            case "lostAgain": return real.lostAgain();
            case "append": return real.append((char) a);
            case "commands": return real.commands();
            case "faultPosition": return real.faultPosition();
            case "reason": return real.reason(a);
            case "line": return real.line(a);
            case "character": return (int) real.character(a);
            case "meanEar": return real.meanEar();
            case "lostShare": return real.lostShare();
            case "account": return real.account(a);
            case "undo": return real.undo();
            case "save": return real.save();
            default: return real.restore();
        }
    }
}
