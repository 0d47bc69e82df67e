import java.io.IOException;
import java.nio.file.Files;
import java.nio.file.Path;

/** The calls that README.md shows stand in this test in their order, with the answers that are told beside them. */
public final class ReadmeTest {
    public static void main(String[] args) throws IOException {
        use();
        String source = Files.readString(Path.of("src/test/java/ReadmeTest.java"));
        int place = 0;
        int shown = 0;
        boolean isCode = false;
        for (String line : Files.readAllLines(Path.of("README.md"))) {
            if (line.startsWith("```")) {
                isCode = line.equals("```java");
            } else if (isCode) {
                String code = line.replaceAll("//.*", "").strip();
                int found = source.indexOf(code, place);
                Due.isTrue("README.md's \"" + code + "\" in its order", found >= 0);
                place = found >= 0 ? found + code.length() : place;
                shown++;
            }
        }
        Due.isTrue("README.md shows how to use the class", shown > 20);
        Due.end("ReadmeTest");
    }

    private static void use() {
        BellTelegraph x = new BellTelegraph();
        x.convent(3, 5, 1);
        x.convent(2, 4, 3);
        x.convent(4, 9, 2);
        x.code(1, 23);
        x.code(2, 100);
        int message = x.send(0, 2, 12);
        int hours = x.arrivesIn(message);
        Due.is("the hours", hours, 10);
        int lost = x.wouldLose(message);
        Due.is("the lost signs", lost, 0);
        int arrived = x.hours(hours);
        Due.is("the messages that arrive", arrived, 1);
        int length = x.line(message);
        Due.is("the length of the line", length, 6);
        char first = x.character(0);
        Due.is("the first character", first, '0');
        Due.isText("the line", Given.line(x, message), "0>2:12");
        useRefused(x);
    }

    private static void useRefused(BellTelegraph x) {
        boolean isRefused = false;
        try {
            x.code(3, 23);
        } catch (UnsupportedOperationException refused) {
            int reason = x.reason(0);
            Due.is("the reason", reason, 6);
            int detail = x.reason(1);
            Due.is("the detail", detail, 1);
            int command = x.reason(2);
            Due.is("the command", command, 0);
            isRefused = true;
        }
        Due.isTrue("the psalm is refused", isRefused);
        useText(x);
    }

    private static void useText(BellTelegraph x) {
        for (char character : "s0>1:2;w1=7;h1".toCharArray()) {
            x.append(character);
        }
        int commands = x.commands();
        Due.is("the commands", commands, 3);
        int fault = x.faultPosition();
        Due.is("the fault", fault, -1);
        int left = x.undo();
        Due.is("the changes that are left", left, 7);
        Due.is("the messages behind it", x.account(4), 1);
        int hour = x.save();
        Due.is("the hour", hour, 10);
        x.drop(x.send(2, 0, 1));
        int again = x.restore();
        Due.is("the hour again", again, 10);
        Due.is("the messages again", x.account(4), 1);
    }
}
