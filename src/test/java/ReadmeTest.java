import java.lang.reflect.Method;
import java.lang.reflect.Modifier;
import java.nio.file.Files;
import java.nio.file.Path;
import java.util.regex.Matcher;
import java.util.regex.Pattern;

/** What README.md shows of the class's use: its calls, row by row, with the answers that it tells. */
public final class ReadmeTest {
    private static final Check CHECK = new Check("ReadmeTest");
    private static final Pattern CALL = Pattern.compile("x\\.(\\w+)\\((.*?)\\); *// (-?\\d+|true|false)(: .*)?");

    public static void main(String[] args) throws Exception {
        String page = Files.readString(Path.of("README.md"));
        SandNights x = null;
        Matcher blocks = Pattern.compile("(?s)```(java|text)\n(.*?)```").matcher(page);
        while (blocks.find()) {
            if (blocks.group(1).equals("text")) {
                x = Check.told(blocks.group(2));
            } else {
                x = runBlock(x, blocks.group(2));
            }
        }
        for (Method method : SandNights.class.getDeclaredMethods()) {
            if (Modifier.isPublic(method.getModifiers())) {
                CHECK.due(method.getName() + " is named", page.contains("`" + method.getName() + "`"), true);
            }
        }
        CHECK.finish();
    }

    private static SandNights runBlock(SandNights told, String block) throws Exception {
        SandNights x = told;
        for (String row : block.split("\n")) {
            Matcher call = CALL.matcher(row);
            if (row.equals("SandNights x = new SandNights();")) {
                x = new SandNights();
            } else if (call.matches()) {
                runCall(x, row, call);
            } else {
                CHECK.due("a row that is no call: " + row, row.isEmpty(), true);
            }
        }
        return x;
    }

    private static void runCall(SandNights x, String row, Matcher call) throws Exception {
        String[] words = call.group(2).isEmpty() ? new String[0] : call.group(2).split(", ");
        Object[] given = new Object[words.length];
        for (int i = 0; i < words.length; i++) {
            boolean is = words[i].equals("true") || words[i].equals("false");
            given[i] = is ? (Object) words[i].equals("true") : (Object) Integer.decode(words[i]);
        }
        for (Method method : SandNights.class.getDeclaredMethods()) {
            if (method.getName().equals(call.group(1)) && Modifier.isPublic(method.getModifiers())) {
                String answer = String.valueOf(method.invoke(x, given));
                CHECK.due(row + " answers " + answer, answer.equals(call.group(3)), true);
            }
        }
        if (call.group(1).equals("feed")) {
            CHECK.due(row + " has these bytes", call.group(4).equals(": \"" + bytes(given) + "\""), true);
        }
    }

    private static String bytes(Object[] numbers) {
        StringBuilder text = new StringBuilder();
        for (Object number : numbers) {
            for (int shift = 24; shift >= 0; shift -= 8) {
                text.append((char) ((Integer) number >> shift & 255));
            }
        }
        return text.toString();
    }
}
