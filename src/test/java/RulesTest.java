import java.lang.management.ManagementFactory;
import java.lang.reflect.Constructor;
import java.lang.reflect.Field;
import java.lang.reflect.Method;
import java.lang.reflect.Modifier;
import java.nio.file.DirectoryStream;
import java.nio.file.Files;
import java.nio.file.Path;
import java.util.Arrays;
import java.util.Set;
import java.util.TreeSet;
import java.util.regex.Matcher;
import java.util.regex.Pattern;

/** The public face, what of LANGUAGE.md can be seen without reading, and the room that a run takes. */
public final class RulesTest {
    private static final Check CHECK = new Check("RulesTest");
    private static final String FACE = documentFace();

    public static void main(String[] args) throws Exception {
        promises();
        face();
        shape();
        source();
        lengths();
        room();
        CHECK.finish();
    }

    /** The document's methods, one behind the other, in the form name/types/type. */
    private static String documentFace() {
        StringBuilder face = new StringBuilder();
        Pattern method = Pattern.compile("public (int|boolean) (\\w+)\\((.*?)\\);");
        Matcher methods = method.matcher(Check.section("The public face"));
        while (methods.find()) {
            String types = methods.group(3).replaceAll(" \\w+(,|$)", "$1").replace(" ", "");
            face.append(face.length() > 0 ? " " : "");
            face.append(methods.group(2)).append('/').append(types).append('/').append(methods.group(1));
        }
        return face.toString();
    }

    /** Of each promise some test quotes a sentence, and Check sees that it stands there. */
    private static void promises() throws Exception {
        StringBuilder tests = new StringBuilder();
        try (DirectoryStream<Path> files = Files.newDirectoryStream(Path.of("src/test/java"), "*Test.java")) {
            for (Path file : files) {
                tests.append(Files.readString(file));
            }
        }
        int promises = 0;
        Matcher heads = Pattern.compile("\n## Promise (\\d+): ").matcher(Check.document());
        while (heads.find()) {
            promises++;
            String quote = "CHECK.by(\"" + heads.group(1) + "\",";
            CHECK.due("promise " + heads.group(1) + " has a test", tests.indexOf(quote) >= 0, true);
        }
        CHECK.due("promises", promises, 48);
        CHECK.due("a constructor and methods", FACE.split(" ").length, promises - 1);
    }

    private static void face() {
        Set<String> due = new TreeSet<>(Arrays.asList(FACE.split(" ")));
        Set<String> found = new TreeSet<>();
        Set<String> hidden = new TreeSet<>();
        for (Method m : SandNights.class.getDeclaredMethods()) {
            StringBuilder types = new StringBuilder();
            for (Class<?> type : m.getParameterTypes()) {
                types.append(types.length() > 0 ? "," : "").append(type.getSimpleName());
            }
            if (Modifier.isPrivate(m.getModifiers())) {
                hidden.add(m.getName());
            } else {
                found.add(m.getName() + "/" + types + "/" + m.getReturnType().getSimpleName());
            }
        }
        CHECK.due("the methods are the document's " + due + " not " + found, found.equals(due), true);
        for (String signature : due) {
            String name = signature.substring(0, signature.indexOf('/'));
            CHECK.due("a private method named " + name, hidden.contains(name), false);
        }
        for (Field f : SandNights.class.getDeclaredFields()) {
            boolean constant = f.getName().equals("NONE");
            CHECK.due("field " + f.getName(), Modifier.isPrivate(f.getModifiers()), !constant);
        }
        CHECK.due("NONE", SandNights.NONE, -1);
        Constructor<?>[] constructors = SandNights.class.getDeclaredConstructors();
        CHECK.due("constructors", constructors.length, 1);
        CHECK.due("its parameters", constructors[0].getParameterCount(), 0);
        CHECK.due("it is public", Modifier.isPublic(constructors[0].getModifiers()), true);
        CHECK.due("final", Modifier.isFinal(SandNights.class.getModifiers()), true);
        CHECK.due("public", Modifier.isPublic(SandNights.class.getModifiers()), true);
        int classes = 0;
        for (Class<?> c : SandNights.class.getDeclaredClasses()) {
            classes++;
            CHECK.due(c + " is static", Modifier.isStatic(c.getModifiers()), true);
        }
        CHECK.due("few classes", classes <= 11, true);
    }

    /** Rules 1 and 11: names, parameters and fields of the classes inside, too. */
    private static void shape() {
        for (Class<?> c : SandNights.class.getNestMembers()) {
            for (Method m : c.getDeclaredMethods()) {
                boolean hidden = Modifier.isPrivate(m.getModifiers());
                CHECK.due(c + ", parameters of " + m.getName(), m.getParameterCount() <= 7, true);
                boolean inFace = (" " + FACE).contains(" " + m.getName() + "/");
                CHECK.due(c + ", private " + m.getName(), hidden && inFace, false);
            }
            int fields = 0;
            for (Field f : c.getDeclaredFields()) {
                boolean shared = Modifier.isStatic(f.getModifiers());
                fields += shared ? 0 : 1;
                CHECK.due(c + ", static " + f.getName(), !shared || Modifier.isFinal(f.getModifiers()), true);
            }
            CHECK.due(c + ", fields: " + fields, fields <= 20, true);
        }
    }

    /** Rule 11: methods stay short. A method's first line is told by its indent and its brace. */
    private static void lengths() throws Exception {
        int start = 0;
        int number = 0;
        for (String line : Files.readAllLines(Path.of("src/main/java/SandNights.java"))) {
            number++;
            CHECK.due("width of line " + number, line.length() <= 120, true);
            if (line.matches("(    |        )[a-zA-Z].*\\) \\{")) {
                start = number;
            } else if (line.matches("(    |        )\\}")) {
                CHECK.due("lines from " + start + " to " + number, number - start <= 60, true);
            }
        }
    }

    private static void source() throws Exception {
        String all = Files.readString(Path.of("src/main/java/SandNights.java"));
        String bare = all.replaceAll("(?s)/\\*.*?\\*/", "").replaceAll("//[^\n]*", "").replaceAll("\"[^\"\n]*\"", "\"\"");
        String[] never = {"\\bthrow\\b", "\\bthrows\\b", "\\btry\\b", "\\bcatch\\b", "\\bsynchronized\\b", "\\bassert\\b",
            "->", "::", "Exact\\b", "\\bpackage\\b", "\\bObject\\b", "\\bprotected\\b", "static\\s*\\{", "\\bfloat\\b",
            "\\bdouble\\b", "\\bHash", "\\bString\\.", "\\bSystem\\.(?!arraycopy)", "\\bArrays\\.(?!fill|copyOf)",
            "\\bThread\\b", "\\bequals\\b", "\\bhashCode\\b", "\\btoString\\b", "\\bvar\\b"};
        for (String rule : never) {
            Matcher m = Pattern.compile(rule).matcher(bare);
            CHECK.due("the source has " + rule, m.find(), false);
        }
        Matcher imports = Pattern.compile("import ([^;]*);").matcher(bare);
        while (imports.find()) {
            CHECK.due("import " + imports.group(1), imports.group(1).equals("java.util.Arrays"), true);
        }
        for (int i = 0; i < all.length(); i++) {
            if (all.charAt(i) > 127) {
                CHECK.due("a sign above 127 at " + i, all.charAt(i), 127);
            }
        }
    }

    private static long allocated() {
        return ((com.sun.management.ThreadMXBean) ManagementFactory.getThreadMXBean()).getCurrentThreadAllocatedBytes();
    }

    /** Nothing is given back in the room of a run, so a long run of acts must take little of it. */
    private static void room() {
        String text = "beach 5 by 5;walker a at 0 0 stride 10;walker b at 4 4 stride 10;wind 20;tide row > minute;";
        for (int warm = 0; warm < 3; warm++) {
            long before = allocated();
            SandNights x = new SandNights();
            long made = allocated() - before;
            CHECK.due("bytes of a new object: " + made, made < 30000, true);
            Check.tell(x, text);
            before = allocated();
            for (int i = 0; i < 60; i++) {
                x.step(0, 0);
                x.minute();
                x.night();
                x.image(i % 3);
                x.guard(6, 18, 0);
                x.catches(0, 1);
                x.ask(0, 0);
                x.sly(0, 24, 0);
            }
            long acts = allocated() - before;
            CHECK.due("bytes of 480 calls: " + acts, acts < 200000, true);
        }
    }
}
