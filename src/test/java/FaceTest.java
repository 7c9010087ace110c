import java.io.IOException;
import java.lang.reflect.Field;
import java.lang.reflect.Method;
import java.lang.reflect.Modifier;
import java.nio.file.Files;
import java.nio.file.Path;
import java.util.Arrays;
import java.util.TreeSet;
import java.util.regex.Matcher;
import java.util.regex.Pattern;

/** The public face, and what of ../shared/LANGUAGE.md can be seen from outside. */
public final class FaceTest {
    private static final Check CHECK = new Check("FaceTest");

    private static final String[] FACE = {
        "int rule(int,int)", "int tide(int,int)", "int depth(int)", "int addPilot(int)",
        "int addBoat(int)", "int order(int,boolean,int,int,int)", "int orderOf(int,int)",
        "int window(int,int)", "int hinders(int,int,int)", "int plan(int,int,int)",
        "int run(int,int,int)", "int serving(int,int)", "int serve(int)", "int serveAll()",
        "int release(int)", "int putOff(int,int)", "int urgent(int)", "int pilot(int,int)",
        "int planOf(int,int,int)", "int place(int,int)", "int placeAgain(int,int)",
        "int boat(int,int)", "int pass(int)", "int number(int)", "double meanWait()",
        "float share(int)", "int feed(char)", "int read()", "int faultPosition()",
        "int refusal(boolean)", "int undo()", "int saveSnapshot()", "int restoreSnapshot()"};

    private static final String[] RULED_OUT = {
        "->", "::", "\\bcatch\\b", "\\bfinally\\b", "\\btry\\b", "\\bsynchronized\\b",
        "\\bassert\\b", "\\bvar\\b", "\\brecord\\b", "\\binstanceof\\b", "\\blong\\[\\]\\[\\]",
        "\\bString\\b", "\\bequals\\b", "\\bhashCode\\b", "\\btoString\\b", "\\bnanoTime\\b",
        "\\bprintln\\b", "\\bpackage\\b", "Exact\\b", "static \\{"};

    public static void main(String[] args) throws IOException {
        members();
        names();
        String text = Files.readString(Path.of("src/main/java/PilotRoster.java"));
        source(text);
        lengths(text.split("\n"));
        String document = Files.readString(Path.of("../shared/DOC.md"));
        faceOfTheDocument(document, text);
        partsOfTheFace(document, text);
        CHECK.end();
    }

    /** Each line of the public face stands in the program, its names and exceptions, too. */
    private static void faceOfTheDocument(String document, String text) {
        String code = text.replaceAll("\\s+", " ");
        Matcher line = Pattern.compile("(?m)^    (public .*);$").matcher(document);
        int lines = 0;
        while (line.find()) {
            lines++;
            CHECK.isTrue("not as the document writes it: " + line.group(1),
                    code.contains(" " + line.group(1) + " {"));
        }
        CHECK.same("the lines of the face", FACE.length + 1, lines);
    }

    /** "Ahead of the calls .. the interface says: ---- ..": no other calls stand in this part. */
    private static void partsOfTheFace(String document, String text) {
        Matcher part = Pattern.compile(
                "Ahead of the calls (.*) the interface says: (---- .*)\\.\n").matcher(document);
        int parts = 0;
        while (part.find()) {
            parts++;
            int begin = text.indexOf("    // " + part.group(2) + "\n");
            int end = text.indexOf("    // ----", begin + 1);
            StringBuilder calls = new StringBuilder();
            Matcher call = Pattern.compile("    public \\w+ (\\w+)\\(").matcher(text);
            while (begin >= 0 && call.find()) {
                if (call.start() > begin && call.start() < end) {
                    calls.append(calls.length() == 0 ? "`" : ", `").append(call.group(1))
                            .append('`');
                }
            }
            CHECK.isTrue(part.group(2) + " stands ahead of " + calls,
                    part.group(1).contentEquals(calls));
        }
        CHECK.same("the parts of the face", 6, parts);
    }

    private static void members() {
        Class<?> face = PilotRoster.class;
        CHECK.isTrue("public and final", Modifier.isPublic(face.getModifiers())
                && Modifier.isFinal(face.getModifiers()));
        TreeSet<String> found = new TreeSet<>();
        for (Method method : face.getDeclaredMethods()) {
            if (!Modifier.isPrivate(method.getModifiers())) {
                String types = Arrays.toString(method.getParameterTypes()).replace(" ", "");
                found.add(method.getReturnType() + " " + method.getName()
                        + "(" + types.substring(1, types.length() - 1) + ")");
            }
        }
        CHECK.isTrue("the face: " + found, found.equals(new TreeSet<>(Arrays.asList(FACE))));
        CHECK.same("constructors", 1, face.getDeclaredConstructors().length);
        CHECK.same("parameters of it", 0, face.getConstructors()[0].getParameterCount());
        for (Field field : face.getDeclaredFields()) {
            CHECK.isTrue(field + " is private", Modifier.isPrivate(field.getModifiers()));
        }
    }

    private static void names() {
        TreeSet<String> names = new TreeSet<>();
        for (String method : FACE) {
            names.add(method.substring(method.indexOf(' ') + 1, method.indexOf('(')));
        }
        for (Method method : PilotRoster.class.getDeclaredMethods()) {
            CHECK.isTrue(method + " bears a name of the face",
                    Modifier.isPublic(method.getModifiers()) || !names.contains(method.getName()));
        }
        int classes = 1;
        for (Class<?> inside : PilotRoster.class.getDeclaredClasses()) {
            classes++;
            CHECK.isTrue(inside + " is private and static",
                    Modifier.isPrivate(inside.getModifiers())
                            && Modifier.isStatic(inside.getModifiers()));
            int fields = 0;
            for (Field field : inside.getDeclaredFields()) {
                fields += Modifier.isStatic(field.getModifiers()) ? 0 : 1;
                CHECK.isTrue(field + " static, so final",
                        !Modifier.isStatic(field.getModifiers())
                                || Modifier.isFinal(field.getModifiers()));
            }
            CHECK.isTrue("fields of " + inside, fields <= 20);
            for (Method method : inside.getDeclaredMethods()) {
                CHECK.isTrue(method + " bears a name of the face",
                        !names.contains(method.getName()));
                CHECK.isTrue("parameters of " + method, method.getParameterCount() <= 7);
            }
        }
        CHECK.isTrue("classes", classes <= 12);
    }

    /** A method or constructor begins with its only or last line that ends with a brace. */
    private static void lengths(String[] lines) {
        Pattern begin = Pattern.compile("( {4}| {8})(?!private static final class)\\S.*\\{");
        for (int k = 0; k < lines.length; k++) {
            Matcher matcher = begin.matcher(lines[k]);
            if (matcher.matches()) {
                int end = k;
                while (!lines[end].equals(matcher.group(1) + "}") && end - k <= 60) {
                    end++;
                }
                CHECK.isTrue("longer than 60 lines: " + lines[k].trim(), end - k < 60);
            }
        }
    }

    private static void source(String text) {
        String code = text.replaceAll("(?s)/\\*.*?\\*/", "").replaceAll("//[^\n]*", "")
                .replaceAll("\"[^\"\n]*\"", "TEXT");
        for (String pattern : RULED_OUT) {
            Matcher matcher = Pattern.compile(pattern).matcher(code);
            CHECK.isTrue("ruled out: " + pattern, !matcher.find());
        }
        Matcher imports = Pattern.compile("import ([\\w.*]+);").matcher(code);
        while (imports.find()) {
            CHECK.isTrue("import of " + imports.group(1),
                    imports.group(1).equals("java.util.NoSuchElementException"));
        }
        for (int k = 0; k < text.length(); k++) {
            if (text.charAt(k) > 126) {
                CHECK.tell("a sign beyond ASCII at " + k);
            }
        }
    }
}
