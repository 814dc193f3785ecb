import java.lang.reflect.Executable;
import java.lang.reflect.Field;
import java.lang.reflect.Method;
import java.lang.reflect.Modifier;
import java.nio.file.Files;
import java.nio.file.Path;
import java.util.ArrayList;
import java.util.Arrays;
import java.util.List;
import java.util.Set;
import java.util.TreeSet;
import java.util.regex.Matcher;
import java.util.regex.Pattern;

/** The document's public face, and those rules of LANGUAGE.md that a look at the class can tell. */
public final class FaceTest {
    private static final String[] FACE = {
        "feed(int)", "yard()", "fault()", "told(int)", "wagon(int,int)", "road(int,int)", "at(int,int)",
        "enemies(int,int)", "cut(int,int)", "pull(int)", "peace(int,int)", "drift(int)", "undo()", "plan(int)",
        "leastRoads(int)", "safe(int,int,int)", "foremen(int)", "fewest(int)", "rusted(int,int)",
        "couple(int,int,boolean)", "laws(int)", "next()", "chalk(int,int,int)", "fit(int)", "write(int,int,int)",
        "tear()", "judge()", "seed(int)", "keep(int)", "goBack(int)"};
    private static final String[] CONSTANTS = {"NONE", "UNKNOWN", "OUTSIDE", "NOT", "FULL"};
    private static int wrong = 0;

    public static void main(String[] args) throws Exception {
        face();
        classes();
        source(Files.readString(Path.of(args.length > 0 ? args[0] : "src/main/java/GrudgeYard.java")));
        System.out.println(wrong == 0 ? "the face is as told" : wrong + " rules are broken");
        if (wrong != 0) {
            System.exit(1);
        }
    }

    private static void due(String rule, boolean kept) {
        if (!kept) {
            wrong++;
            System.out.println("broken: " + rule);
        }
    }

    private static void face() {
        Class<?> type = GrudgeYard.class;
        due("public and final", Modifier.isPublic(type.getModifiers()) && Modifier.isFinal(type.getModifiers()));
        due("one public constructor", type.getDeclaredConstructors().length == 1
            && Modifier.isPublic(type.getDeclaredConstructors()[0].getModifiers())
            && type.getDeclaredConstructors()[0].getParameterCount() == 0);
        Set<String> methods = new TreeSet<>();
        for (Method method : type.getDeclaredMethods()) {
            if (!Modifier.isPrivate(method.getModifiers())) {
                methods.add(signature(method));
                due("public, of int: " + method, Modifier.isPublic(method.getModifiers())
                    && !Modifier.isStatic(method.getModifiers()) && method.getReturnType() == int.class);
            }
        }
        due("the document's methods and no other: " + methods, methods.equals(new TreeSet<>(Arrays.asList(FACE))));
        Set<String> constants = new TreeSet<>();
        for (Field field : type.getDeclaredFields()) {
            if (!Modifier.isPrivate(field.getModifiers())) {
                constants.add(field.getName());
                due("a public constant: " + field, Modifier.isPublic(field.getModifiers())
                    && Modifier.isStatic(field.getModifiers()) && field.getType() == int.class);
            }
        }
        due("the document's constants and no other", constants.equals(new TreeSet<>(Arrays.asList(CONSTANTS))));
    }

    private static String signature(Executable method) {
        List<String> types = new ArrayList<>();
        for (Class<?> type : method.getParameterTypes()) {
            types.add(type.getSimpleName());
        }
        return method.getName() + "(" + String.join(",", types) + ")";
    }

    private static void classes() {
        List<Class<?>> all = new ArrayList<>(List.of(GrudgeYard.class));
        all.addAll(Arrays.asList(GrudgeYard.class.getDeclaredClasses()));
        due("twelve classes at most", all.size() <= 12);
        for (Class<?> type : all) {
            if (type != GrudgeYard.class) {
                due("static and not public: " + type, Modifier.isStatic(type.getModifiers())
                    && !Modifier.isPublic(type.getModifiers()) && !Modifier.isProtected(type.getModifiers()));
                due("no class within: " + type, type.getDeclaredClasses().length == 0);
            }
            int fields = 0;
            for (Field field : type.getDeclaredFields()) {
                fields += Modifier.isStatic(field.getModifiers()) ? 0 : 1;
                due("static is final: " + field, !Modifier.isStatic(field.getModifiers())
                    || Modifier.isFinal(field.getModifiers()));
            }
            due("twenty fields at most: " + type, fields <= 20);
            for (Method method : type.getDeclaredMethods()) {
                due("seven parameters at most: " + method, method.getParameterCount() <= 7);
                due("no private method by a public one's name: " + method, isFace(method) == namesFace(method));
            }
        }
    }

    private static boolean isFace(Method method) {
        return method.getDeclaringClass() == GrudgeYard.class && Modifier.isPublic(method.getModifiers());
    }

    private static boolean namesFace(Method method) {
        return Arrays.stream(FACE).anyMatch(face -> face.startsWith(method.getName() + "("));
    }

    private static void source(String text) {
        String code = text.replaceAll("(?s)/\\*.*?\\*/", " ").replaceAll("//[^\n]*", " ");
        String[] banned = {"throw", "throws", "try", "catch", "finally", "synchronized", "assert", "package", "Exact",
            "Object", "Thread", "Random", "System\\.(?!arraycopy)\\w+", "double", "float", "->", "::", "@\\w+"};
        for (String word : banned) {
            boolean wordLike = Character.isLetter(word.charAt(0));
            Matcher found = Pattern.compile(wordLike ? "\\b" + word + "\\b" : word).matcher(code);
            due("no " + word, !found.find());
        }
        Matcher imports = Pattern.compile("import ([\\w.]+);").matcher(code);
        while (imports.find()) {
            due("import " + imports.group(1), imports.group(1).equals("java.util.Arrays"));
        }
        due("no static block", !Pattern.compile("\\bstatic\\s*\\{").matcher(code).find());
        due("ASCII alone", text.chars().allMatch(letter -> letter == '\n' || letter >= 32 && letter < 127));
        methods(text.split("\n"));
    }

    /** A method starts at a line that ends in ') {' and begins with a visibility, and ends at its own indent. */
    private static void methods(String[] lines) {
        for (int i = 0; i < lines.length; i++) {
            if (lines[i].matches("\\s+(private|public) .*\\) \\{")) {
                String end = lines[i].replaceAll("\\S.*", "") + "}";
                boolean isConstructor = lines[i].matches("\\s+(private|public) \\w+\\(.*");
                int last = i;
                while (last < lines.length && !lines[last].equals(end)) {
                    due("made in constructors alone: " + lines[last].trim(), isConstructor || !makes(lines[last]));
                    last++;
                }
                due("sixty lines at most: " + lines[i].trim(), last - i < 60);
            }
        }
    }

    /** All calls of a run live in one room, so that what a call makes would stay. */
    private static boolean makes(String line) {
        return line.replaceAll("//.*", "").matches(".*(\\bnew\\b|\\.clone\\(|copyOf|StringBuilder|\"|ArrayList).*");
    }
}
