import java.io.IOException;
import java.lang.reflect.Method;
import java.lang.reflect.Modifier;
import java.nio.file.Files;
import java.nio.file.Path;
import java.util.ArrayList;
import java.util.Arrays;
import java.util.HashSet;
import java.util.List;
import java.util.Set;
import java.util.TreeSet;
import java.util.regex.Matcher;
import java.util.regex.Pattern;

/** The face of the class, and what the rules of its language leave out; run from the project's folder. */
public final class LanguageTests {
    private static final String[] FACE = {
        "feed(int,int,int,int,int)", "end(int)", "moor()", "fault(int)", "drive(int,int)", "goes(int)", "law(int,int)",
        "sets(int,int,int)", "counter(int,int,int)", "through(int,int,int)", "dues()", "due(int,int)", "paid(int)",
        "pays(int,int)", "worst()", "left(int)", "best(int,int)", "split(int,int)", "rest()", "rests(int)",
        "sent(int,int)", "harm(int)", "ewe(int,int,int,int)", "waits(int,int,int,int)", "ring(int,int,int)",
        "rounds(int,int)", "orders(int,int,int)", "order(int,int,int,int)", "sure(int,int,int,int)", "wrong(int,int)",
        "anew(int,int)", "mixed(int,int)", "luck(int,int,int)", "free(int)", "all(int)", "count(int)", "keep(int)",
        "back(int)", "row(int,int,int)", "write(int,int,long)", "paste(int,int,int,int,int)"};

    private static final String[] LEFT_OUT = {
        "\\bthrow\\b", "\\bthrows\\b", "\\btry\\b", "\\bcatch\\b", "\\bfinally\\b", "\\bsynchronized\\b", "\\bassert\\b",
        "->", "::", "static\\s*\\{", "\\bSystem\\.(?!arraycopy\\b)", "\\bRandom\\b", "\\bThread\\b", "Exact\\b",
        "\\bprotected\\b", "\\bInteger\\.[A-Z]", "\\bhashCode\\b", "\\btoString\\b", "\\bpackage\\b", "\\bvar\\b"};

    private static int wrong = 0;

    private static void complain(String what) {
        wrong++;
        System.out.println(what);
    }

    private static void face() {
        Class<?> c = HundredthSheep.class;
        Set<String> due = new TreeSet<>(Arrays.asList(FACE));
        Set<String> names = new HashSet<>();
        for (String call : FACE) {
            names.add(call.substring(0, call.indexOf('(')));
        }
        for (Method m : c.getDeclaredMethods()) {
            List<String> types = new ArrayList<>();
            for (Class<?> t : m.getParameterTypes()) {
                types.add(t.getName());
            }
            if (Modifier.isPublic(m.getModifiers())) {
                if (m.getReturnType() != int.class || !due.remove(m.getName() + "(" + String.join(",", types) + ")")) {
                    complain("not of the face: " + m);
                }
            } else if (!Modifier.isPrivate(m.getModifiers()) || names.contains(m.getName())) {
                complain("not private, or with a name of the face: " + m);
            }
        }
        for (String call : due) {
            complain("missing: " + call);
        }
        if (!Modifier.isFinal(c.getModifiers()) || c.getConstructors().length != 1 || c.getFields().length != 1) {
            complain("not final, or another constructor or constant");
        }
        for (Class<?> inner : c.getDeclaredClasses()) {
            if (!Modifier.isStatic(inner.getModifiers())) {
                complain("not static: " + inner);
            }
            for (Method m : inner.getDeclaredMethods()) {
                if (names.contains(m.getName()) || m.getParameterCount() > 7) {
                    complain("with a name of the face, or of too many parameters: " + m);
                }
            }
        }
        if (c.getDeclaredClasses().length > 11) {
            complain("too many classes");
        }
    }

    private static void words(String source) {
        String code = source.replaceAll("(?s)/\\*.*?\\*/", " ").replaceAll("//[^\n]*", " ")
            .replaceAll("\"[^\"\n]*\"", "\"\"");
        for (String pattern : LEFT_OUT) {
            Matcher m = Pattern.compile(pattern).matcher(code);
            if (m.find()) {
                complain("left out by the language: " + m.group());
            }
        }
        Matcher imports = Pattern.compile("import ([^;]*);").matcher(code);
        while (imports.find()) {
            if (!Arrays.asList("java.util.Arrays", "java.util.ArrayList", "java.util.List").contains(imports.group(1))) {
                complain("left out by the language: " + imports.group());
            }
        }
    }

    private static void lengths(String source) {
        int from = 0;
        String[] lines = source.split("\n");
        for (int i = 0; i < lines.length; i++) {
            if (lines[i].matches(" {4}( {4})?[^ ].*\\).* \\{")) {
                from = i;
            }
            if (lines[i].matches(" {4}( {4})?\\}") && i - from > 60) {
                String head = lines[from].trim();
                if (!head.contains(" class ") && lines[from].indexOf(head) == lines[i].indexOf('}')) {
                    complain("too long: " + head);
                }
            }
        }
    }

    public static void main(String[] args) throws IOException {
        String source = Files.readString(Path.of("src/main/java/HundredthSheep.java"));
        face();
        words(source);
        lengths(source);
        System.out.println(wrong == 0 ? "the language is kept" : wrong + " things are outside the language");
        if (wrong != 0) {
            System.exit(1);
        }
    }
}
