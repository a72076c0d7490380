import java.io.IOException;
import java.lang.reflect.Constructor;
import java.lang.reflect.Field;
import java.lang.reflect.Method;
import java.lang.reflect.Modifier;
import java.nio.file.Files;
import java.nio.file.Path;
import java.util.ArrayList;
import java.util.List;
import java.util.Set;
import java.util.TreeSet;
import java.util.regex.Matcher;
import java.util.regex.Pattern;

/** The face of the document, and the rules of LANGUAGE.md that can be seen in the text or by reflection. */
public final class FaceTest {
    private static final String[] FACE = {
        "int clear()", "int thing(int)", "int start(int)", "int act()", "int outcome(int)",
        "int when(int,int,int,int)", "int effect(int,int,int,int,int)", "int aim(int,int,int)", "int aimless()",
        "int unact()", "int leads(int,int,int)", "int count(int)", "int of(int,int)", "int best(int,int)",
        "int play(int,int)", "long plays()", "int needed()", "int fact(int,int)", "int values(int)", "int cover()",
        "int part(int,int,int,int)", "int bare()", "int flaw(int)"};
    private static final String[] FORBIDDEN = {
        "\\bthrow\\b", "\\btry\\b", "\\bcatch\\b", "\\bsynchronized\\b", "\\bassert\\b", "->", "::",
        "Exact\\(", "\\bSystem\\.(?!arraycopy)", "\\bThread\\b", "\\bpackage\\b",
        "\\bimport (?!java\\.util\\.Arrays;)", "\\bstatic \\{"};
    private static int wrong = 0;

    private static void due(boolean right, String what) {
        if (!right) {
            wrong++;
            System.out.println("not as due: " + what);
        }
    }

    private static String signature(Method m) {
        List<String> types = new ArrayList<>();
        for (Class<?> type : m.getParameterTypes()) {
            types.add(type.getName());
        }
        return m.getReturnType().getName() + " " + m.getName() + "(" + String.join(",", types) + ")";
    }

    private static void lookAtMethods() {
        Set<String> due = new TreeSet<>(List.of(FACE));
        Set<String> found = new TreeSet<>();
        Set<String> publicNames = new TreeSet<>();
        Set<String> otherNames = new TreeSet<>();
        for (Method m : WinProofs.class.getDeclaredMethods()) {
            if (Modifier.isPublic(m.getModifiers())) {
                found.add(signature(m));
                publicNames.add(m.getName());
                due(!Modifier.isStatic(m.getModifiers()), "not static: " + m);
            } else {
                due(Modifier.isPrivate(m.getModifiers()), "private: " + m);
                otherNames.add(m.getName());
            }
        }
        for (Class<?> inner : WinProofs.class.getDeclaredClasses()) {
            due(Modifier.isStatic(inner.getModifiers()), "static: " + inner);
            for (Method m : inner.getDeclaredMethods()) {
                otherNames.add(m.getName());
                due(m.getParameterCount() <= 7, "at most seven parameters: " + m);
            }
        }
        due(found.equals(due), "the public methods, which are " + found);
        otherNames.retainAll(publicNames);
        due(otherNames.isEmpty(), "no other method with a public one's name: " + otherNames);
    }

    private static void lookAtMembers() throws ReflectiveOperationException {
        due(Modifier.isFinal(WinProofs.class.getModifiers()), "a final class");
        Set<String> constants = new TreeSet<>();
        for (Field f : WinProofs.class.getDeclaredFields()) {
            if (Modifier.isPublic(f.getModifiers())) {
                constants.add(f.getName() + "=" + f.getInt(null));
            } else {
                due(Modifier.isPrivate(f.getModifiers()), "private: " + f);
            }
            due(!Modifier.isStatic(f.getModifiers()) || Modifier.isFinal(f.getModifiers()), "final: " + f);
        }
        due(constants.equals(Set.of("NONE=-1", "BAD=-2", "FULL=-3")), "the constants, which are " + constants);
        Constructor<?>[] all = WinProofs.class.getDeclaredConstructors();
        due(all.length == 1 && all[0].getParameterCount() == 0 && Modifier.isPublic(all[0].getModifiers()),
                "one constructor");
        due(WinProofs.class.getDeclaredClasses().length < 12, "at most twelve classes");
        lookAtFields(WinProofs.class);
        for (Class<?> inner : WinProofs.class.getDeclaredClasses()) {
            lookAtFields(inner);
        }
    }

    private static void lookAtFields(Class<?> holder) {
        int fields = 0;
        for (Field f : holder.getDeclaredFields()) {
            fields += Modifier.isStatic(f.getModifiers()) ? 0 : 1;
        }
        due(fields <= 20, "at most twenty fields: " + holder);
    }

    private static void lookAtText() throws IOException {
        String text = Files.readString(Path.of("src/main/java/WinProofs.java"));
        String code = text.replaceAll("(?s)/\\*.*?\\*/", "").replaceAll("//[^\n]*", "");
        for (String word : FORBIDDEN) {
            due(!Pattern.compile(word).matcher(code).find(), "without " + word);
        }
        Matcher method = Pattern.compile("(?ms)^( {4}| {8})[a-z][\\w \\[\\]]*\\([^)]*\\) \\{\n.*?^\\1\\}").matcher(code);
        int methods = 0;
        while (method.find()) {
            methods++;
            due(method.group().lines().count() <= 60, "at most sixty lines: " + method.group().lines().findFirst());
        }
        due(methods > 50, "the methods are found, " + methods);
    }

    /** The face as it is told here and as the document tells it must be the same. */
    private static void lookAtDocument() throws IOException {
        Path path = Path.of("../shared/DOC.md");
        if (!Files.exists(path)) {
            System.out.println("FaceTest: no " + path + ", so the face is not compared with it");
            return;
        }
        String text = Files.readString(path);
        String face = text.substring(text.indexOf("public final class WinProofs {"), text.indexOf("## Terms"));
        Set<String> told = new TreeSet<>();
        Matcher method = Pattern.compile("public (\\w+ \\w+)\\(([^)]*)\\);").matcher(face);
        while (method.find()) {
            told.add(method.group(1) + "(" + method.group(2).replaceAll(" \\w+(,|$)", "$1").replace(" ", "") + ")");
        }
        due(told.equals(new TreeSet<>(List.of(FACE))), "the document's face, which is " + told);
        due(face.contains("public static final int NONE = -1, BAD = -2, FULL = -3;"), "the document's constants");
        due(face.contains("public WinProofs();"), "the document's constructor");
    }

    public static void main(String[] args) throws IOException, ReflectiveOperationException {
        lookAtDocument();
        lookAtMethods();
        lookAtMembers();
        lookAtText();
        System.out.println("FaceTest: " + wrong + " wrong");
        if (wrong != 0) {
            System.exit(1);
        }
    }
}
