import java.lang.reflect.Constructor;
import java.lang.reflect.Field;
import java.lang.reflect.Method;
import java.lang.reflect.Modifier;
import java.nio.file.Files;
import java.nio.file.Path;
import java.util.ArrayList;
import java.util.List;
import java.util.TreeSet;
import java.util.regex.Matcher;
import java.util.regex.Pattern;

/** The class has the face that the document shows, nothing else is seen of it, and its file keeps to LANGUAGE.md. */
public final class FaceTest {
    private static final Path DOC = Path.of("../shared/DOC.md"), SOURCE = Path.of("src/main/java/LeftUndoes.java");
    private static int wrong;

    private static void must(boolean right, String what) {
        if (right) return;
        wrong++;
        System.out.println(what);
    }

    private static String signature(Method m) {
        List<String> types = new ArrayList<>();
        for (Class<?> type : m.getParameterTypes()) types.add(type.getName());
        return m.getReturnType().getName() + " " + m.getName() + types;
    }

    private static TreeSet<String> documented(String doc) {
        TreeSet<String> face = new TreeSet<>();
        String block = doc.substring(doc.indexOf("```java"), doc.indexOf("```", doc.indexOf("```java") + 7));
        Matcher m = Pattern.compile("public (int|long) (\\w+)\\((.*?)\\);").matcher(block);
        while (m.find()) {
            List<String> types = new ArrayList<>();
            for (String parameter : m.group(3).split(", ")) if (!parameter.isEmpty()) types.add(parameter.split(" ")[0]);
            face.add(m.group(1) + " " + m.group(2) + types);
        }
        return face;
    }

    private static void face() throws Exception {
        Class<?> c = LeftUndoes.class;
        must(Modifier.isPublic(c.getModifiers()) && Modifier.isFinal(c.getModifiers()), "the class is not public and final");
        TreeSet<String> seen = new TreeSet<>();
        TreeSet<String> publicNames = new TreeSet<>(), privateNames = new TreeSet<>();
        for (Method m : c.getDeclaredMethods()) {
            if (Modifier.isPrivate(m.getModifiers())) {
                privateNames.add(m.getName());
                continue;
            }
            publicNames.add(m.getName());
            seen.add(signature(m));
            must(Modifier.isPublic(m.getModifiers()) && !Modifier.isStatic(m.getModifiers()), "seen, and not public: " + m);
        }
        for (Class<?> inside : c.getDeclaredClasses()) {
            must(Modifier.isStatic(inside.getModifiers()), "not static: " + inside);
            for (Method m : inside.getDeclaredMethods()) privateNames.add(m.getName());
        }
        must(seen.equals(documented(Files.readString(DOC))), "the face is another one: " + seen);
        privateNames.retainAll(publicNames);
        must(privateNames.isEmpty(), "names of the face borne by others: " + privateNames);
        Constructor<?>[] made = c.getDeclaredConstructors();
        must(made.length == 1 && made[0].getParameterCount() == 0 && Modifier.isPublic(made[0].getModifiers()), "the constructor");
        List<String> constants = new ArrayList<>();
        for (Field f : c.getDeclaredFields()) if (!Modifier.isPrivate(f.getModifiers())) constants.add(f.getName() + f.getInt(null));
        must(constants.equals(List.of("BAD-1", "FULL-2", "NONE-3", "STATE-4")), "the constants: " + constants);
    }

    private static void sizes() {
        List<Class<?>> all = new ArrayList<>(List.of(LeftUndoes.class.getDeclaredClasses()));
        all.add(LeftUndoes.class);
        must(all.size() <= 12, "classes: " + all.size());
        for (Class<?> c : all) {
            int fields = 0;
            for (Field f : c.getDeclaredFields()) {
                if (!Modifier.isStatic(f.getModifiers())) fields++;
                else must(Modifier.isFinal(f.getModifiers()), "static and not final: " + f);
            }
            must(fields <= 20, "fields of " + c + ": " + fields);
            for (Method m : c.getDeclaredMethods()) must(m.getParameterCount() <= 7, "parameters of " + m);
        }
    }

    private static void language() throws Exception {
        String text = Files.readString(SOURCE);
        must(text.chars().allMatch(b -> b == '\n' || b >= 32 && b < 127), "a sign outside 32 to 126");
        String code = text.replaceAll("(?s)/\\*.*?\\*/", "").replaceAll("//[^\n]*", "").replaceAll("\"[^\"]*\"", "\"\"")
            .replaceAll("'[^']*'", "''");
        String[] none = {"\\bthrow\\b", "\\btry\\b", "\\bcatch\\b", "\\bfinally\\b", "\\bsynchronized\\b", "\\bassert\\b", "\\bimport\\b",
            "\\bpackage\\b", "->", "::", "@", "\\bprotected\\b", "\\bvolatile\\b", "\\bnative\\b", "Exact\\b", "\\bSystem\\b", "\\bThread\\b",
            "\"\" *\\+", "\\+ *\"\"", "\\bnull\\b", "\\.hashCode\\b", "\\.toString\\b", "\\bString *\\[", "\\bwhile\\b"};
        for (String no : none) must(!Pattern.compile(no).matcher(code).find(), "in the file: " + no);
        int since = -1, at = 0;
        for (String line : text.split("\n")) {
            at++;
            must(line.length() <= 120, "line " + at + " is long");
            boolean begins = line.matches(" {4,8}[^ ].*\\) \\{") && !line.matches(" *(if|for|else|switch).*");
            if (begins) since = at;
            if (since > 0 && line.matches(" {4,8}\\}")) must(at - since <= 60, "a long method ends in line " + at);
        }
    }

    public static void main(String[] args) throws Exception {
        face();
        sizes();
        language();
        System.out.println(wrong == 0 ? "the face is the document's, the file keeps to its language" : wrong + " things are wrong");
        if (wrong != 0) System.exit(1);
    }
}
