import java.io.IOException;
import java.lang.reflect.Constructor;
import java.lang.reflect.Field;
import java.lang.reflect.Method;
import java.lang.reflect.Modifier;
import java.nio.file.Files;
import java.nio.file.Path;
import java.util.Arrays;
import java.util.HashSet;
import java.util.Set;
import java.util.TreeSet;
import java.util.regex.Matcher;
import java.util.regex.Pattern;

/** The face of the document, and those rules of LANGUAGE.md that can be seen from outside. */
public final class FaceTest {
    public static void main(String[] args) throws IOException {
        String doc = Files.readString(Path.of(System.getProperty("shared", "../shared"), "DOC.md"));
        String source = Files.readString(Path.of(System.getProperty("source", "src/main/java/SiltHarbour.java")));
        face(doc);
        noOtherMembers();
        innerClasses();
        forbiddenWords(source);
        lengthOfMethods(source);
        throwsByTheRule(source);
        makesInFewPlaces(source);
        Due.finish("FaceTest");
    }

    private static void face(String doc) {
        Set<String> asked = new TreeSet<>();
        Matcher m = Pattern.compile("^    public (\\w+) (\\w+)\\(([^)]*)\\)(?: throws ([^;]*))?;", Pattern.MULTILINE).matcher(doc);
        while (m.find()) {
            StringBuilder one = new StringBuilder(m.group(1)).append(' ').append(m.group(2)).append('(');
            for (String parameter : m.group(3).split(", ")) {
                one.append(parameter.split(" ")[0]).append(' ');
            }
            asked.add(one.append(')').append(m.group(4) == null ? "" : m.group(4)).toString());
        }
        Set<String> there = new TreeSet<>();
        for (Method method : SiltHarbour.class.getDeclaredMethods()) {
            if (Modifier.isPublic(method.getModifiers())) {
                StringBuilder one = new StringBuilder(method.getReturnType().getSimpleName()).append(' ').append(method.getName()).append('(');
                for (Class<?> parameter : method.getParameterTypes()) {
                    one.append(parameter.getSimpleName()).append(' ');
                }
                if (method.getParameterCount() == 0) {
                    one.append(' ');
                }
                StringBuilder thrown = new StringBuilder();
                for (Class<?> e : method.getExceptionTypes()) {
                    thrown.append(thrown.length() == 0 ? "" : ", ").append(e.getSimpleName());
                }
                there.add(one.append(')').append(thrown).toString());
            }
        }
        Due.due("methods in the document", asked.size(), 37);
        for (String one : asked) {
            Due.due("there is " + one, there.contains(one), true);
        }
        for (String one : there) {
            Due.due("the document has " + one, asked.contains(one), true);
        }
    }

    private static void noOtherMembers() {
        Due.due("public and final", Modifier.isPublic(SiltHarbour.class.getModifiers())
            && Modifier.isFinal(SiltHarbour.class.getModifiers()), true);
        Constructor<?>[] made = SiltHarbour.class.getDeclaredConstructors();
        Due.due("one constructor", made.length, 1);
        Due.due("without parameters", made[0].getParameterCount(), 0);
        for (Field f : SiltHarbour.class.getDeclaredFields()) {
            boolean none = f.getName().equals("NONE");
            Due.due("only NONE is public: " + f.getName(), Modifier.isPublic(f.getModifiers()), none);
            Due.due("others are private: " + f.getName(), Modifier.isPrivate(f.getModifiers()), !none);
            Due.due("static ones are final: " + f.getName(), Modifier.isStatic(f.getModifiers()) && !Modifier.isFinal(f.getModifiers()), false);
        }
        Set<String> open = new HashSet<>();
        for (Method m : SiltHarbour.class.getDeclaredMethods()) {
            if (Modifier.isPublic(m.getModifiers())) {
                open.add(m.getName());
            }
        }
        for (Method m : SiltHarbour.class.getDeclaredMethods()) {
            if (!Modifier.isPublic(m.getModifiers())) {
                Due.due("private: " + m.getName(), Modifier.isPrivate(m.getModifiers()), true);
                Due.due("no name of a public one: " + m.getName(), open.contains(m.getName()), false);
                Due.due("at most seven parameters: " + m.getName(), m.getParameterCount() <= 7, true);
            }
        }
        Due.due("NONE", SiltHarbour.NONE, -1);
    }

    private static void innerClasses() {
        Class<?>[] inner = SiltHarbour.class.getDeclaredClasses();
        Due.due("some twelve classes", inner.length + 1 <= 12, true);
        for (Class<?> c : inner) {
            Due.due("static: " + c.getSimpleName(), Modifier.isStatic(c.getModifiers()), true);
            Due.due("not open: " + c.getSimpleName(), Modifier.isPublic(c.getModifiers()) || Modifier.isProtected(c.getModifiers()), false);
            long fields = Arrays.stream(c.getDeclaredFields()).filter(f -> !Modifier.isStatic(f.getModifiers())).count();
            Due.due("some twenty fields: " + c.getSimpleName(), fields <= 20, true);
            for (Field f : c.getDeclaredFields()) {
                Due.due("static ones are final: " + f.getName(), Modifier.isStatic(f.getModifiers()) && !Modifier.isFinal(f.getModifiers()), false);
            }
            for (Method m : c.getDeclaredMethods()) {
                Due.due("at most seven parameters: " + m.getName(), m.getParameterCount() <= 7, true);
                boolean asPublic = Arrays.stream(SiltHarbour.class.getDeclaredMethods())
                    .anyMatch(open -> Modifier.isPublic(open.getModifiers()) && open.getName().equals(m.getName()));
                Due.due("no name of a public one: " + m.getName(), asPublic, false);
            }
        }
    }

    /** Rule 6: throw new E() or E("a written text"), of the classes that the document names. */
    private static void throwsByTheRule(String source) {
        Matcher m = Pattern.compile("\\bthrow\\b(.*)").matcher(source);
        int found = 0;
        while (m.find()) {
            found++;
            Due.due("thrown by the rule:" + m.group(1), m.group(1).matches(" new (IllegalStateException|IllegalArgumentException"
                + "|IndexOutOfBoundsException|UnsupportedOperationException|NoSuchElementException)\\((\"[^\"]*\")?\\);"), true);
        }
        Due.due("something is thrown", found > 0, true);
    }

    /** Rule 12: rows are made in constructors; later only the Act of a text, and the Board of the first image. */
    private static void makesInFewPlaces(String source) {
        String method = "";
        int found = 0;
        for (String line : source.split("\n")) {
            Matcher begin = Pattern.compile("^(?: {4}| {8})(?:(?:public|private|static|final) )*(?:[\\w\\[\\]]+ )?(\\w+)\\([^;]*$").matcher(line);
            if (begin.find()) {
                method = begin.group(1);
            }
            if (line.contains("new ") && !line.contains("throw new") || line.contains("Arrays.copyOf") || line.contains(".clone(")) {
                found++;
                boolean may = Character.isUpperCase(method.charAt(0)) || method.equals("read") || method.equals("keep");
                Due.due("made in a constructor, read or keep, not in " + method + ": " + line.trim(), may, true);
            }
        }
        Due.due("something is made", found > 0, true);
    }

    private static void forbiddenWords(String source) {
        String code = source.replaceAll("(?s)/\\*.*?\\*/", "").replaceAll("//[^\n]*", "").replaceAll("\"[^\"\n]*\"", "\"\"");
        String[] forbidden = {"\\bcatch\\b", "\\btry\\b", "\\bfinally\\b", "\\bsynchronized\\b", "\\bassert\\b", "->", "::", "Exact\\b",
            "\\bSystem\\.(?!arraycopy)", "\\bpackage\\b", "\\bnative\\b", "\\bfloat\\b", "\\bdouble\\b", "\\btoString\\b", "\\bequals\\b",
            "\\bhashCode\\b", "\\bThread\\b", "\\bRandom\\b", "\"\"\\s*\\+", "\\+\\s*\"\"", "\\bprotected\\b", "\\bvar\\b",
            "import (?!java\\.util\\.(Arrays|NoSuchElementException);)"};
        for (String word : forbidden) {
            Due.due("no " + word, Pattern.compile(word).matcher(code).find(), false);
        }
        for (int i = 0; i < source.length(); i++) {
            if (source.charAt(i) > 126) {
                Due.due("plain signs alone", i, -1);
            }
        }
        Due.due("no package", code.startsWith("import"), true);
    }

    /** A method begins with a line of 4 or 8 blanks that opens a block, and ends with } of as many. */
    private static void lengthOfMethods(String source) {
        String[] lines = source.split("\n");
        for (int i = 0; i < lines.length; i++) {
            if (lines[i].matches(" {4}(?! ).*\\) ?.*\\{") || lines[i].matches(" {8}(?! ).*\\).*\\{")) {
                String end = lines[i].substring(0, lines[i].indexOf(lines[i].trim())) + "}";
                int j = i;
                while (j < lines.length && !lines[j].equals(end)) {
                    j++;
                }
                Due.due("some sixty lines: " + lines[i].trim(), j - i <= 60, true);
            }
        }
    }
}
