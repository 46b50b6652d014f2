import java.io.IOException;
import java.lang.reflect.Constructor;
import java.lang.reflect.Field;
import java.lang.reflect.Member;
import java.lang.reflect.Method;
import java.lang.reflect.Modifier;
import java.nio.file.Files;
import java.nio.file.Path;
import java.util.ArrayList;
import java.util.List;
import java.util.Set;
import java.util.TreeSet;
import java.util.regex.Matcher;
import java.util.regex.Pattern;

/** The public face, as the document writes it, and those rules of the language that can be read off the text. */
public final class FaceTest {
    private static final String[] FORBIDDEN = {
        "->", "::", "\\bcatch\\b", "\\bfinally\\b", "\\btry\\b", "\\bsynchronized\\b", "\\bassert\\b",
        "\\bwhile \\(true\\)", "for \\([^;]*; ;", "\\bSystem\\.(?!arraycopy)", "\\bObject\\b", "\\bRandom\\b",
        "\\bArrays\\.(?!fill)", "\\bMath\\.(?!min|max|abs)", "\\b(?:Long|Integer)\\.(?!bitCount)",
        "Exact\\(", "\\bdouble\\b", "\\bfloat\\b", "\\bstatic \\{", "\\bprotected\\b", "\\bnull\\b",
    };

    private static final List<String> wrong = new ArrayList<>();

    public static void main(String[] args) throws IOException {
        members(faceOf(Files.readString(Path.of(System.getProperty("document")))));
        List<String> lines = Files.readAllLines(Path.of(System.getProperty("source")));
        String text = String.join("\n", lines);
        forbidden(lines);
        methods(text);
        for (String w : wrong) {
            System.out.println(w);
        }
        System.out.println("FaceTest: " + wrong.size() + " wrong");
        System.exit(wrong.isEmpty() ? 0 : 1);
    }

    private static void expect(boolean right, String otherwise) {
        if (!right) {
            wrong.add(otherwise);
        }
    }

    /** The methods of the document's face: type, name, types of the parameters, and what is thrown, in its order. */
    private static Set<String> faceOf(String document) {
        String face = document.substring(document.indexOf("## The public face"), document.indexOf("## Terms"));
        Matcher m = Pattern.compile("public (\\w+) (\\w+)\\(([^)]*)\\)( throws [^;]*)?;").matcher(face);
        Set<String> all = new TreeSet<>();
        while (m.find()) {
            String types = m.group(3).replaceAll(" \\w+(, |$)", ",").replaceAll(",$", "");
            String thrown = m.group(4) == null ? "" : m.group(4);
            all.add(m.group(1) + " " + m.group(2) + "(" + types + ")" + thrown);
        }
        expect(all.size() == 41, "the document's face has " + all.size() + " methods");
        return all;
    }

    private static void members(Set<String> due) {
        Class<?> face = HollowPunches.class;
        expect(Modifier.isPublic(face.getModifiers()) && Modifier.isFinal(face.getModifiers()), "public and final");
        Set<String> open = new TreeSet<>();
        Set<String> hidden = new TreeSet<>();
        Set<String> names = new TreeSet<>();
        for (Method m : face.getDeclaredMethods()) {
            if (Modifier.isPrivate(m.getModifiers()) || m.isSynthetic()) {
                hidden.add(m.getName());
            } else {
                open.add(signature(m));
                names.add(m.getName());
                expect(Modifier.isPublic(m.getModifiers()) && !Modifier.isStatic(m.getModifiers()), m + " is open");
            }
        }
        expect(open.equals(due), "the face is " + open + ", due is " + due);
        for (Class<?> inner : face.getDeclaredClasses()) {
            expect(Modifier.isStatic(inner.getModifiers()), inner + " is not static");
            for (Method m : inner.getDeclaredMethods()) {
                hidden.add(m.getName());
            }
            expect(inner.getDeclaredFields().length <= 20 + 12, inner + " has many fields");
        }
        hidden.retainAll(names);
        expect(hidden.isEmpty(), "names of the face are used again: " + hidden);
        Constructor<?>[] makers = face.getDeclaredConstructors();
        expect(makers.length == 1 && makers[0].getParameterCount() == 0 && isPublic(makers[0]), "one constructor");
        for (Field f : face.getDeclaredFields()) {
            boolean none = f.getName().equals("NONE") && isPublic(f);
            expect(none || Modifier.isPrivate(f.getModifiers()), f + " is open");
            expect(!Modifier.isStatic(f.getModifiers()) || Modifier.isFinal(f.getModifiers()), f + " is not final");
        }
        expect(face.getDeclaredClasses().length < 12, "too many classes");
    }

    private static boolean isPublic(Member m) {
        return Modifier.isPublic(m.getModifiers());
    }

    private static String signature(Method m) {
        StringBuilder s = new StringBuilder(m.getReturnType() + " " + m.getName() + "(");
        for (Class<?> type : m.getParameterTypes()) {
            s.append(s.charAt(s.length() - 1) == '(' ? "" : ",").append(type);
        }
        s.append(")");
        for (Class<?> type : m.getExceptionTypes()) {
            s.append(s.charAt(s.length() - 1) == ')' ? " throws " : ", ").append(type.getSimpleName());
        }
        return s.toString();
    }

    private static void forbidden(List<String> lines) {
        for (int i = 0; i < lines.size(); i++) {
            String line = lines.get(i).replaceAll("\"[^\"]*\"", "\"\"");
            String told = "line " + (i + 1) + ": " + line.trim();
            boolean comment = line.trim().startsWith("//") || line.trim().startsWith("*") || line.contains("/**");
            for (String pattern : FORBIDDEN) {
                expect(comment || !Pattern.compile(pattern).matcher(line).find(), told + " (" + pattern + ")");
            }
            boolean makes = !comment && Pattern.compile("\\bnew\\b").matcher(line).find();
            boolean field = line.startsWith("    private ") || line.startsWith("        private ");
            expect(!makes || field || line.contains("throw new"), told + " (makes an object in a call)");
            boolean imports = line.startsWith("import ");
            expect(!imports || line.matches("import java\\.util\\.(Arrays|NoSuchElementException);"), told);
            for (char c : line.toCharArray()) {
                expect(c < 128, told + " (a sign above 127)");
            }
        }
    }

    /** Methods are short and take seven parameters at most. */
    private static void methods(String text) {
        Pattern head = Pattern.compile("(?m)^( {4}| {8})(?:[a-z]+ )*[A-Za-z\\[\\]]+ (\\w+)\\(([^)]*)\\)[^;{]*\\{$");
        Matcher m = head.matcher(text);
        int found = 0;
        while (m.find()) {
            found++;
            int end = text.indexOf("\n" + m.group(1) + "}", m.end());
            long length = text.substring(m.start(), end).lines().count() + 1;
            expect(length <= 60, m.group(2) + " has " + length + " lines");
            expect(m.group(3).split(",").length <= 7, m.group(2) + " takes too much");
        }
        expect(found > 100, "only " + found + " methods were found");
    }
}
