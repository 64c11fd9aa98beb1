import java.io.IOException;
import java.lang.reflect.Field;
import java.lang.reflect.Method;
import java.lang.reflect.Modifier;
import java.nio.file.Files;
import java.nio.file.Path;
import java.util.ArrayList;
import java.util.Arrays;
import java.util.List;
import java.util.Set;
import java.util.TreeSet;
import java.util.regex.Matcher;
import java.util.regex.Pattern;

/** What can be told of ../shared/LANGUAGE.md by looking at the class and at its text. */
public final class LanguageTest {
    static int wrong = 0;

    static void due(boolean holds, String what) {
        if (!holds) {
            wrong++;
            System.out.println("not so: " + what);
        }
    }

    static final String[] FACE = {
        "int row(int,int,int)", "int set(int,int,int)", "int copy(int,int,int,int,int)", "int drop(int)",
        "int feed(int)", "int sheet()", "int fault()", "int undo()", "int serve(int,int)", "int bringBack(int)",
        "int spoil(int)", "int value(int,int)", "int over(int)", "int cell(int,int)", "int customer(int,int)",
        "int stand(int)", "int piece(int,int)", "int parts(int)", "int pieces(int,int)", "int sums(int)",
        "int best(int,int)", "int ways(int)", "int thrift(int,int)", "int serving(int)", "int couples()",
        "int parting(int,int,int)", "int way(int,int,int)", "int lone()", "int who(int,int,int,int,int,int,int)",
        "int fits(int,int,int,int,int,int)", "long wrong(int,int,int,int)", "int drawn(int,int,int)",
        "int image(int)", "int restore(int)", "int kind(int)", "int as(int,int)", "int ask(int,int)",
        "int trace(int)", "int count(int)", "int status()"};

    static String told(Method m) {
        StringBuilder b = new StringBuilder(m.getReturnType() + " " + m.getName() + "(");
        for (int i = 0; i < m.getParameterCount(); i++) {
            b.append(i > 0 ? "," : "").append(m.getParameterTypes()[i]);
        }
        return b.append(")").toString();
    }

    static void face() {
        Class<?> c = StampSheets.class;
        due(c.getModifiers() == (Modifier.PUBLIC | Modifier.FINAL), "public and final");
        due(c.getDeclaredConstructors().length == 1 && c.getConstructors().length == 1, "one public constructor");
        Set<String> open = new TreeSet<>();
        Set<String> names = new TreeSet<>();
        for (Method m : c.getDeclaredMethods()) {
            if (!Modifier.isPrivate(m.getModifiers())) {
                open.add(told(m));
                names.add(m.getName());
            }
        }
        due(open.equals(new TreeSet<>(Arrays.asList(FACE))), "just the methods of the face: " + open);
        Set<String> fields = new TreeSet<>();
        for (Field f : c.getDeclaredFields()) {
            if (!Modifier.isPrivate(f.getModifiers())) {
                fields.add(f.getName());
            }
        }
        due(fields.toString().equals("[BAD, FULL, NONE, STATE]"), "just the constants of the face: " + fields);
        List<Class<?>> all = new ArrayList<>(Arrays.asList(c.getDeclaredClasses()));
        due(all.size() <= 11, "twelve classes at most");
        for (Class<?> inside : all) {
            due(Modifier.isStatic(inside.getModifiers()), inside + " is static");
            due(!Modifier.isPublic(inside.getModifiers()) && !Modifier.isProtected(inside.getModifiers()), inside + " is not open");
        }
        all.add(c);
        for (Class<?> one : all) {
            parts(one, one == c, names);
        }
    }

    static void parts(Class<?> one, boolean outer, Set<String> names) {
        int fields = 0;
        for (Field f : one.getDeclaredFields()) {
            boolean isStatic = Modifier.isStatic(f.getModifiers());
            fields += isStatic ? 0 : 1;
            due(!isStatic || Modifier.isFinal(f.getModifiers()), f + " is final");
        }
        due(fields <= 20, one + " has twenty fields at most");
        for (Method m : one.getDeclaredMethods()) {
            boolean isFace = outer && !Modifier.isPrivate(m.getModifiers());
            due(isFace || !names.contains(m.getName()), m + " bears no name of the face");
            due(m.getParameterCount() <= 7, m + " has seven parameters at most");
        }
    }

    static void text() throws IOException {
        String text = Files.readString(Path.of("src/main/java/StampSheets.java"));
        String code = text.replaceAll("(?s)/\\*.*?\\*/", "").replaceAll("//[^\n]*", "")
                .replaceAll("'[^'\n]'", "0").replaceAll("\"[^\"\n]*\"", "0");
        String[] words = {"throw", "throws", "try", "catch", "finally", "synchronized", "assert", "package", "volatile",
            "Object", "Exception", "Error", "System\\.(?!arraycopy)\\w+", "\\w+Exact", "Thread", "Random", "equals",
            "hashCode", "toString", "goto", "native", "double", "float", "Math\\.random", "while", "do"};
        for (String word : words) {
            Matcher m = Pattern.compile("\\b" + word + "\\b").matcher(code);
            due(!m.find(), "no word " + word);
        }
        due(!code.contains("->") && !code.contains("::"), "no lambda, no method reference");
        Matcher imports = Pattern.compile("import[^;]*;").matcher(code);
        while (imports.find()) {
            due(imports.group().equals("import java.util.Arrays;"), imports.group());
        }
        for (int i = 0; i < text.length(); i++) {
            due(text.charAt(i) < 127, "plain signs alone, at " + i);
        }
        shortMethods(text);
    }

    /** A method begins with 'private' or 'public' and ends at a brace of the same depth. */
    static void shortMethods(String text) {
        String[] lines = text.split("\n");
        for (int i = 0; i < lines.length; i++) {
            if (lines[i].matches("\\s+(private|public) .*\\) \\{")) {
                String end = lines[i].replaceAll("\\S.*", "") + "}";
                int j = i;
                while (!lines[j].equals(end)) {
                    j++;
                }
                due(j - i < 60, "short method at line " + (i + 1));
            }
        }
    }

    public static void main(String[] args) throws IOException {
        face();
        text();
        System.out.println(wrong == 0 ? "the class keeps to the language" : wrong + " faults");
        if (wrong != 0) {
            System.exit(1);
        }
    }
}
