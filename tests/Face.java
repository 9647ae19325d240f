import java.io.IOException;
import java.lang.reflect.Constructor;
import java.lang.reflect.Field;
import java.lang.reflect.Method;
import java.lang.reflect.Modifier;
import java.nio.charset.StandardCharsets;
import java.nio.file.Files;
import java.nio.file.Path;
import java.util.ArrayList;
import java.util.Arrays;
import java.util.List;
import java.util.Set;
import java.util.TreeSet;
import java.util.regex.Pattern;

/** The class has the document's face and no other, and keeps to what of LANGUAGE.md can be looked up. */
public final class Face {
    private static final Path SOURCE = Path.of("src/main/java/FeastMarch.java");
    private static final Set<String> FACE = new TreeSet<>(List.of(
            "int type(int)", "int clear()", "int city()", "int street(int,int)", "int leader(int,int)",
            "int far(int,int)", "int leads(int)", "int shuts(int,int)", "int undo()", "int now(int)",
            "int order(int)", "int most(int)", "int rows(int)", "int saw(int,int)", "int forget()",
            "int fits(int)", "int plans(int)", "int drops()", "int planned(int)", "int odds(int,int)",
            "int mark(int,int)", "int keep(int)", "int back(int)", "int count(int)", "long trace()",
            "FeastMarch()", "int BAD", "int STATE", "int FULL", "int NONE", "int NO"));
    private static int wrong = 0;

    public static void main(String[] args) throws IOException {
        face();
        insides();
        source();
        System.out.println(wrong == 0 ? "the face is as due" : wrong + " things are not as due");
        if (wrong != 0) {
            System.exit(1);
        }
    }

    private static void hold(boolean is, String what) {
        if (!is) {
            wrong++;
            System.out.println(what);
        }
    }

    private static void face() {
        Set<String> seen = new TreeSet<>();
        for (Field f : FeastMarch.class.getDeclaredFields()) {
            if (!Modifier.isPrivate(f.getModifiers())) {
                hold(f.getModifiers() == (Modifier.PUBLIC | Modifier.STATIC | Modifier.FINAL), "rule 1: " + f);
                seen.add(f.getType() + " " + f.getName());
            }
        }
        for (Method m : FeastMarch.class.getDeclaredMethods()) {
            if (!Modifier.isPrivate(m.getModifiers())) {
                hold(m.getModifiers() == Modifier.PUBLIC, "rule 1: " + m);
                seen.add(m.getReturnType() + " " + m.getName() + parameters(m.getParameterTypes()));
            }
        }
        for (Constructor<?> c : FeastMarch.class.getDeclaredConstructors()) {
            seen.add("FeastMarch" + parameters(c.getParameterTypes()));
        }
        hold(seen.equals(FACE), "the face is " + seen);
        hold(FeastMarch.class.getModifiers() == (Modifier.PUBLIC | Modifier.FINAL), "rule 1: the class");
    }

    private static String parameters(Class<?>[] types) {
        List<String> names = new ArrayList<>();
        Arrays.stream(types).forEach(t -> names.add(t.getName()));
        return "(" + String.join(",", names) + ")";
    }

    private static void insides() {
        Set<String> publicNames = new TreeSet<>();
        FACE.forEach(f -> publicNames.add(f.replaceAll("^\\S+ |\\(.*$", "")));
        List<Class<?>> all = new ArrayList<>(List.of(FeastMarch.class.getDeclaredClasses()));
        hold(all.size() < 12, "rule 11: classes");
        all.forEach(c -> hold(Modifier.isStatic(c.getModifiers()) && !Modifier.isPublic(c.getModifiers()), "rule 2: " + c));
        all.add(FeastMarch.class);
        for (Class<?> c : all) {
            int fields = 0;
            for (Field f : c.getDeclaredFields()) {
                boolean isStatic = Modifier.isStatic(f.getModifiers());
                fields += isStatic ? 0 : 1;
                hold(!isStatic || Modifier.isFinal(f.getModifiers()), "rule 5: " + f);
            }
            hold(fields <= 20, "rule 11: fields of " + c);
            for (Method m : c.getDeclaredMethods()) {
                hold(m.getParameterCount() <= 7, "rule 11: " + m);
                hold(Modifier.isPublic(m.getModifiers()) || !publicNames.contains(m.getName()), "rule 1: " + m);
            }
        }
    }

    private static void source() throws IOException {
        String source = Files.readString(SOURCE, StandardCharsets.ISO_8859_1);
        String code = source.replaceAll("(?s)/\\*.*?\\*/|//[^\n]*", "");
        String[] banned = {"throw", "throws", "try", "catch", "synchronized", "assert", "import", "package",
            "native", "volatile", "transient", "var", "record", "static \\{", "->", "::", "\"", "%s", "Thread", "System\\.(?!arraycopy)",
            "Math\\.(?!max|min|abs|floorDiv|floorMod)", "Integer\\.(?!bitCount)", "\\w+Exact", "equals", "hashCode", "toString", "Random"};
        for (String word : banned) {
            boolean isWord = word.matches("\\w+");
            String pattern = isWord ? "\\b" + word + "\\b" : word;
            hold(!Pattern.compile(pattern).matcher(code).find(), "LANGUAGE.md: " + word);
        }
        hold(source.chars().allMatch(c -> c == '\n' || c >= 32 && c < 127), "a byte that is not plain");
        String[] lines = source.split("\n");
        int from = 0;
        for (int i = 0; i < lines.length; i++) {
            hold(lines[i].length() <= 110, "a line of " + lines[i].length() + " signs: " + lines[i]);
            if (lines[i].matches(" +[\\w\\[\\] ]+\\(.*\\) \\{") && !lines[i].contains("else")) {
                from = lines[i].matches(" +(for|if|while|switch) .*") ? from : i;
            }
            hold(i - from <= 60 || !lines[i].matches(" {4,8}}"), "rule 11: a method ends in line " + (i + 1));
        }
    }
}
