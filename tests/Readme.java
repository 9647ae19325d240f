import java.io.File;
import java.io.IOException;
import java.lang.reflect.Method;
import java.lang.reflect.Modifier;
import java.nio.file.Files;
import java.nio.file.Path;
import java.util.ArrayList;
import java.util.List;
import java.util.regex.Matcher;
import java.util.regex.Pattern;

/** What README.md says is so: its program is compiled and asked, its commands are run. */
public final class Readme {
    private static final Path PLACE = Path.of("build/readme");
    private static final Pattern ANSWERED = Pattern.compile("(march\\.(\\w+)\\(.*?\\));\\s+// (-?\\d+): .*");
    private static int wrong = 0;

    public static void main(String[] args) throws IOException, InterruptedException {
        List<String> lines = Files.readAllLines(Path.of("README.md"));
        Files.createDirectories(PLACE);
        program(indented(lines, "## How to use it"));
        commands(indented(lines, "## How to run its tests"));
        names(String.join("\n", lines));
        System.out.println(wrong == 0 ? "README.md says what is so" : wrong + " things are not as README.md says");
        if (wrong != 0) {
            System.exit(1);
        }
    }

    private static void hold(boolean is, String what) {
        if (!is) {
            wrong++;
            System.out.println(what);
        }
    }

    /** The indented lines of a section. */
    private static List<String> indented(List<String> lines, String title) {
        List<String> found = new ArrayList<>();
        boolean inside = false;
        for (String line : lines) {
            inside = line.startsWith("#") ? line.equals(title) : inside;
            if (inside && line.startsWith("    ")) {
                found.add(line.substring(4));
            }
        }
        hold(!found.isEmpty(), "nothing is shown under '" + title + "'");
        return found;
    }

    /** The program as it is shown, with each answer that is told behind a call looked at. */
    private static void program(List<String> shown) throws IOException, InterruptedException {
        StringBuilder source = new StringBuilder("public final class Shown {\n    static int wrong = 0;\n"
                + "    static void due(String call, long got, long want) {\n"
                + "        if (got != want) {\n            wrong++;\n"
                + "            System.out.println(call + \" answered \" + got + \", README.md says \" + want);\n"
                + "        }\n    }\n    public static void main(String[] args) {\n");
        int told = 0;
        for (String line : shown) {
            Matcher m = ANSWERED.matcher(line);
            if (m.matches()) {
                told++;
                source.append("due(\"" + m.group(1) + "\", " + m.group(1) + ", " + m.group(3) + "L);\n");
            } else {
                hold(!line.contains("//"), "an answer that can't be read: " + line);
                source.append(line).append('\n');
            }
        }
        hold(told > 0, "no answer is told");
        source.append("System.exit(wrong);\n    }\n}\n");
        Path file = PLACE.resolve("Shown.java");
        Files.writeString(file, source);
        hold(runs("javac", "-d", PLACE.toString(), "src/main/java/FeastMarch.java", file.toString()),
                "the program that is shown does not compile");
        hold(runs("java", "-cp", PLACE.toString(), "Shown"), "the program that is shown answers else");
    }

    /** .ci/run runs this test, so it is only looked up; every other command is run. */
    private static void commands(List<String> shown) throws IOException, InterruptedException {
        for (String command : shown) {
            if (command.equals(".ci/run")) {
                hold(Files.isExecutable(Path.of(command)), command + " can't be run");
            } else {
                hold(runs(command.split(" +")), "fails: " + command);
            }
        }
    }

    private static boolean runs(String... command) throws IOException, InterruptedException {
        File out = PLACE.resolve("out").toFile();
        Process process = new ProcessBuilder(command).redirectErrorStream(true).redirectOutput(out).start();
        boolean well = process.waitFor() == 0;
        if (!well) {
            System.out.println(Files.readString(out.toPath()));
        }
        return well;
    }

    /** Each call is named, and each file. */
    private static void names(String text) {
        for (Method m : FeastMarch.class.getDeclaredMethods()) {
            hold(!Modifier.isPublic(m.getModifiers()) || text.contains("`" + m.getName() + "`"),
                    m.getName() + " is not named");
        }
        Matcher m = Pattern.compile("`([^` ]*/[^` ]*)`").matcher(text);
        while (m.find()) {
            hold(Files.exists(Path.of(m.group(1))), "there is no " + m.group(1));
        }
    }
}
