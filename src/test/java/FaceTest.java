import java.io.IOException;
import java.lang.reflect.Constructor;
import java.lang.reflect.Field;
import java.lang.reflect.Method;
import java.lang.reflect.Modifier;
import java.nio.file.Files;
import java.nio.file.Path;
import java.util.ArrayList;
import java.util.List;
import java.util.Set;
import java.util.TreeSet;
import java.util.regex.Matcher;
import java.util.regex.Pattern;

/** "The public face" of the document, and what it says stands ahead of the calls: the class shows this and nothing else. */
public final class FaceTest {
    private static final Path SOURCE = Path.of("src/main/java/WaterPatience.java");
    private static final Path DOCUMENT = Path.of("../shared/DOC.md");

    private static int wrong;

    public static void main(String[] args) throws IOException, IllegalAccessException {
        String document = Files.readString(DOCUMENT);
        String source = Files.readString(SOURCE);
        List<String> rows = rowsOf(document);
        theClass();
        theConstant();
        theConstructor();
        theMethods(rows);
        theClassesInside();
        rowsInTheSource(rows, source);
        sections(document, source);
        System.out.println(wrong == 0 ? "the face is the document's" : wrong + " breaches");
        if (wrong != 0) {
            System.exit(1);
        }
    }

    private static void must(boolean holds, String what) {
        if (!holds) {
            wrong++;
            System.out.println("not so: " + what);
        }
    }

    /** The rows between the braces of the document's face, each without its semicolon. */
    private static List<String> rowsOf(String document) {
        int from = document.indexOf("public final class WaterPatience {");
        String block = document.substring(from, document.indexOf("```", from));
        List<String> rows = new ArrayList<>();
        for (String row : block.split("\n")) {
            if (row.endsWith(";")) {
                rows.add(row.trim().replace(";", ""));
            }
        }
        must(rows.size() == 56, "the document's face has a row for each of promises 1 to 55, and NONE");
        return rows;
    }

    private static void theClass() {
        Class<?> c = WaterPatience.class;
        must(c.getModifiers() == (Modifier.PUBLIC | Modifier.FINAL), "the class is public and final");
        must(c.getPackageName().isEmpty(), "it stands in no package");
        must(c.getSuperclass() == Object.class && c.getInterfaces().length == 0, "it is of no other class");
    }

    private static void theConstant() throws IllegalAccessException {
        for (Field field : WaterPatience.class.getDeclaredFields()) {
            if (field.getName().equals("NONE")) {
                int shown = Modifier.PUBLIC | Modifier.STATIC | Modifier.FINAL;
                must(field.getModifiers() == shown && field.getType() == int.class, "NONE is a public constant of int");
                must(field.getInt(null) == -1, "NONE is -1");
            } else {
                must(Modifier.isPrivate(field.getModifiers()), field.getName() + " is private");
            }
        }
        must(WaterPatience.NONE == -1, "NONE can be seen");
    }

    private static void theConstructor() {
        Constructor<?>[] all = WaterPatience.class.getDeclaredConstructors();
        must(all.length == 1, "there is one constructor");
        must(all[0].getModifiers() == Modifier.PUBLIC && all[0].getParameterCount() == 0, "it is public and takes nothing");
        must(all[0].getExceptionTypes().length == 0, "it tells no exceptions");
    }

    private static void theMethods(List<String> rows) {
        Set<String> want = new TreeSet<>();
        Pattern method = Pattern.compile("public (\\w+) (\\w+)\\((.*)\\)");
        for (String row : rows) {
            Matcher m = method.matcher(row);
            if (m.matches()) {
                want.add(m.group(1) + " " + m.group(2) + "(" + m.group(3).replaceAll("(\\w+) \\w+", "$1") + ")");
            }
        }
        Set<String> got = new TreeSet<>();
        for (Method m : WaterPatience.class.getDeclaredMethods()) {
            if (Modifier.isPrivate(m.getModifiers())) {
                continue;
            }
            must(m.getModifiers() == Modifier.PUBLIC, m.getName() + " is public, of an object, and nothing else");
            must(m.getExceptionTypes().length == 0, m.getName() + " tells no exceptions");
            List<String> types = new ArrayList<>();
            for (Class<?> type : m.getParameterTypes()) {
                types.add(type.getName());
            }
            got.add(m.getReturnType().getName() + " " + m.getName() + "(" + String.join(", ", types) + ")");
        }
        must(want.equals(got), "the methods are " + want + "; they are " + got);
    }

    private static void theClassesInside() {
        for (Class<?> inside : WaterPatience.class.getDeclaredClasses()) {
            int seen = Modifier.PUBLIC | Modifier.PROTECTED;
            must((inside.getModifiers() & seen) == 0, inside + " is not seen from outside");
            for (Method m : inside.getDeclaredMethods()) {
                must((m.getModifiers() & seen) == 0, m + " is not seen from outside");
            }
            for (Field f : inside.getDeclaredFields()) {
                must((f.getModifiers() & seen) == 0, f + " is not seen from outside");
            }
        }
    }

    /** With the same names of arguments, too. */
    private static void rowsInTheSource(List<String> rows, String source) {
        for (String row : rows) {
            boolean constant = row.contains(" = ");
            must(source.contains("\n    " + row + (constant ? ";" : " {") + "\n"), "the source has: " + row);
        }
    }

    /** "Ahead of the calls `tray`, .. the interface says: ---- TRAYS." */
    private static void sections(String document, String source) {
        Matcher m = Pattern.compile("Ahead of the calls (.*) the interface says: (---- .*)\\.").matcher(document);
        int found = 0;
        int calls = 0;
        while (m.find()) {
            found++;
            int from = source.indexOf("\n    // " + m.group(2) + "\n");
            int to = source.indexOf("\n    // ---- ", from + 1);
            must(from > 0 && to > from, "the source has a row " + m.group(2));
            String between = source.substring(Math.max(0, from), Math.max(0, to));
            for (String name : m.group(1).split(", ")) {
                calls++;
                must(between.contains(" " + name.replace("`", "") + "("), name + " stands behind " + m.group(2));
            }
        }
        must(found == 8 && calls == 51, "the document tells 8 sections of 51 calls");
    }
}
