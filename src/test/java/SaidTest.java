import java.io.IOException;
import java.nio.file.Files;
import java.nio.file.Path;
import java.util.List;
import java.util.regex.Matcher;
import java.util.regex.Pattern;
import java.util.stream.Stream;

/**
 * Every word of the document that promises something stands behind a case of some test: each case tells, by says(), the
 * words that it tests. What is no promise (headings, the face, which FaceTest reads, and "Not promised") is left out.
 */
public final class SaidTest {
    private static final Pattern SAYS = Pattern.compile("\\bsays\\(((?:\\s*\"(?:[^\"\\\\]|\\\\.)*\"\\s*\\+?)+)\\)");
    private static final Pattern PIECE = Pattern.compile("\"((?:[^\"\\\\]|\\\\.)*)\"");

    public static void main(String[] args) throws IOException {
        String document = promised(Files.readString(Path.of("../shared/DOC.md")));
        boolean[] said = new boolean[document.length()];
        int many = 0;
        try (Stream<Path> files = Files.list(Path.of("src/test/java"))) {
            for (Path file : files.filter(f -> f.toString().endsWith("Test.java")).toList()) {
                many += mark(document, said, Files.readString(file));
            }
        }
        int wrong = 0;
        for (int at = 0; at < document.length(); at++) {
            if (!said[at] && Character.isLetterOrDigit(document.charAt(at))) {
                int end = at;
                while (end < document.length() && !said[end]) {
                    end++;
                }
                wrong++;
                System.out.println("no test says: " + document.substring(at, end));
                at = end;
            }
        }
        System.out.println(wrong == 0 ? "all of the document is said by " + many + " tests' words" : wrong + " pieces are not said");
        if (wrong != 0 || document.length() < 10000) {
            System.exit(1);
        }
    }

    /** What the document promises, its blanks as one each. */
    private static String promised(String document) {
        StringBuilder out = new StringBuilder();
        boolean face = false;
        for (String row : document.substring(0, document.indexOf("## Not promised")).split("\n")) {
            face = row.startsWith("```java") || face && !row.startsWith("```");
            boolean title = row.startsWith("#") || row.startsWith("```") || row.startsWith("Ahead of the calls");
            boolean about = row.startsWith("A dry valley");
            if (!face && !title && !about) {
                // a promise begins with its call, which the face has
                out.append(row.replaceFirst("^`[^`]*`: ", "").replaceFirst("^==== \\d\\. ", "")).append(' ');
            }
        }
        return plain(out.toString());
    }

    private static String plain(String text) {
        return text.replaceAll("\\s+", " ");
    }

    private static int mark(String document, boolean[] said, String source) {
        int many = 0;
        Matcher says = SAYS.matcher(source);
        while (says.find()) {
            many++;
            StringBuilder words = new StringBuilder();
            Matcher piece = PIECE.matcher(says.group(1));
            while (piece.find()) {
                words.append(piece.group(1));
            }
            String told = plain(words.toString());
            for (int at = document.indexOf(told); at >= 0; at = document.indexOf(told, at + 1)) {
                for (int i = at; i < at + told.length(); i++) {
                    said[i] = true;
                }
            }
        }
        return many;
    }
}
