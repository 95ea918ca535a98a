import java.nio.file.Files;
import java.nio.file.Path;
import java.util.regex.Matcher;
import java.util.regex.Pattern;

/** Those rules of LANGUAGE.md that can be read from the program's text. */
public final class LanguageTest {
    private static final String[] FORBIDDEN = {"throw", "throws", "try", "catch", "finally", "synchronized", "assert", "import",
        "package", "protected", "volatile", "transient", "native", "strictfp", "instanceof", "equals", "hashCode", "toString", "Object",
        "var", "yield", "sealed", "Exception", "Error", "Thread", "Random", "float", "double"};

    public static void main(String[] args) throws Exception {
        String text = Files.readString(Path.of("src/main/java/TwelveChain.java"));
        for (int i = 0; i < text.length(); i++) {
            if (text.charAt(i) > 126 || text.charAt(i) < 32 && text.charAt(i) != '\n') {
                Due.so("the sign at " + i + " is one of 32 to 126", false);
            }
        }
        String bare = text.replaceAll("(?s)/\\*.*?\\*/", "").replaceAll("//[^\n]*", "").replaceAll("\"[^\"\n]*\"", "\"\"");
        for (String word : FORBIDDEN) {
            Due.so("no " + word, !Pattern.compile("\\b" + word + "\\b").matcher(bare).find());
        }
        Due.so("no lambda", !bare.contains("->"));
        Due.so("no method reference", !bare.contains("::"));
        Due.so("no text joined by +", !bare.contains("\"\" +") && !bare.contains("+ \"\""));
        Matcher system = Pattern.compile("\\b(System|Math|Integer|Long|Arrays|String)\\.(\\w+)").matcher(bare);
        while (system.find()) {
            String call = system.group();
            Due.so(call + " is in the list", call.matches("System\\.arraycopy|Math\\.(min|max|floorDiv)|Integer\\.bitCount"));
        }
        methods(bare);
        made(bare);
        Due.end("LanguageTest");
    }

    /** Methods have seven parameters and some sixty lines at most. */
    private static void methods(String bare) {
        String[] lines = bare.split("\n");
        int start = -1;
        String indent = "";
        for (int i = 0; i < lines.length; i++) {
            Matcher head = Pattern.compile("^( {4}| {8})[\\w\\[\\] ]+\\(([^()]*)\\) \\{$").matcher(lines[i]);
            if (head.find() && !lines[i].matches("^ *(if|for|while|switch|else).*")) {
                start = i;
                indent = head.group(1);
                Due.so(lines[i] + " has seven parameters at most", head.group(2).split(",").length <= 7);
            } else if (start >= 0 && lines[i].equals(indent + "}")) {
                Due.so(lines[start] + " has sixty lines at most", i - start < 60);
                start = -1;
            }
        }
    }

    /** All calls of a run live in one room: what is made is made with the object, and used again. */
    private static void made(String bare) {
        for (String line : bare.split("\n")) {
            if (line.matches(".*\\bnew\\b.*") || line.matches(".*\\.clone\\(.*")) {
                boolean field = line.matches(" {4,8}(private )?final [\\w\\[\\]]+ \\w+ = new [^;]*;");
                boolean inConstructor = line.matches(" +(links\\[i\\] = new Link\\(\\)|before\\[i\\] = new Chain\\(false\\));");
                Due.so("made with the object:" + line, field || inConstructor);
            }
        }
    }
}
