import java.io.IOException;
import java.nio.file.Files;
import java.nio.file.Path;
import java.util.ArrayList;
import java.util.List;
import java.util.regex.Matcher;
import java.util.regex.Pattern;

/** The rules of LANGUAGE.md that can be seen in the source's text. Started from the project's folder. */
public final class FoldedMapLanguage {
    private static int wrong = 0;

    private static void refuse(String rule, String found) {
        wrong++;
        System.out.println(rule + ": " + found);
    }

    private static void refuseWords(String code) {
        String[] words = {"throw", "throws", "try", "catch", "synchronized", "assert", "import", "package", "protected",
            "volatile", "native", "hashCode", "toString", "Object", "System\\.(?!arraycopy\\b)\\w+", "->", "::",
            "Math\\.\\w*Exact", "Random", "Thread", "@"};
        for (String word : words) {
            String whole = Character.isLetter(word.charAt(0)) ? "\\b" + word + "\\b" : word;
            Matcher m = Pattern.compile(whole).matcher(code);
            if (m.find()) {
                refuse("a word outside the language", m.group());
            }
        }
    }

    private static void lookAtMethods(String[] lines) {
        String face = " type clear map cell at fold undo day bent touch packet reach serves saw forget fits rate keep back"
            + " count trace ";
        Pattern head = Pattern.compile("^ +((?:public |private |static |final )*)[\\w\\[\\]]+ (\\w+)\\(([^)]*)\\) \\{$");
        for (int i = 0; i < lines.length; i++) {
            Matcher m = head.matcher(lines[i]);
            if (!m.find() || lines[i].contains("return ")) {
                continue;
            }
            if (!m.group(1).contains("public") && face.contains(" " + m.group(2) + " ")) {
                refuse("a method bears a public one's name", m.group(2));
            }
            if (m.group(3).split(",").length > 7) {
                refuse("more than seven parameters", m.group(2));
            }
            String end = lines[i].replaceAll("\\S.*", "") + "}";
            int last = i;
            while (last < lines.length && !lines[last].equals(end)) {
                last++;
            }
            if (last - i > 60) {
                refuse("a long method", m.group(2));
            }
        }
    }

    public static void main(String[] args) throws IOException {
        String source = Files.readString(Path.of("src/main/java/FoldedMap.java"));
        String code = source.replaceAll("(?s)/\\*.*?\\*/", "").replaceAll("//[^\n]*", "");
        refuseWords(code);
        lookAtMethods(code.split("\n"));
        List<String> classes = new ArrayList<>();
        Matcher m = Pattern.compile("(private static final |public final )?(class|record|enum|interface) (\\w+)").matcher(code);
        while (m.find()) {
            classes.add(m.group(3));
            if (m.group(1) == null) {
                refuse("a class inside that is not private, static and final", m.group(3));
            }
        }
        if (classes.size() > 12) {
            refuse("more than twelve classes", classes.toString());
        }
        for (int i = 0; i < source.length(); i++) {
            if (source.charAt(i) > 126) {
                refuse("a sign above 126 at", String.valueOf(i));
            }
        }
        System.out.println(wrong == 0 ? "the source keeps to the rules" : wrong + " faults");
        if (wrong != 0) {
            System.exit(1);
        }
    }
}
