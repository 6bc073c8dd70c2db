import java.io.IOException;
import java.nio.file.Files;
import java.nio.file.Path;
import java.util.Set;
import java.util.TreeSet;
import java.util.regex.Matcher;
import java.util.regex.Pattern;

/** What of LANGUAGE.md can be seen in the text of the program; it is run from the project's folder. */
public final class LanguageTest {
    private static final Path PROGRAM = Path.of("src", "main", "java", "GroveMerge.java");

    private LanguageTest() {
    }

    public static void main(String[] args) throws IOException {
        String text = Files.readString(PROGRAM);
        String code = text.replaceAll("(?s)/\\*.*?\\*/", "").replaceAll("//[^\n]*", "");
        words(code);
        methods(code);
        exceptions(code);
        Check.same("classes", count(code, "\\b(class|interface|enum|record) \\w+") <= 12 ? 1 : 0, 1);
        Check.same("only plain signs", text.chars().allMatch(sign -> sign < 128) ? 1 : 0, 1);
        Check.end();
    }

    private static int count(String code, String pattern) {
        Matcher matcher = Pattern.compile(pattern).matcher(code);
        int found = 0;
        while (matcher.find()) {
            found++;
        }
        return found;
    }

    private static void words(String code) {
        String[] banned = {
            "->", "::", "\\bpackage\\b", "\\bfinally\\b", "\\btry\\b", "\\bsynchronized\\b", "\\bassert\\b", "\\bvar\\b",
            "\\bMath\\.\\w*Exact\\b", "\\bSystem\\.(?!arraycopy)", "\\bObject\\b", "\\.(equals|hashCode|toString)\\(",
            "\\bstatic (?!final|int|boolean|void)", "\\bstatic \\{", "\\bprotected\\b", "\\bwhile\\b", "\\bdo\\b", "\\[\\]\\[\\]\\["
        };
        for (String pattern : banned) {
            Check.same("no " + pattern, count(code, pattern), 0);
        }
        Matcher imports = Pattern.compile("import ([\\w.]+);").matcher(code);
        Set<String> names = new TreeSet<>();
        while (imports.find()) {
            names.add(imports.group(1));
        }
        Check.same("imports", names.toString(), "[java.util.Arrays, java.util.NoSuchElementException]");
    }

    private static void methods(String code) {
        Set<String> face = new TreeSet<>();
        Set<String> others = new TreeSet<>();
        int at = -1;
        int line = 0;
        String name = "";
        for (String row : code.split("\n")) {
            line++;
            Matcher head = Pattern.compile("^ +((?:\\w+ )*)(\\w+)\\(([^()]*)\\)(?: throws [\\w, ]+)? \\{$").matcher(row);
            if (head.matches() && !head.group(1).isEmpty() && !head.group(1).contains("else")) {
                at = line;
                name = head.group(2);
                (head.group(1).startsWith("public ") ? face : others).add(name);
                Check.same(name + " has at most seven parameters", count(head.group(3), ",") < 7 ? 1 : 0, 1);
            }
            if (at > 0 && line - at > 60) {
                Check.same(name + " is short", line - at, 60);
                at = -1;
            }
            if (row.matches(" {4,8}}")) {
                at = -1;
            }
        }
        Check.same("methods of the face", face.size(), 19);
        others.retainAll(face);
        Check.same("no other method has a name of the face", others.toString(), "[]");
    }

    private static void exceptions(String code) {
        String allowed = "(IllegalState|IllegalArgument|IndexOutOfBounds|UnsupportedOperation|NoSuchElement)Exception";
        int thrown = count(code, "\\bthrow\\b");
        Check.same("only the document's exceptions", count(code, "throw new " + allowed + "\\((\"[^\"]*\")?\\);"), thrown);
    }
}
