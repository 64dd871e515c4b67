import java.nio.file.Files;
import java.nio.file.Path;
import java.util.Set;
import java.util.regex.Matcher;
import java.util.regex.Pattern;

/** What of LANGUAGE.md can be seen in the program's text without a parser. The argument: the program's file. */
final class LanguageTest {
    private static final Set<String> IMPORTS = Set.of("java.util.ArrayList", "java.util.List", "java.util.Arrays");
    private static final Set<String> LIBRARY = Set.of("Math.min", "Math.max", "Math.abs", "Math.floorDiv", "Math.floorMod",
        "Integer.compare", "Integer.min", "Integer.max", "Integer.bitCount", "Long.compare", "Long.min", "Long.max",
        "Long.bitCount", "System.arraycopy", "Arrays.copyOf", "Arrays.copyOfRange", "Arrays.fill", "List.of");
    private static final String[] FORBIDDEN = {"package", "synchronized", "assert", "finally", "volatile", "transient",
        "native", "strictfp", "var", "getMessage", "hashCode", "toString", "printStackTrace", "Object", "Exception",
        "Throwable", "Error", "NullPointerException", "ArrayIndexOutOfBoundsException", "ClassCastException",
        "NegativeArraySizeException", "ArrayStoreException", "yield", "sealed", "permits", "Thread", "Random", "protected"};
    private static final Set<String> THROWN = Set.of("IllegalStateException", "IllegalArgumentException",
        "IndexOutOfBoundsException", "ArithmeticException", "UnsupportedOperationException", "NoSuchElementException",
        "RuntimeException");
    private static final int LONGEST_METHOD = 60, MOST_PARAMETERS = 7, MOST_CLASSES = 12, MOST_FIELDS = 20;

    private static final Check CHECK = new Check();

    public static void main(String[] args) throws Exception {
        String whole = Files.readString(Path.of(args[0]));
        String code = whole.replaceAll("(?s)/\\*.*?\\*/", "").replaceAll("//[^\n]*", "").replaceAll("\"[^\"\n]*\"", "\"\"");
        for (int i = 0; i < whole.length(); i++) {
            if (whole.charAt(i) > 127) {
                CHECK.due("sign " + i + " of the text is of 1 to 127", whole.charAt(i), 127);
            }
        }
        for (String word : FORBIDDEN) {
            CHECK.due("the word " + word, Pattern.compile("\\b" + word + "\\b").matcher(code).find(), false);
        }
        CHECK.due("a lambda", code.contains("->"), false);
        CHECK.due("a method reference", code.contains("::"), false);
        CHECK.due("texts joined by +", Pattern.compile("\"\\s*\\+|\\+\\s*\"").matcher(code).find(), false);
        each(code, "import ([\\w.*]+);", IMPORTS);
        each(code, "\\b((?:Math|Integer|Long|System|Arrays|List|String|Character)\\.\\w+)\\(", LIBRARY);
        each(code, "throw new (\\w+)\\(", THROWN);
        each(code, "catch \\((?:final )?(\\w+)", THROWN);
        statics(code);
        methods(code);
        classes(code);
        CHECK.end();
    }

    private static void each(String code, String pattern, Set<String> fine) {
        Matcher found = Pattern.compile(pattern).matcher(code);
        while (found.find()) {
            CHECK.due(found.group() + " is of LANGUAGE.md", fine.contains(found.group(1)), true);
        }
    }

    private static void statics(String code) {
        Matcher found = Pattern.compile("\\bstatic (?!final\\b)[^(){};=]*[=;]").matcher(code);
        CHECK.due("a static field that is not final", found.find(), false);
        CHECK.due("a static initialiser", Pattern.compile("\\bstatic\\s*\\{").matcher(code).find(), false);
    }

    private static void methods(String code) {
        Matcher head = Pattern.compile("\\n( {4}| {8})(?! )[\\w<>\\[\\], ]+\\(([^()]*)\\)[\\w\\s,]*\\{\\n").matcher(code);
        int count = 0;
        while (head.find()) {
            int end = code.indexOf("\n" + head.group(1) + "}", head.end() - 1);
            long lines = code.substring(head.end(), end).chars().filter(c -> c == '\n').count();
            String name = head.group().strip().split("\\(")[0];
            CHECK.due(name + " is short", lines <= LONGEST_METHOD, true);
            CHECK.due(name + " takes few", head.group(2).split(",").length <= MOST_PARAMETERS, true);
            count++;
        }
        CHECK.due("the methods were seen", count >= 24, true);
    }

    private static void classes(String code) {
        String[] parts = code.split("\\b(?:class|record|enum|interface) (?=[A-Z])");
        CHECK.due("few classes", parts.length - 1 <= MOST_CLASSES, true);
        Pattern field = Pattern.compile("\\n(?: {4}| {8})(?! )(?!.*\\bstatic\\b)(?!.*\\breturn\\b)[\\w<>\\[\\] ]+? (\\w+(?:, \\w+)*);");
        for (int i = 1; i < parts.length; i++) {
            int fields = 0;
            Matcher found = field.matcher(parts[i]);
            while (found.find()) {
                fields += found.group(1).split(",").length;
            }
            CHECK.due(parts[i].split("\\W")[0] + " has few fields, " + fields, fields <= MOST_FIELDS, true);
        }
    }
}
