import java.io.IOException;
import java.nio.file.Files;
import java.nio.file.Path;
import java.util.ArrayList;
import java.util.List;
import java.util.Map;
import java.util.Set;
import java.util.TreeMap;
import java.util.TreeSet;
import java.util.regex.Matcher;
import java.util.regex.Pattern;

// Rules of LANGUAGE.md that can be seen in the text of the class, by the number of the rule.
// It reads the text as this project lays it out: a method's head and its end stand at one indent.
public final class LanguageTest {
    private static final Path SOURCE = Path.of("src/main/java/BallotHouse.java");
    private static final String[] WORDS_LEFT_OUT = {
        "throw", "throws", "try", "catch", "synchronized", "assert", "import", "package", "volatile", "native",
        "equals", "hashCode", "toString", "Object", "Thread", "Random", "Scanner", "protected"};
    private static final String[] SIGNS_LEFT_OUT = {"->", "::", "Exact", "[][][]", "while (true)", "for (;;)", "\""};
    // What the class needs of all that rule 4 allows; who needs more of it adds it here.
    private static final Set<String> LIBRARY = Set.of("Math.max", "Math.min", "Integer.bitCount", "System.arraycopy");
    private static final Pattern METHOD = Pattern.compile(
        "^( +)((?:public |private |static |final )*)([\\w\\[\\]]+ )?(\\w+)\\(([^()]*)\\) \\{$");
    private static final Pattern FIELD = Pattern.compile("^ +(?:private |public |final )*[\\w\\[\\]]+ \\w+( = [^;]*)?;$");

    private static final class Part {
        String name;
        String head;
        int parameters;
        List<String> body = new ArrayList<>();
    }

    private static int wrong = 0;

    private static void check(boolean holds, String what) {
        if (!holds) {
            wrong++;
            System.out.println("not so: " + what);
        }
    }

    public static void main(String[] args) throws IOException {
        String text = Files.readString(SOURCE);
        String code = text.replaceAll("(?s)/\\*.*?\\*/", " ").replaceAll("//[^\n]*", "").replaceAll("(?m) +$", "");
        check(text.chars().allMatch(sign -> sign < 128), "4: plain signs alone");
        leftOut(code);
        library(code);
        classes(code);
        List<Part> parts = methods(code);
        sizes(parts);
        depths(parts);
        System.out.println(wrong == 0 ? "the rules that can be seen hold" : wrong + " things are not as due");
        if (wrong != 0) {
            System.exit(1);
        }
    }

    private static void leftOut(String code) {
        for (String word : WORDS_LEFT_OUT) {
            check(!Pattern.compile("\\b" + word + "\\b").matcher(code).find(), "4, 6, 13: the code has no " + word);
        }
        for (String sign : SIGNS_LEFT_OUT) {
            check(!code.contains(sign), "2, 3, 6, 9: the code has no " + sign);
        }
        check(!Pattern.compile("\\bstatic\\s*\\{").matcher(code).find(), "5: no static initialiser");
        for (String line : code.split("\n")) {
            boolean isStaticField = line.contains("static ") && line.endsWith(";");
            check(!isStaticField || line.contains("static final "), "5: a static field is final: " + line.trim());
        }
    }

    private static Set<String> ownClasses(String code) {
        Set<String> own = new TreeSet<>();
        Matcher m = Pattern.compile("\\b(?:class|enum|record|interface) (\\w+)").matcher(code);
        while (m.find()) {
            own.add(m.group(1));
        }
        return own;
    }

    private static void library(String code) {
        Set<String> own = ownClasses(code);
        Matcher call = Pattern.compile("\\b([A-Z][a-z]\\w*)\\.(\\w+)").matcher(code);
        while (call.find()) {
            boolean isOwn = own.contains(call.group(1));
            check(isOwn || LIBRARY.contains(call.group()), "4: the library has what is used: " + call.group());
        }
        Matcher made = Pattern.compile("\\bnew (\\w+)").matcher(code);
        while (made.find()) {
            boolean isNumber = made.group(1).equals("int") || made.group(1).equals("long");
            check(isNumber || own.contains(made.group(1)), "3: of an own class or of numbers: " + made.group());
        }
    }

    private static void classes(String code) {
        check(ownClasses(code).size() <= 12, "11: at most twelve classes");
        Map<String, Integer> fields = new TreeMap<>();
        String current = "";
        for (String line : code.split("\n")) {
            Matcher m = Pattern.compile("\\b(?:class|enum|record|interface) (\\w+)").matcher(line);
            if (m.find()) {
                current = m.group(1);
                boolean isOuter = current.equals("BallotHouse");
                check(isOuter || line.contains(" static "), "2: static: " + current);
            }
            int depth = current.equals("BallotHouse") ? 4 : 8;
            boolean isMember = line.length() > depth && line.substring(0, depth).isBlank() && line.charAt(depth) != ' ';
            if (isMember && !line.contains("static ") && FIELD.matcher(line).matches()) {
                fields.merge(current, 1, Integer::sum);
            }
        }
        check(fields.getOrDefault("BallotHouse", 0) > 0, "the fields are found");
        fields.forEach((name, many) -> check(many <= 20, "11: at most twenty fields: " + name + " has " + many));
    }

    private static List<Part> methods(String code) {
        List<Part> all = new ArrayList<>();
        Part open = null;
        String end = "";
        for (String line : code.split("\n")) {
            Matcher m = METHOD.matcher(line);
            if (open != null && line.equals(end)) {
                all.add(open);
                open = null;
            } else if (open != null) {
                open.body.add(line);
            } else if (m.matches()) {
                open = new Part();
                open.name = m.group(4);
                open.head = line.trim();
                open.parameters = m.group(5).isBlank() ? 0 : m.group(5).split(",").length;
                end = m.group(1) + "}";
            }
        }
        check(open == null && all.size() > 21, "the methods are found: " + all.size());
        return all;
    }

    private static void sizes(List<Part> parts) {
        for (Part p : parts) {
            check(p.parameters <= 7, "11: at most seven parameters: " + p.head);
            check(p.body.size() <= 60, "11: some sixty lines: " + p.head);
        }
    }

    // Methods of one name are taken as one, which can only make the way look deeper than it is.
    private static void depths(List<Part> parts) {
        Map<String, Set<String>> calls = new TreeMap<>();
        for (Part p : parts) {
            calls.computeIfAbsent(p.name, n -> new TreeSet<>());
        }
        for (Part p : parts) {
            Matcher m = Pattern.compile("\\b(\\w+)\\(").matcher(String.join("\n", p.body));
            while (m.find()) {
                if (calls.containsKey(m.group(1))) {
                    calls.get(p.name).add(m.group(1));
                }
            }
        }
        for (String name : calls.keySet()) {
            List<String> way = deepest(name, calls, new ArrayList<>());
            check(way != null, "8: no method comes back to itself: " + name);
            check(way == null || way.size() <= 8, "11: at most eight deep: " + way);
        }
    }

    private static List<String> deepest(String name, Map<String, Set<String>> calls, List<String> above) {
        if (above.contains(name)) {
            return null;
        }
        List<String> here = new ArrayList<>(above);
        here.add(name);
        List<String> best = here;
        for (String called : calls.get(name)) {
            List<String> way = deepest(called, calls, here);
            if (way == null) {
                return null;
            }
            best = way.size() > best.size() ? way : best;
        }
        return best;
    }
}
