import java.nio.file.Files;
import java.nio.file.Path;
import java.util.ArrayList;
import java.util.HashSet;
import java.util.List;
import java.util.Set;
import java.util.regex.Matcher;
import java.util.regex.Pattern;

/** Rules of LANGUAGE.md that can be read off the source, and that the face is the document's. */
public final class LanguageTest {
    private static final List<String> FACE = List.of(
        "boolean paper(int,int)", "int fund(int)", "int holder(int)", "boolean holiday(int)", "boolean open(int)",
        "int tell(int,int,int,int)", "int known(int,int,int,int)", "boolean stale(int,int,int,int)",
        "int trade(int,int,int,int,int)", "int deal(int,int,int,int)", "int feed(int,int,int,int,int)", "boolean end(int)",
        "int fault()", "int take()", "int rule(int,int,int)", "int go(int)", "int booked(int,int)", "int right(int,int,int)",
        "int fee(int,int,int)", "int error(int,int,int)", "int errors(int)", "int units(int,int)", "int claim(int,int,int,int)",
        "int house(int,int)", "int cash(int,int)", "int dealt(int,int)", "boolean gone(int)", "boolean found(int)", "int due(int)",
        "int audit(int,int,int)", "int suspect(int,int,int,int)", "int forget()", "int explain()", "int rivals()",
        "int alarm(int,int)", "int beside(int,int)", "int balance(int,int)", "int payments(int)", "int payment(int,int,int)",
        "int count(int)");

    private static int wrong = 0;

    private static void want(boolean good, String what) {
        if (!good) {
            wrong++;
            System.out.println(what);
        }
    }

    public static void main(String[] args) throws Exception {
        String source = Files.readString(Path.of("src/main/java/UnitsWrong.java"));
        String code = source.replaceAll("(?s)/\\*.*?\\*/", "").replaceAll("//[^\n]*", "");
        String bare = code.replaceAll("\"[^\"\n]*\"", "\"\"");
        face();
        words(bare);
        library(bare);
        methods(bare);
        want(source.chars().allMatch(c -> c == '\n' || c >= 32 && c < 127), "a sign beyond 127, or a tab");
        if (wrong != 0) System.exit(1);
        System.out.println("the source keeps the rules that are looked at");
    }

    private static void face() {
        Set<String> found = new HashSet<>();
        Set<String> names = new HashSet<>();
        for (var m : UnitsWrong.class.getDeclaredMethods()) {
            boolean isPublic = java.lang.reflect.Modifier.isPublic(m.getModifiers());
            want(isPublic || java.lang.reflect.Modifier.isPrivate(m.getModifiers()), "neither public nor private: " + m);
            List<String> types = new ArrayList<>();
            for (var p : m.getParameterTypes()) types.add(p.getName());
            if (isPublic) {
                found.add(m.getReturnType().getName() + " " + m.getName() + "(" + String.join(",", types) + ")");
                names.add(m.getName());
            }
        }
        want(found.equals(new HashSet<>(FACE)), "the face is another: " + found);
        List<Class<?>> classes = new ArrayList<>(List.of(UnitsWrong.class.getDeclaredClasses()));
        want(classes.size() <= 11, "more than twelve classes");
        classes.add(UnitsWrong.class);
        for (Class<?> c : classes) {
            int fields = 0;
            for (var f : c.getDeclaredFields()) {
                int mod = f.getModifiers();
                if (!java.lang.reflect.Modifier.isStatic(mod)) fields++;
                else want(java.lang.reflect.Modifier.isFinal(mod), "static and not final: " + f);
                boolean hidden = java.lang.reflect.Modifier.isPrivate(mod) || f.getName().equals("NONE");
                want(hidden || c != UnitsWrong.class, "a field that can be seen: " + f);
            }
            want(fields <= 20, "more than twenty fields: " + c);
            for (var m : c.getDeclaredMethods()) {
                want(c == UnitsWrong.class && java.lang.reflect.Modifier.isPublic(m.getModifiers()) || !names.contains(m.getName()),
                    "bears the name of a public one: " + m);
                want(m.getParameterCount() <= 7, "more than seven parameters: " + m);
            }
        }
    }

    private static void words(String bare) {
        for (String word : List.of("throw", "throws", "try", "catch", "finally", "synchronized", "assert", "instanceof", "record",
            "protected", "var", "yield", "sealed", "native", "volatile", "transient", "double", "float", "package")) {
            want(!Pattern.compile("\\b" + word + "\\b").matcher(bare).find(), "the word " + word);
        }
        want(!bare.contains("->"), "a lambda or an arrow");
        want(!bare.contains("::"), "a method reference");
        want(!Pattern.compile("\"\"\\s*\\+|\\+\\s*\"\"").matcher(bare).find(), "texts joined by +");
        want(!Pattern.compile("while\\s*\\(\\s*true|for\\s*\\(\\s*;\\s*;").matcher(bare).find(), "a loop without an end");
    }

    private static void library(String bare) {
        Matcher imports = Pattern.compile("import\\s+([\\w.]+)\\s*;").matcher(bare);
        while (imports.find()) want(imports.group(1).equals("java.util.Arrays"), "import of " + imports.group(1));
        Set<String> allowed = Set.of("Arrays.fill", "System.arraycopy", "Math.min", "Math.max", "Math.abs", "Integer.bitCount");
        Matcher calls = Pattern.compile("\\b(Arrays|System|Math|Integer|Long|String|Character|Thread|Objects)\\.(\\w+)").matcher(bare);
        while (calls.find()) want(allowed.contains(calls.group()), "call of " + calls.group());
        Matcher made = Pattern.compile("\\bnew\\s+\\w+").matcher(bare);
        Set<String> own = Set.of("new int", "new long", "new boolean", "new State", "new Text", "new Course", "new Claims", "new Settlement",
            "new Audits", "new ByDay", "new Tellings", "new Trades", "new Deals", "new Laws");
        while (made.find()) want(own.contains(made.group()), "made: " + made.group());
    }

    /** Methods are the blocks of depth 1 and 2 that have parentheses ahead of them. */
    private static void methods(String bare) {
        String[] lines = bare.split("\n");
        for (int i = 0; i < lines.length; i++) {
            boolean head = lines[i].matches("    (    )?\\w[^=;]*\\)\\s*\\{") && !lines[i].trim().matches("(if|for|while|switch|else).*");
            if (!head) continue;
            String indent = lines[i].substring(0, lines[i].length() - lines[i].stripLeading().length());
            int end = i;
            while (!lines[end].equals(indent + "}")) end++;
            want(end - i < 60, "a long method: " + lines[i]);
        }
    }
}
