import java.io.IOException;
import java.lang.reflect.Constructor;
import java.lang.reflect.Field;
import java.lang.reflect.Method;
import java.lang.reflect.Modifier;
import java.nio.file.Files;
import java.nio.file.Path;
import java.util.ArrayList;
import java.util.List;
import java.util.Map;
import java.util.Set;
import java.util.TreeMap;
import java.util.TreeSet;
import java.util.regex.Matcher;
import java.util.regex.Pattern;

/** What of LANGUAGE.md a machine can see: the face, forbidden words, the library, sizes. Run from the project's root. */
public final class LanguageTest {
    private static final Path FILE = Path.of("src/main/java/EpochEngine.java");
    private static final Set<String> FACE = new TreeSet<>(List.of(
            "int feed(int,int,int,int,int)", "int end(int)", "int text(int,int)", "int fault(int)", "int store(int,int)",
            "int task(int,int,int)", "int deed(int,int,int)", "int stop(int,int,int)", "int state(int,int,int,int,int)",
            "int why(int,int,int,int,int)", "int serial(int,int,int,int)", "int fact(int,int,int)",
            "int fits(int,int,int,int,int)", "int drawn(int,int,int,int,int)", "int keys(int,int,int)", "int free(int,int)",
            "int alone(int,int,int,int)", "int swaps(int,int)", "int weave(int,int,int,int,int)", "int risk(int,int,int)",
            "int after(int,int,int,int)", "int count(int)", "boolean image(int)", "boolean again(int)"));
    private static int wrong = 0;

    private LanguageTest() {
    }

    public static void main(String[] args) throws IOException {
        String source = Files.readString(FILE);
        String code = source.replaceAll("(?s)/\\*.*?\\*/", "").replaceAll("//[^\n]*", "");
        face();
        words(code);
        library(code);
        sizes(code);
        depth(code);
        members();
        System.out.println("LanguageTest: " + wrong + " rules broken");
        if (wrong > 0) {
            System.exit(1);
        }
    }

    private static void refuse(boolean broken, String rule) {
        if (broken) {
            wrong++;
            System.out.println(rule);
        }
    }

    private static void face() {
        Set<String> seen = new TreeSet<>();
        Set<String> names = new TreeSet<>();
        for (Method m : EpochEngine.class.getDeclaredMethods()) {
            if (Modifier.isPublic(m.getModifiers())) {
                String args = m.toString().replaceAll(".*\\(", "(");
                seen.add(m.getReturnType() + " " + m.getName() + args);
                names.add(m.getName());
            }
        }
        refuse(!seen.equals(FACE), "rule 1: the face is " + seen);
        for (Method m : EpochEngine.class.getDeclaredMethods()) {
            boolean open = Modifier.isPublic(m.getModifiers());
            refuse(!open && !m.isSynthetic() && !Modifier.isPrivate(m.getModifiers()), "rule 1: visible " + m);
            refuse(!open && names.contains(m.getName()), "rule 1: a private method with a public name " + m);
        }
        Constructor<?>[] made = EpochEngine.class.getDeclaredConstructors();
        refuse(made.length != 1 || !Modifier.isPublic(made[0].getModifiers()), "rule 1: the constructor");
        for (Field f : EpochEngine.class.getDeclaredFields()) {
            boolean open = Modifier.isPublic(f.getModifiers());
            refuse(open ? !f.getName().equals("NONE") : !Modifier.isPrivate(f.getModifiers()), "rule 1: the field " + f);
        }
        refuse(!Modifier.isFinal(EpochEngine.class.getModifiers()), "rule 1: the class is final");
    }

    private static void words(String code) {
        for (String word : List.of("throw", "throws", "try", "catch", "synchronized", "assert", "new Thread", "->", "::", "Object ",
                "equals", "hashCode", "toString", "Exact", "System.out", "Random", "protected ", "native", "volatile", "package ")) {
            String pattern = Character.isLetter(word.charAt(0)) ? "\\b" + word.trim() + "\\b" : Pattern.quote(word);
            refuse(Pattern.compile(pattern).matcher(code).find(), "rule 2, 6 or 13: " + word);
        }
        refuse(Pattern.compile("\\[\\]\\s*\\[\\]\\s*\\[\\]").matcher(code).find(), "rule 3: three dimensions");
        refuse(code.chars().anyMatch(c -> c > 127), "rule 4: a sign beyond 127");
        refuse(Pattern.compile("\"\\s*\\+|\\+\\s*\"").matcher(code).find(), "rule 10: texts joined by +");
    }

    private static void library(String code) {
        Matcher m = Pattern.compile("\\b(Math|Integer|Long|System|Arrays|String|List|ArrayList)\\.(\\w+)").matcher(code);
        Set<String> fine = Set.of("Math.max", "Math.min", "Integer.bitCount", "System.arraycopy", "Arrays.fill");
        while (m.find()) {
            refuse(!fine.contains(m.group()), "rule 4: " + m.group());
        }
        Matcher imports = Pattern.compile("import ([\\w.]+);").matcher(code);
        while (imports.find()) {
            refuse(!imports.group(1).equals("java.util.Arrays"), "rule 4: import " + imports.group(1));
        }
    }

    private static void sizes(String code) {
        Matcher m = Pattern.compile("(?m)^( ++)[\\w\\[\\] ]+\\(([^()]*)\\) \\{$").matcher(code);
        while (m.find()) {
            String indent = m.group(1);
            String head = m.group().trim();
            if (head.startsWith("if") || head.startsWith("for") || head.startsWith("while") || head.startsWith("switch")) {
                continue;
            }
            int end = code.indexOf("\n" + indent + "}", m.end());
            long lines = code.substring(m.start(), end).lines().count();
            refuse(lines > 60, "rule 11: " + lines + " lines of " + head);
            refuse(m.group(2).split(",").length > 7, "rule 11: parameters of " + head);
        }
    }

    /** The longest way of calls, methods of one name taken as one, a method's calls of itself left out. */
    private static void depth(String code) {
        Map<String, Set<String>> calls = new TreeMap<>();
        Matcher m = Pattern.compile("(?m)^( ++)(?:[\\w\\[\\]]+ )*(\\w+)\\(([^()]*)\\) \\{$").matcher(code);
        while (m.find()) {
            if (!List.of("if", "for", "while", "switch").contains(m.group(2))) {
                String body = code.substring(m.end(), code.indexOf("\n" + m.group(1) + "}", m.end()));
                Set<String> called = calls.computeIfAbsent(m.group(2), name -> new TreeSet<>());
                Matcher c = Pattern.compile("\\b(\\w+)\\(").matcher(body);
                while (c.find()) {
                    called.add(c.group(1));
                }
            }
        }
        for (String name : calls.keySet()) {
            List<String> way = longest(name, calls, new ArrayList<>());
            refuse(way.size() > 8, "rule 11: calls too deep " + way);
        }
    }

    private static List<String> longest(String name, Map<String, Set<String>> calls, List<String> open) {
        List<String> best = new ArrayList<>();
        if (!calls.containsKey(name) || open.contains(name)) {
            return best;
        }
        open.add(name);
        for (String next : calls.get(name)) {
            List<String> way = longest(next, calls, open);
            best = way.size() > best.size() ? way : best;
        }
        open.remove(open.size() - 1);
        List<String> all = new ArrayList<>(List.of(name));
        all.addAll(best);
        return all;
    }

    private static void members() {
        List<Class<?>> all = new ArrayList<>(List.of(EpochEngine.class.getDeclaredClasses()));
        refuse(all.size() + 1 > 12, "rule 11: " + (all.size() + 1) + " classes");
        for (Class<?> c : all) {
            refuse(!Modifier.isStatic(c.getModifiers()), "rule 2: not static " + c);
            refuse(Modifier.isPublic(c.getModifiers()) || Modifier.isProtected(c.getModifiers()), "rule 1: visible " + c);
        }
        all.add(EpochEngine.class);
        for (Class<?> c : all) {
            int fields = 0;
            for (Field f : c.getDeclaredFields()) {
                if (Modifier.isStatic(f.getModifiers())) {
                    refuse(!Modifier.isFinal(f.getModifiers()), "rule 5: " + f);
                } else {
                    fields++;
                }
            }
            refuse(fields > 20, "rule 11: " + fields + " fields of " + c);
        }
    }
}
