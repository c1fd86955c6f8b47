import java.io.IOException;
import java.lang.reflect.Constructor;
import java.lang.reflect.Field;
import java.lang.reflect.Method;
import java.lang.reflect.Modifier;
import java.nio.file.Files;
import java.nio.file.Path;
import java.util.ArrayList;
import java.util.HashSet;
import java.util.List;
import java.util.Map;
import java.util.Set;
import java.util.TreeMap;
import java.util.TreeSet;

/** Those rules of LANGUAGE.md that can be looked up in the program's text and its compiled classes. */
public final class LanguageTest {
    private static final String[] FACE = {"make iiii", "step i", "makeLink iiib", "walk iib", "linked iii",
        "find iii", "write iiili", "read iii", "cut iii", "link iiii", "unlink iii", "rename iiiii", "about iii",
        "entry iii", "own iii", "rights iii", "attribute iiilb", "attributeOf iii", "key iii", "as i", "usage ii",
        "limit iii", "lock iiii", "locked ii", "open ii", "close i", "handle ii", "snapshot i", "clone i", "back ii",
        "destroy i", "hold ib", "quota ii", "held ib", "told ii", "differs iii", "send ii", "receive i", "commit ",
        "sync ", "crash i", "spoil iii", "lose i", "bring ib", "scrub b", "disk i", "feed iiiii", "end i", "run ",
        "out i", "line ", "oddities "};
    private static final String[] BARRED = {"throw", "try", "catch", "finally", "synchronized", "assert", "import",
        "package", "instanceof", "goto", "native", "volatile", "transient", "strictfp", "var", "System.out",
        "->", "::", "hashCode", "toString", "?>"};
    private static final Set<String> LIBRARY = Set.of("Math.min", "Math.max", "System.arraycopy");
    private static final Set<String> CALLED = Set.of("java.lang.Math.min(II)I", "java.lang.Math.max(II)I",
        "java.lang.System.arraycopy(Ljava/lang/Object;ILjava/lang/Object;II)V", "java.lang.String.length()I",
        "java.lang.String.charAt(I)C", "java.lang.Object.<init>()V",
        // This is how a switch on an enum is compiled.
        "PoolHouse$Call.ordinal()I");
    private static final int MOST_DEEP = 8;
    private static int wrong;

    public static void main(String[] args) throws IOException {
        String code = code(Files.readString(Path.of("src/main/java/PoolHouse.java")));
        words(code);
        depth(code);
        members();
        calls();
        System.out.println("LanguageTest: " + wrong + " rules broken");
        System.exit(wrong == 0 ? 0 : 1);
    }

    private static void holds(boolean good, String what) {
        if (!good) {
            wrong++;
            System.out.println("broken: " + what);
        }
    }

    /** The text without comments, and without what stands in quotes. */
    private static String code(String text) {
        String bare = text.replaceAll("(?s)/\\*.*?\\*/", " ").replaceAll("//[^\n]*", " ");
        return bare.replaceAll("\"[^\"\n]*\"", "\"\"").replaceAll("'(\\\\.|[^'])'", "' '");
    }

    private static void words(String code) {
        for (String word : BARRED) {
            boolean isName = word.matches("\\w+");
            String pattern = isName ? "(?s).*\\b" + word + "\\b.*" : "(?s).*" + java.util.regex.Pattern.quote(word) + ".*";
            holds(!code.matches(pattern), "no " + word);
        }
        holds(!code.contains("\"\" +") && !code.contains("+ \"\""), "no texts joined by +");
        holds(code.chars().allMatch(c -> c < 128), "signs 1 to 127");
        java.util.regex.Matcher library = java.util.regex.Pattern.compile(
            "\\b(Integer|Long|Short|Byte|Character|Boolean|Double|Float|Math|System|Arrays|List|String|Object)\\.\\w+")
            .matcher(code);
        while (library.find()) {
            holds(LIBRARY.contains(library.group()), "no " + library.group());
        }
    }

    /** No method has more than some sixty lines. */
    private static void depth(String code) {
        String[] lines = code.split("\n");
        int begun = -1;
        for (int i = 0; i < lines.length; i++) {
            if (lines[i].matches(" {4}(    )?[^ }].*\\) \\{")) {
                begun = i;
            }
            if (lines[i].matches(" {4}(    )?\\}") && begun >= 0) {
                holds(i - begun < 62, "a method of " + (i - begun) + " lines at line " + (begun + 1));
                begun = -1;
            }
        }
    }

    private static String sign(Method m) {
        StringBuilder s = new StringBuilder(m.getName() + " ");
        for (Class<?> p : m.getParameterTypes()) {
            s.append(p.getName().charAt(0));
        }
        return s.toString();
    }

    private static void members() {
        Set<String> due = new TreeSet<>(List.of(FACE));
        Set<String> names = new HashSet<>();
        Set<String> found = new TreeSet<>();
        for (String f : FACE) {
            names.add(f.split(" ")[0]);
        }
        for (Method m : PoolHouse.class.getDeclaredMethods()) {
            if (Modifier.isPublic(m.getModifiers())) {
                found.add(sign(m));
                boolean isLong = m.getName().equals("attributeOf");
                holds(m.getReturnType() == (isLong ? long.class : int.class), "answer of " + m.getName());
            } else {
                holds(Modifier.isPrivate(m.getModifiers()), m + " is private");
                holds(!names.contains(m.getName()), m + " has a public one's name");
            }
            holds(m.getParameterCount() <= 7, "parameters of " + m);
        }
        holds(due.equals(found), "the face is " + found);
        holds(Modifier.isFinal(PoolHouse.class.getModifiers()), "PoolHouse is final");
        List<Class<?>> all = new ArrayList<>(List.of(PoolHouse.class.getDeclaredClasses()));
        holds(all.size() <= 12, "classes: " + all.size());
        for (Class<?> c : all) {
            holds(Modifier.isStatic(c.getModifiers()) && Modifier.isFinal(c.getModifiers()), c + " static, final");
            holds(!Modifier.isPublic(c.getModifiers()) && !Modifier.isProtected(c.getModifiers()), c + " not public");
        }
        all.add(PoolHouse.class);
        for (Class<?> c : all) {
            fields(c);
        }
        for (Constructor<?> c : PoolHouse.class.getDeclaredConstructors()) {
            holds(Modifier.isPublic(c.getModifiers()) && c.getParameterCount() == 1, "the constructor " + c);
        }
    }

    /** What calls what: the library's own few, none that comes back to itself, none too deep, none that makes objects. */
    private static void calls() throws IOException {
        Map<String, Set<String>> calls = new TreeMap<>();
        List<Class<?>> all = new ArrayList<>(List.of(PoolHouse.class.getDeclaredClasses()));
        all.add(PoolHouse.class);
        for (Class<?> c : all) {
            if (c.isEnum()) {
                holds(c.getDeclaredMethods().length == 3, c + " has no methods but values(), valueOf() and its array");
                continue;
            }
            ClassFile file = new ClassFile(c);
            calls.putAll(file.calls);
            holds(file.throwers.isEmpty(), "thrown or caught in " + file.throwers);
            for (String maker : file.makers) {
                holds(maker.contains(".<init>("), "an object made in " + maker);
            }
        }
        for (Map.Entry<String, Set<String>> e : calls.entrySet()) {
            for (String called : e.getValue()) {
                boolean isValues = e.getKey().endsWith(".<clinit>()V") && called.contains(".values()");
                holds(calls.containsKey(called) || CALLED.contains(called) || isValues,
                    called + " in " + e.getKey());
            }
        }
        Map<String, Integer> depths = new TreeMap<>();
        for (String method : calls.keySet()) {
            int deep = deep(method, calls, depths);
            holds(deep <= MOST_DEEP, method + " goes " + deep + " deep");
        }
        holds(depths.size() > 100, "only " + depths.size() + " methods");
    }

    private static int deep(String method, Map<String, Set<String>> calls, Map<String, Integer> depths) {
        Integer known = depths.get(method);
        if (known != null) {
            holds(known > 0, method + " comes back to itself");
            return known;
        }
        depths.put(method, 0);
        int most = 0;
        for (String called : calls.get(method)) {
            if (calls.containsKey(called)) {
                most = Math.max(most, deep(called, calls, depths));
            }
        }
        depths.put(method, most + 1);
        return most + 1;
    }

    private static void fields(Class<?> c) {
        int count = 0;
        for (Field f : c.getDeclaredFields()) {
            boolean isStatic = Modifier.isStatic(f.getModifiers());
            holds(!isStatic || Modifier.isFinal(f.getModifiers()), f + " is final");
            holds(c != PoolHouse.class || Modifier.isPrivate(f.getModifiers()), f + " is private");
            count += isStatic ? 0 : 1;
        }
        holds(count <= 20, c + " has " + count + " fields");
    }
}
