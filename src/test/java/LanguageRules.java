import java.lang.reflect.Constructor;
import java.lang.reflect.Field;
import java.lang.reflect.Method;
import java.lang.reflect.Modifier;
import java.nio.file.Files;
import java.nio.file.Path;
import java.util.ArrayList;
import java.util.Arrays;
import java.util.List;
import java.util.Set;
import java.util.TreeSet;
import java.util.regex.Matcher;
import java.util.regex.Pattern;

/** Those rules of LANGUAGE.md that can be looked up in the source or in the compiled class. */
public final class LanguageRules {
    private static final String FACE = "NONE feed end sale rule force bidder lot worth trick minute sit bell play fire undo ahead ends "
        + "hold rests seats tricks ring breath log ruled look seed coughs count image back";
    private static int wrong = 0;

    private static void fail(String what) {
        wrong++;
        System.out.println("LanguageRules: " + what);
    }

    private static String bare(String source) {
        return source.replaceAll("(?s)/\\*.*?\\*/", " ").replaceAll("//[^\n]*", " ").replaceAll("\"[^\"\n]*\"", "\"\"").replaceAll("'[^'\n]+'", "' '");
    }

    private static void words(String code) {
        String[] banned = {"throw", "throws", "try", "catch", "synchronized", "assert", "import", "package", "volatile", "native", "Thread",
            "System\\.(?!arraycopy)", "Math\\.\\w*Exact", "::", "->", "\\bvar\\b", "equals\\(", "hashCode", "toString", "\\w+\\.values\\("};
        for (String b : banned) {
            Matcher m = Pattern.compile(b.matches("\\w+") ? "\\b" + b + "\\b" : b).matcher(code);
            if (m.find()) fail("has " + m.group());
        }
        Matcher library = Pattern.compile("\\b(Integer|Long|Math|System|Arrays)\\.(\\w+)").matcher(code);
        Set<String> known = Set.of("Integer.bitCount", "Math.max", "Math.min", "Math.floorDiv", "System.arraycopy");
        while (library.find()) if (!known.contains(library.group())) fail("uses " + library.group());
        if (Pattern.compile("\\bstatic\\s*\\{").matcher(code).find()) fail("has a static initialiser");
        if (Pattern.compile("\\bwhile\\s*\\(true\\)|for\\s*\\(;;").matcher(code).find()) fail("has a loop without an end");
        for (char c : code.toCharArray()) if (c > 126) fail("has the sign " + (int) c);
    }

    private static void face(Class<?> type) {
        Set<String> face = new TreeSet<>(Arrays.asList(FACE.split(" ")));
        Set<String> seen = new TreeSet<>();
        for (Method m : type.getDeclaredMethods()) {
            if (m.isSynthetic()) continue;
            if (Modifier.isPublic(m.getModifiers())) seen.add(m.getName());
            else if (!Modifier.isPrivate(m.getModifiers())) fail("member " + m.getName());
            if (Modifier.isPrivate(m.getModifiers()) && face.contains(m.getName())) fail("private method " + m.getName());
            if (m.getParameterCount() > 7) fail("too many parameters: " + m.getName());
        }
        for (Field f : type.getDeclaredFields()) {
            if (Modifier.isPublic(f.getModifiers())) seen.add(f.getName());
            else if (!Modifier.isPrivate(f.getModifiers())) fail("member " + f.getName());
        }
        if (!seen.equals(face)) fail("the face is " + seen);
        for (Constructor<?> c : type.getDeclaredConstructors()) if (!Modifier.isPublic(c.getModifiers()) || c.getParameterCount() != 0) fail("constructor " + c);
        if (!Modifier.isFinal(type.getModifiers())) fail("is not final");
    }

    private static void fields(Class<?> type) {
        int fields = 0;
        for (Field f : type.getDeclaredFields()) {
            boolean isStatic = Modifier.isStatic(f.getModifiers());
            fields += isStatic ? 0 : 1;
            if (isStatic && !Modifier.isFinal(f.getModifiers())) fail("static state: " + f);
        }
        if (fields > 20) fail("too many fields: " + type);
    }

    private static void inside(Class<?> type) {
        if (!Modifier.isStatic(type.getModifiers())) fail("not static: " + type);
        fields(type);
        for (Method m : type.getDeclaredMethods()) {
            if (m.getParameterCount() > 7) fail("too many parameters: " + m);
            if (Arrays.asList(FACE.split(" ")).contains(m.getName())) fail("a method of the face's name: " + m);
        }
    }

    private static void lengths(List<String> lines) {
        Pattern head = Pattern.compile("^( {4}| {8})(public|private|static|final|int|long|boolean|void)\\b[^=;]*\\)\\s*\\{$");
        for (int k = 0; k < lines.size(); k++) {
            Matcher m = head.matcher(lines.get(k));
            if (!m.find()) continue;
            int to = k + 1;
            while (!lines.get(to).equals(m.group(1) + "}")) to++;
            if (to - k + 1 > 60) fail("long method at line " + (k + 1));
        }
        for (int k = 0; k < lines.size(); k++) if (lines.get(k).length() > 120) fail("long line " + (k + 1));
    }

    /** The longest chain of calls of own methods by their names, the face's methods being the first; there is no recursion. */
    private static void depth(String code) {
        Matcher m = Pattern.compile("(?m)^( {4}| {8})(?:(?:public|private|static|final)\\s+)*(?:int|long|boolean|void)\\s+(\\w+)\\([^)]*\\)\\s*\\{").matcher(code);
        java.util.Map<String, Set<String>> calls = new java.util.TreeMap<>();
        List<String[]> bodies = new ArrayList<>();
        while (m.find()) {
            int to = code.indexOf("\n" + m.group(1) + "}", m.end());
            bodies.add(new String[] {m.group(2), code.substring(m.end(), to)});
            calls.put(m.group(2), new TreeSet<>());
        }
        for (String[] body : bodies) {
            Matcher c = Pattern.compile("(?<!new )\\b(\\w+)\\(").matcher(body[1]);
            while (c.find()) if (calls.containsKey(c.group(1))) calls.get(body[0]).add(c.group(1));
        }
        for (String name : FACE.split(" ")) {
            if (!calls.containsKey(name)) continue;
            List<String> chain = longest(name, calls, new ArrayList<>());
            if (chain.size() > 8) fail("calls too deep: " + chain);
        }
    }

    private static List<String> longest(String name, java.util.Map<String, Set<String>> calls, List<String> open) {
        if (open.contains(name)) {
            fail("recursion: " + open + " " + name);
            return List.of();
        }
        open.add(name);
        List<String> best = List.of();
        for (String next : calls.get(name)) {
            List<String> found = longest(next, calls, open);
            if (found.size() > best.size()) best = found;
        }
        open.remove(open.size() - 1);
        List<String> all = new ArrayList<>(List.of(name));
        all.addAll(best);
        return all;
    }

    public static void main(String[] args) throws Exception {
        Path path = Path.of("src/main/java/SilentSale.java");
        String code = bare(Files.readString(path));
        words(code);
        face(SilentSale.class);
        fields(SilentSale.class);
        for (Class<?> type : SilentSale.class.getDeclaredClasses()) inside(type);
        if (SilentSale.class.getDeclaredClasses().length > 11) fail("too many classes");
        lengths(Files.readAllLines(path));
        depth(code);
        System.out.println("LanguageRules: " + (wrong == 0 ? "kept" : wrong + " broken"));
        if (wrong != 0) System.exit(1);
    }
}
