import java.lang.reflect.Constructor;
import java.lang.reflect.Field;
import java.lang.reflect.Method;
import java.lang.reflect.Modifier;
import java.nio.file.Files;
import java.nio.file.Path;
import java.util.ArrayList;
import java.util.List;
import java.util.Set;
import java.util.TreeSet;
import java.util.regex.Matcher;
import java.util.regex.Pattern;

/** The public face, and the rules of LANGUAGE.md that can be seen from the source or the class. */
public final class LanguageTest {
    private static final Checks CHECKS = new Checks();
    private static final String[] FACE = {
        "write(int,long)", "wipe()", "fault()", "lay()", "guest(int,int)", "shame(int,int)", "presses(int,int)", "is(int,int)",
        "when(int,int)", "wasted(int)", "frees(int,int)", "madeUp(int,int)", "bell(int)", "best(int)", "given(int)", "cost(int,int)",
        "rests(int)", "price()", "meant(int,int)", "since(int,int,int)", "leave(int,int,int)", "drawn(int,int)", "sign(int,int)",
        "say(int)", "takeBack()", "keep()", "back()", "count(int)"
    };

    public static void main(String[] args) throws Exception {
        face();
        for (Class<?> inside : NobodyFirst.class.getDeclaredClasses()) {
            inside(inside);
        }
        fields(NobodyFirst.class);
        yes("at most some twelve classes", NobodyFirst.class.getDeclaredClasses().length <= 12);
        source(Files.readString(Path.of(args.length > 0 ? args[0] : "src/main/java/NobodyFirst.java")));
        CHECKS.end();
    }

    private static void yes(String what, boolean so) {
        CHECKS.due(what, so ? 1 : 0, 1);
    }

    private static String told(Method m) {
        List<String> types = new ArrayList<>();
        for (Class<?> type : m.getParameterTypes()) types.add(type.getName());
        return m.getName() + "(" + String.join(",", types) + ")";
    }

    private static void face() throws Exception {
        Class<?> c = NobodyFirst.class;
        yes("public and final", Modifier.isPublic(c.getModifiers()) && Modifier.isFinal(c.getModifiers()));
        Set<String> found = new TreeSet<>();
        Set<String> names = new TreeSet<>();
        for (Method m : c.getDeclaredMethods()) {
            if (Modifier.isPublic(m.getModifiers())) {
                found.add(told(m));
                names.add(m.getName());
                yes(told(m) + " answers an int", m.getReturnType() == int.class && !Modifier.isStatic(m.getModifiers()));
            } else {
                yes(told(m) + " is private", Modifier.isPrivate(m.getModifiers()));
            }
        }
        yes("the face is " + found, found.equals(new TreeSet<>(List.of(FACE))));
        for (Method m : c.getDeclaredMethods()) {
            yes(m + " has a name of its own", Modifier.isPublic(m.getModifiers()) || !names.contains(m.getName()));
        }
        for (Class<?> inside : c.getDeclaredClasses()) {
            for (Method m : inside.getDeclaredMethods()) yes(m + " has a name of its own", !names.contains(m.getName()));
        }
        Constructor<?>[] made = c.getDeclaredConstructors();
        yes("one public constructor", made.length == 1 && Modifier.isPublic(made[0].getModifiers())
            && made[0].getParameterCount() == 0);
        Set<String> constants = new TreeSet<>();
        for (Field f : c.getDeclaredFields()) {
            if (Modifier.isPublic(f.getModifiers())) constants.add(f.getName() + f.getInt(null));
            else yes(f + " is private", Modifier.isPrivate(f.getModifiers()));
        }
        yes("constants " + constants, constants.equals(new TreeSet<>(List.of("BAD-1", "NO-2", "FULL-3", "NONE-4"))));
    }

    private static void inside(Class<?> c) {
        yes(c + " is static", Modifier.isStatic(c.getModifiers()));
        yes(c + " is not public", !Modifier.isPublic(c.getModifiers()) && !Modifier.isProtected(c.getModifiers()));
        yes(c + " has no class inside", c.getDeclaredClasses().length == 0);
        for (Method m : c.getDeclaredMethods()) yes(m + " has seven parameters at most", m.getParameterCount() <= 7);
        fields(c);
    }

    private static void fields(Class<?> c) {
        int own = 0;
        for (Field f : c.getDeclaredFields()) {
            if (!Modifier.isStatic(f.getModifiers())) own++;
            else yes(f + " is final", Modifier.isFinal(f.getModifiers()));
        }
        yes(c + " has some twenty fields at most: " + own, own <= 20);
    }

    private static String withoutComments(String source) {
        return source.replaceAll("(?s)/\\*.*?\\*/", "").replaceAll("//[^\n]*", "").replaceAll("\"[^\"\n]*\"", "\"\"");
    }

    private static void source(String whole) {
        for (int k = 0; k < whole.length(); k++) {
            if (whole.charAt(k) > 126) yes("a plain sign at " + k, false);
        }
        String code = withoutComments(whole);
        String[] never = {
            "throw", "throws", "try", "catch", "synchronized", "assert", "package", "finally", "goto", "native", "volatile",
            "hashCode", "toString", "System\\.(?!arraycopy)\\w+", "Thread", "Random", "Object", "Exact", "getClass", "var"
        };
        for (String word : never) yes("no " + word, !Pattern.compile("\\b" + word + "\\b").matcher(code).find());
        yes("no Exact function", !Pattern.compile("\\w+Exact\\b").matcher(code).find());
        yes("no lambda", !code.contains("->"));
        yes("no method reference", !code.contains("::"));
        Matcher imports = Pattern.compile("import ([\\w.]+);").matcher(code);
        while (imports.find()) yes("import " + imports.group(1), List.of("java.util.Arrays").contains(imports.group(1)));
        Matcher arrays = Pattern.compile("\\bArrays\\.(\\w+)").matcher(code);
        while (arrays.find()) yes(arrays.group(), List.of("fill", "copyOf", "copyOfRange").contains(arrays.group(1)));
        Matcher maths = Pattern.compile("\\bMath\\.(\\w+)").matcher(code);
        while (maths.find()) {
            yes(maths.group(), List.of("max", "min", "abs", "floorMod", "floorDiv").contains(maths.group(1)));
        }
        shortMethods(whole);
    }

    /** A method's lines stand between a head that ends in an opening brace and the brace in its column. */
    private static void shortMethods(String whole) {
        String[] lines = whole.split("\n");
        int methods = 0;
        Pattern head = Pattern.compile("^( +)(?! |if|for|while|switch|else|do)[\\w\\[\\] ]+\\([^;]*\\) \\{$");
        for (int k = 0; k < lines.length; k++) {
            Matcher m = head.matcher(lines[k]);
            if (!m.find()) continue;
            int end = k;
            while (end < lines.length && !lines[end].equals(m.group(1) + "}")) end++;
            methods++;
            yes("sixty lines at most: " + lines[k].trim(), end - k <= 60);
        }
        yes("methods were found", methods > 60);
    }
}
