import java.lang.reflect.Constructor;
import java.lang.reflect.Field;
import java.lang.reflect.Method;
import java.lang.reflect.Modifier;
import java.nio.file.Files;
import java.nio.file.Path;
import java.util.ArrayList;
import java.util.List;
import java.util.TreeSet;
import java.util.regex.Matcher;
import java.util.regex.Pattern;

/** The public face, member by member, and what of shared/LANGUAGE.md can be seen from the file's words. */
public final class FaceTests {
    private static final String[] FACE = {
        "int letter(int)", "int close()", "int saying(int,int)", "int nest(int,int)", "int takes(int)", "int wears(int,int)",
        "int concerns(int,int)", "int boy(int)", "int turn(int,int,int)", "int days(int)", "int nestThen(int,int,int)",
        "int robbedThen(int)", "int falls(int)", "int first(int)", "int cushion(int)", "int more(int)", "int softest(int,int)",
        "int prop(int)", "int lighten(int)", "int about(int,int)", "int known()", "int lodge()", "int fullest()", "int talk()",
        "int keep(int)", "int hush(int)", "int add(int,int,int)", "int two(int,int,int)", "long rain(int,int,int,int)",
        "long mean(int)", "int whatWas(int,int)", "int row(int)", "int judge()", "int clear()", "int lots(int,int,int)",
        "int image()", "int on()", "int count(int)"};

    private static int wrong = 0;

    private static void must(boolean so, String what) {
        if (so) return;
        wrong++;
        System.out.println("face: " + what);
    }

    private static String signature(Method m) {
        StringBuilder b = new StringBuilder();
        for (Class<?> p : m.getParameterTypes()) b.append(b.length() > 0 ? "," : "").append(p.getSimpleName());
        return m.getReturnType().getSimpleName() + " " + m.getName() + "(" + b + ")";
    }

    private static void face() {
        Class<?> c = NestsOfTalk.class;
        must(Modifier.isPublic(c.getModifiers()) && Modifier.isFinal(c.getModifiers()), "the class is not public and final");
        TreeSet<String> due = new TreeSet<>(List.of(FACE));
        TreeSet<String> names = new TreeSet<>();
        for (String s : FACE) names.add(s.substring(s.indexOf(' ') + 1, s.indexOf('(')));
        TreeSet<String> open = new TreeSet<>();
        for (Method m : c.getDeclaredMethods()) {
            if (m.isSynthetic()) continue;
            if (Modifier.isPrivate(m.getModifiers())) must(!names.contains(m.getName()), "private " + m.getName() + " bears a public name");
            else open.add(signature(m));
            if (!Modifier.isPrivate(m.getModifiers())) must(Modifier.isPublic(m.getModifiers()), m.getName() + " is not public");
        }
        must(open.equals(due), "the methods are " + open);
        for (Field f : c.getDeclaredFields()) {
            if (!f.isSynthetic()) must(Modifier.isPrivate(f.getModifiers()), "field " + f.getName() + " is not private");
        }
        Constructor<?>[] made = c.getDeclaredConstructors();
        must(made.length == 1 && made[0].getParameterCount() == 0 && Modifier.isPublic(made[0].getModifiers()), "not the one constructor");
        for (Class<?> inner : c.getDeclaredClasses()) inner(inner, names);
    }

    private static void inner(Class<?> inner, TreeSet<String> names) {
        int modifiers = inner.getModifiers();
        must(Modifier.isStatic(modifiers), inner.getSimpleName() + " is not static");
        must(!Modifier.isPublic(modifiers) && !Modifier.isProtected(modifiers), inner.getSimpleName() + " is open");
        for (Method m : inner.getDeclaredMethods()) must(!names.contains(m.getName()), inner.getSimpleName() + " has a " + m.getName());
        for (Field f : inner.getDeclaredFields()) {
            if (Modifier.isStatic(f.getModifiers())) must(Modifier.isFinal(f.getModifiers()), "static " + f.getName() + " is not final");
        }
    }

    private static void words() throws Exception {
        String source = Files.readString(Path.of("src/main/java/NestsOfTalk.java"));
        for (char c : source.toCharArray()) must(c == '\n' || c >= ' ' && c < 127, "a sign " + (int) c);
        String bare = source.replaceAll("(?s)/\\*.*?\\*/", "").replaceAll("//[^\n]*", "").replaceAll("'[^']*'", "0");
        String[] forbidden = {"throw", "throws", "try", "catch", "synchronized", "assert", "import", "package", "protected", "double",
            "float", "Object", "instanceof", "Exact", "System.out", "equals", "hashCode", "toString", "native", "volatile"};
        for (String word : forbidden) must(!Pattern.compile("\\b" + Pattern.quote(word) + "\\b").matcher(bare).find(), "the word " + word);
        for (String sign : new String[] {"->", "::", "\"", "@"}) must(!bare.contains(sign), "the sign " + sign);
        Matcher called = Pattern.compile("\\b([A-Z][a-z]\\w*)\\.(\\w+)").matcher(bare);
        List<String> allowed = List.of("Integer.bitCount", "Math.max", "Math.min", "System.arraycopy",
            "Kinds.softOfKind", "Kinds.bindsOfKind", "Kinds.weighsOfKind", "Kinds.ofLetter");
        while (called.find()) must(allowed.contains(called.group()), "a use of " + called.group());
        shortMethods(source);
    }

    private static void shortMethods(String source) {
        List<String> lines = new ArrayList<>(List.of(source.split("\n")));
        Pattern head = Pattern.compile("( {4}| {8})[a-z][\\w \\[\\]]*\\(.*\\) \\{");
        for (int i = 0; i < lines.size(); i++) {
            Matcher m = head.matcher(lines.get(i));
            if (!m.matches()) continue;
            int end = i;
            while (end < lines.size() && !lines.get(end).equals(m.group(1) + "}")) end++;
            must(end - i < 60, "a long method: " + lines.get(i).trim());
        }
    }

    public static void main(String[] args) throws Exception {
        face();
        words();
        System.out.println(wrong == 0 ? "the face is as due" : wrong + " things of the face are not as due");
        if (wrong != 0) System.exit(1);
    }
}
