import java.lang.reflect.Method;
import java.lang.reflect.Modifier;
import java.nio.file.Files;
import java.nio.file.Path;
import java.util.List;
import java.util.TreeMap;
import java.util.TreeSet;
import java.util.regex.Matcher;
import java.util.regex.Pattern;

/** What README.md shows is so: its examples are called line by line, its table is held against the face and the refusals. */
public final class ReadmeTests {
    private static final Pattern MADE = Pattern.compile("NestsOfTalk x = new NestsOfTalk\\(\\);");
    private static final Pattern TOLD = Pattern.compile("for \\(char c : \"(.*?)\"\\.toCharArray\\(\\)\\) x\\.letter\\(c\\);.*");
    private static final Pattern CALLED = Pattern.compile("x\\.(\\w+)\\(([-\\d, ]*)\\); +// (-?\\d+)(:.*)?");
    private static final Pattern TABLE_ROW = Pattern.compile("\\| `(\\w+)\\((.*?)\\)` \\| .+ \\| ([-\\d, ]*)\\|");
    /** Each of them is wrong for some argument, and each of some use for another. */
    private static final int[] NUMBERS = {Integer.MIN_VALUE, -1, 0, 1, 2, 5, 100, 1000, Integer.MAX_VALUE};
    private static final long LONG_REFUSAL = 4000000000000000000L;

    private static int wrong = 0;
    private static int examples = 0;

    private static void must(boolean so, String what) {
        if (so) return;
        wrong++;
        System.out.println("README.md: " + what);
    }

    private static TreeMap<String, Method> face() {
        TreeMap<String, Method> face = new TreeMap<>();
        for (Method m : NestsOfTalk.class.getDeclaredMethods()) {
            if (Modifier.isPublic(m.getModifiers()) && !m.isSynthetic()) face.put(m.getName(), m);
        }
        return face;
    }

    private static long call(Method m, NestsOfTalk x, int[] numbers) throws Exception {
        Object[] arguments = new Object[numbers.length];
        for (int i = 0; i < numbers.length; i++) arguments[i] = numbers[i];
        return ((Number) m.invoke(x, arguments)).longValue();
    }

    private static int[] numbersOf(String words) {
        if (words.isEmpty()) return new int[0];
        String[] parts = words.split(", ");
        int[] numbers = new int[parts.length];
        for (int i = 0; i < parts.length; i++) numbers[i] = Integer.parseInt(parts[i]);
        return numbers;
    }

    private static void examples(List<String> lines) throws Exception {
        NestsOfTalk x = null;
        boolean shown = false;
        for (String line : lines) {
            if (line.startsWith("```")) shown = line.equals("```java");
            else if (shown && MADE.matcher(line).matches()) x = new NestsOfTalk();
            else if (shown) example(x, line);
        }
        must(examples > 20, "only " + examples + " examples");
    }

    private static void example(NestsOfTalk x, String line) throws Exception {
        Matcher told = TOLD.matcher(line), called = CALLED.matcher(line);
        if (x != null && told.matches()) {
            for (char c : told.group(1).toCharArray()) x.letter(c);
        } else if (x != null && called.matches()) {
            examples++;
            Method m = face().get(called.group(1));
            int[] numbers = numbersOf(called.group(2));
            must(m != null && m.getParameterCount() == numbers.length, "no such call: " + line);
            if (m == null || m.getParameterCount() != numbers.length) return;
            long got = call(m, x, numbers);
            must(got == Long.parseLong(called.group(3)), got + " was answered where it shows: " + line);
        } else {
            must(false, "an example that this test cannot call: " + line);
        }
    }

    private static void table(List<String> lines) throws Exception {
        TreeMap<String, Method> face = face();
        TreeSet<String> named = new TreeSet<>();
        for (String line : lines) {
            Matcher m = TABLE_ROW.matcher(line);
            if (!m.matches()) {
                must(!line.startsWith("| `"), "a row that this test cannot read: " + line);
                continue;
            }
            must(named.add(m.group(1)), "two rows of " + m.group(1));
            Method call = face.get(m.group(1));
            int arguments = m.group(2).isEmpty() ? 0 : m.group(2).split(", ").length;
            must(call != null && call.getParameterCount() == arguments, "no such call: " + line);
            if (call == null || call.getParameterCount() != arguments) continue;
            TreeSet<Integer> refusals = new TreeSet<>();
            for (int refusal : numbersOf(m.group(3).trim())) refusals.add(refusal);
            TreeSet<Integer> seen = refusalsOf(call);
            must(seen.equals(refusals), call.getName() + " is refused with " + seen + ", not with " + refusals);
        }
        must(named.equals(face.keySet()), "its table has " + named);
    }

    /** By how many refusals there are, so that no answer is taken for one. */
    private static TreeSet<Integer> refusalsOf(Method m) throws Exception {
        TreeSet<Integer> seen = new TreeSet<>();
        int[] numbers = new int[m.getParameterCount()];
        int many = 1;
        for (int i = 0; i < numbers.length; i++) many *= NUMBERS.length;
        for (int choice = 0; choice < many; choice++) {
            int rest = choice;
            for (int i = 0; i < numbers.length; i++) {
                numbers[i] = NUMBERS[rest % NUMBERS.length];
                rest /= NUMBERS.length;
            }
            NestsOfTalk x = new NestsOfTalk();
            for (char c : "sg50;sp70;sm91;t0;".toCharArray()) x.letter(c);
            x.close();
            long got = call(m, x, numbers);
            for (int refusal = -6; refusal <= -1; refusal++) {
                if (x.count(10 - refusal) == 0) continue;
                seen.add(refusal);
                must(got == refusal || got == LONG_REFUSAL - refusal, m.getName() + " counts " + refusal + ", answers " + got);
            }
        }
        return seen;
    }

    public static void main(String[] args) throws Exception {
        List<String> lines = Files.readAllLines(Path.of("README.md"));
        examples(lines);
        table(lines);
        System.out.println(wrong == 0 ? examples + " examples of README.md are so" : wrong + " things of README.md are not so");
        if (wrong != 0) System.exit(1);
    }
}
