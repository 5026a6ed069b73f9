import java.lang.reflect.Constructor;
import java.lang.reflect.Field;
import java.lang.reflect.Method;
import java.lang.reflect.Modifier;
import java.nio.file.Files;
import java.nio.file.Path;
import java.util.Arrays;
import java.util.HashSet;
import java.util.Set;
import java.util.TreeSet;
import java.util.regex.Matcher;
import java.util.regex.Pattern;

/** The face of the document and those rules of LANGUAGE.md that can be read off the file. */
public final class RulesTest {
    private static final Check CHECK = new Check();
    private static final String FACE = "feed5 end1 book0 fault1 entry2 learn2 forget1 use1 type1 wipe0 undo0 redo0 typed1 distance2 "
        + "forms1 bucket1 met2 missed2 nearest1 near2 split2 join2 reading0 readings0 closest1 groups1 far2 middle0 chain3 begins1 "
        + "crowded1 load1 fullest0 store0 clashes0 rarest0 law1 odds2 lies1 seen3 untell1 later1 fits1 ask2 image1 back1 about1";
    private static final Set<String> TRUTHS = Set.of("undo", "redo", "untell");

    public static void main(String[] args) throws Exception {
        face();
        nested();
        source(Files.readString(Path.of("src/main/java/NearSpell.java")));
        anyArguments();
        CHECK.finish();
    }

    private static void face() {
        Set<String> found = new TreeSet<>();
        for (Method m : NearSpell.class.getDeclaredMethods()) {
            if (!Modifier.isPrivate(m.getModifiers())) {
                found.add(m.getName() + m.getParameterCount());
                CHECK.due(m + " is public and no more", m.getModifiers(), Modifier.PUBLIC);
                CHECK.due(m + " answers a boolean", m.getReturnType() == boolean.class, TRUTHS.contains(m.getName()));
            }
        }
        Set<String> want = new TreeSet<>(Arrays.asList(FACE.split(" ")));
        CHECK.due("the face has " + found, found.equals(want), true);
        CHECK.due("the face has 47 methods", found.size(), 47);
        for (Field f : NearSpell.class.getDeclaredFields()) {
            CHECK.due(f + " is private or NONE", Modifier.isPrivate(f.getModifiers()) || f.getName().equals("NONE"), true);
        }
        for (Constructor<?> c : NearSpell.class.getDeclaredConstructors()) {
            CHECK.due(c + " is the one", c.getParameterCount() == 0 && Modifier.isPublic(c.getModifiers()), true);
        }
        CHECK.due("the class is public and final", NearSpell.class.getModifiers(), Modifier.PUBLIC | Modifier.FINAL);
    }

    private static void nested() {
        Set<String> names = new HashSet<>();
        for (String call : FACE.split(" ")) {
            names.add(call.substring(0, call.length() - 1));
        }
        Class<?>[] classes = NearSpell.class.getDeclaredClasses();
        CHECK.due("at most twelve classes", classes.length <= 11, true);
        for (Class<?> c : classes) {
            CHECK.due(c + " is static", Modifier.isStatic(c.getModifiers()), true);
            for (Method m : c.getDeclaredMethods()) {
                CHECK.due(m + " bears no public one's name", names.contains(m.getName()), false);
                CHECK.due(m + " has seven parameters at most", m.getParameterCount() <= 7, true);
            }
            int fields = 0;
            for (Field f : c.getDeclaredFields()) {
                boolean fixed = Modifier.isStatic(f.getModifiers());
                CHECK.due(f + " is no static state", !fixed || Modifier.isFinal(f.getModifiers()), true);
                fields += fixed ? 0 : 1;
            }
            CHECK.due(c + " has some twenty fields", fields <= 20, true);
        }
    }

    private static void source(String text) {
        String bare = text.replaceAll("(?s)/\\*.*?\\*/", "").replaceAll("//[^\\n]*", "").replaceAll("\"[^\"\\n]*\"", "\"\"");
        String[] words = {"throw", "throws", "try", "catch", "finally", "synchronized", "assert", "import", "package", "double", "float",
            "Object", "hashCode", "toString", "getClass", "native", "volatile", "transient", "protected", "var"};
        for (String word : words) {
            CHECK.due("no " + word, Pattern.compile("\\b" + word + "\\b").matcher(bare).find(), false);
        }
        CHECK.due("no lambda, no method reference", bare.contains("->") || bare.contains("::"), false);
        CHECK.due("no sign above 127", text.chars().allMatch(c -> c < 128), true);
        Matcher calls = Pattern.compile("\\b(Math|Integer|Long|System|Arrays)\\.(\\w+)").matcher(bare);
        Set<String> allowed = Set.of("Math.min", "Math.max", "Math.abs", "Integer.bitCount", "System.arraycopy");
        while (calls.find()) {
            CHECK.due(calls.group() + " is allowed", allowed.contains(calls.group()), true);
        }
        lengths(text.split("\n"));
    }

    /** No method of more than some sixty lines. */
    private static void lengths(String[] lines) {
        int start = -1;
        String end = "";
        for (int i = 0; i < lines.length; i++) {
            boolean head = lines[i].matches(" +(public |private |static |final )*\\w[\\w\\[\\]]* \\w+\\([^;]*\\{");
            if (start < 0 && head && !lines[i].contains("class ") && !lines[i].matches(" +(if|for|while|else|switch|return).*")) {
                start = i;
                end = lines[i].replaceAll("\\S.*", "") + "}";
            } else if (start >= 0 && lines[i].equals(end)) {
                CHECK.due("lines of " + lines[start].trim(), i - start < 62, true);
                start = -1;
            }
        }
    }

    /** No call throws, for odd arguments, on a new object, a told one and one after a fault. */
    private static void anyArguments() throws Exception {
        int[] odd = {Integer.MIN_VALUE, -2, -1, 0, 1, 2, 3, 6, 7, 13, 14, 26, 27, 28, 30, 31, 100, 1000, 1600, 387420488, 387420489, Integer.MAX_VALUE};
        java.util.Random random = new java.util.Random(5);
        Method[] methods = NearSpell.class.getDeclaredMethods();
        Arrays.sort(methods, (a, b) -> a.getName().compareTo(b.getName()));
        for (int run = 0; run < 60; run++) {
            NearSpell x = run % 3 == 0 ? new NearSpell() : Check.told("word ab 1;word abc 5;word x 3;slips 40;hash first - last * 9;");
            if (run % 3 == 2) {
                Check.book(x, "word ab");
            }
            for (int i = 0; i < 500; i++) {
                Method m = methods[random.nextInt(methods.length)];
                if (!Modifier.isPublic(m.getModifiers())) {
                    continue;
                }
                Object[] values = new Object[m.getParameterCount()];
                for (int k = 0; k < values.length; k++) {
                    boolean truth = m.getParameterTypes()[k] == boolean.class;
                    values[k] = truth ? (Object) random.nextBoolean() : (Object) odd[random.nextInt(odd.length)];
                }
                String call = m.getName() + Arrays.toString(values);
                boolean ended = false;
                try {
                    m.invoke(x, values);
                    ended = true;
                } catch (java.lang.reflect.InvocationTargetException e) {
                    System.out.println(call + " threw " + e.getCause());
                }
                CHECK.due(call + " throws nothing", ended, true);
            }
        }
    }
}
