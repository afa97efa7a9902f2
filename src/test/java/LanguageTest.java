import com.sun.management.ThreadMXBean;
import java.lang.management.ManagementFactory;
import java.lang.reflect.Constructor;
import java.lang.reflect.Field;
import java.lang.reflect.Method;
import java.lang.reflect.Modifier;
import java.nio.charset.StandardCharsets;
import java.nio.file.Files;
import java.nio.file.Path;
import java.util.Arrays;
import java.util.Set;
import java.util.TreeSet;
import java.util.regex.Matcher;
import java.util.regex.Pattern;

/** The rules of LANGUAGE.md that can be seen in the class and in its text. */
public final class LanguageTest {
    private static final String[] FACE = {
        "int letter(int)", "int hoist()", "int thing(int,int)", "int side(int,int)", "int hangs(int,int)",
        "int loads(int,int)", "int lifts(int)", "int doors(int)", "int turn(int,int,int)", "int days(int)",
        "int floorThen(int,int)", "int weighsThen(int,int)", "int pull(int)", "int meets()", "int comes(int,int)",
        "int strikes(int)", "int door(int)", "int level(int)", "int take(int)", "int hang(int)", "int change()",
        "int ballast(int,int,int)", "int mustWeigh(int,int,int)", "int bestKind(int,int,int)", "int heaviest(int)",
        "int two(int,int,int)", "long draught(int,int,int,int)", "long mean(int)", "int whatIs(int,int)",
        "int row(int)", "int judge()", "int clear()", "int lots(int,int,int)", "int image()", "int on()",
        "int count(int)",
    };
    private static final String[] NEVER = {
        "\\bthrow\\b", "\\bthrows\\b", "\\btry\\b", "\\bcatch\\b", "\\bsynchronized\\b", "\\bassert\\b",
        "->", "::", "\\bimport\\b(?! java\\.util\\.(ArrayList|List|Iterator|Arrays);)", "\\bpackage\\b", "\\bnative\\b", "\\bvolatile\\b", "\\bthis\\s*\\)",
        "\\bstatic\\s*\\{", "\\w+Exact\\b", "\\bObject\\b", "\\bvar\\b", "\\bwhile\\s*\\(\\s*true", "\\bfor\\s*\\(\\s*;",
        "\\bhashCode\\b", "\\btoString\\b", "\"\\s*\\+", "\\+\\s*\"",
    };
    private static final Pattern LIBRARY = Pattern.compile("(Math|Integer|Long)\\.(?!toString|valueOf|parse)[a-z]\\w+"
            + "|(Integer|Long)\\.M(IN|AX)_VALUE|System\\.arraycopy|Arrays\\.(copyOf|copyOfRange|fill)|List\\.of");
    private static int wrong = 0;

    private static void must(boolean holds, String rule) {
        if (!holds) {
            wrong++;
            System.out.println("not kept: " + rule);
        }
    }

    public static void main(String[] args) throws Exception {
        String source = System.getenv("HOISTS_SOURCE");
        Path path = Path.of(source == null ? "src/main/java/HoistsAreShared.java" : source);
        String text = Files.readString(path, StandardCharsets.ISO_8859_1);
        face();
        members(HoistsAreShared.class);
        int classes = 1;
        for (Class<?> inside : HoistsAreShared.class.getDeclaredClasses()) {
            classes++;
            must(Modifier.isStatic(inside.getModifiers()), inside + " is static (2)");
            must(!Modifier.isPublic(inside.getModifiers()) && !Modifier.isProtected(inside.getModifiers()),
                    inside + " is not seen from outside (1)");
            members(inside);
        }
        must(classes <= 12, "twelve classes at most (11)");
        text(text);
        String code = withoutComments(text);
        words(code);
        lengths(code);
        room();
        System.out.println(wrong == 0 ? "the rules are kept" : wrong + " rules are not kept");
        if (wrong != 0) {
            System.exit(1);
        }
    }

    private static void face() {
        Class<?> c = HoistsAreShared.class;
        must(Modifier.isPublic(c.getModifiers()) && Modifier.isFinal(c.getModifiers()), "public and final (1)");
        Set<String> seen = new TreeSet<>();
        Set<String> own = new TreeSet<>();
        for (Method m : c.getDeclaredMethods()) {
            if (Modifier.isPrivate(m.getModifiers())) {
                own.add(m.getName());
            } else {
                String args = Arrays.toString(m.getParameterTypes()).replaceAll("[\\[\\] ]", "");
                seen.add(m.getReturnType() + " " + m.getName() + "(" + args + ")");
            }
        }
        must(seen.equals(new TreeSet<>(Arrays.asList(FACE))), "the face is the document's (1): " + seen);
        for (Class<?> inside : c.getDeclaredClasses()) {
            for (Method m : inside.getDeclaredMethods()) {
                own.add(m.getName());
            }
        }
        for (String signature : FACE) {
            String name = signature.substring(signature.indexOf(' ') + 1, signature.indexOf('('));
            must(!own.contains(name), "no private method bears the name " + name + " (1)");
        }
        Constructor<?>[] made = c.getDeclaredConstructors();
        must(made.length == 1 && made[0].getParameterCount() == 0 && Modifier.isPublic(made[0].getModifiers()),
                "one public constructor (1)");
        for (Field f : c.getDeclaredFields()) {
            must(Modifier.isPrivate(f.getModifiers()), f + " is private (1)");
        }
    }

    private static void members(Class<?> c) {
        int fields = 0;
        for (Field f : c.getDeclaredFields()) {
            if (Modifier.isStatic(f.getModifiers())) {
                must(Modifier.isFinal(f.getModifiers()), f + " is final (5)");
                must(f.getType().isPrimitive() || f.getType() == String.class, f + " is a constant (5)");
            } else {
                fields++;
            }
        }
        must(fields <= 20, c + " has twenty fields at most (11)");
        for (Method m : c.getDeclaredMethods()) {
            must(m.getParameterCount() <= 7, m + " takes at most seven (11)");
        }
    }

    private static void text(String text) {
        for (int i = 0; i < text.length(); i++) {
            char c = text.charAt(i);
            must(c == '\n' || c >= 32 && c < 127, "plain signs alone, not " + (int) c + " at " + i);
        }
    }

    private static String withoutComments(String text) {
        return text.replaceAll("(?s)/\\*.*?\\*/", "").replaceAll("//[^\n]*", "");
    }

    private static void words(String code) {
        for (String never : NEVER) {
            must(!Pattern.compile(never).matcher(code).find(), "never " + never + " (2, 3, 4, 6, 9, 10)");
        }
        Matcher library = Pattern.compile("\\b(?:Math|Integer|Long|System|Arrays|String|List)\\.\\w+").matcher(code);
        while (library.find()) {
            must(LIBRARY.matcher(library.group()).matches(), "not of the library: " + library.group() + " (4)");
        }
    }

    private static void lengths(String code) {
        String[] lines = code.split("\n");
        Pattern head = Pattern.compile("^( {4}| {8})(?:[\\w\\[\\]]+ )*(\\w+)\\([^)]*\\) \\{$");
        String name = "";
        String indent = "";
        int start = 0;
        for (int i = 0; i < lines.length; i++) {
            Matcher m = head.matcher(lines[i]);
            if (name.isEmpty() && m.find() && !lines[i].contains(" else ") && !lines[i].trim().startsWith("if ")) {
                indent = m.group(1);
                name = m.group(2);
                start = i;
            }
            if (!name.isEmpty() && lines[i].equals(indent + "}")) {
                must(i - start < 60, name + " is short (11)");
                name = "";
            }
        }
    }

    /** All calls of many objects live in one room: what 500 of the dearest calls make must be next to nothing. */
    private static void room() {
        ThreadMXBean threads = (ThreadMXBean) ManagementFactory.getThreadMXBean();
        HoistsAreShared x = new HoistsAreShared();
        // The first round may load classes.
        dearCalls(x);
        long before = threads.getCurrentThreadAllocatedBytes();
        for (int round = 0; round < 20; round++) {
            dearCalls(x);
        }
        long made = threads.getCurrentThreadAllocatedBytes() - before;
        must(made < 1000000, "500 calls make little (12), not " + made + " bytes");
    }

    private static void dearCalls(HoistsAreShared x) {
        for (int i = 0; i < 5; i++) {
            x.letter("th50;".charAt(i));
        }
        x.hoist();
        x.take(30);
        x.hang(30);
        x.change();
        x.ballast(0, 30, 0);
        x.mustWeigh(0, 0, 30);
        x.bestKind(0, 30, 0);
        x.two(0, 1, 30);
        x.draught(7, 20, 9, 0);
        x.mean(0);
        x.row(10);
        x.whatIs(0, 1);
        x.judge();
        x.lots(20, 5, 0);
        x.strikes(1);
        x.meets();
        x.level(60);
        x.image();
        x.on();
    }
}
