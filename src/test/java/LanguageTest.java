import java.lang.reflect.Constructor;
import java.lang.reflect.Field;
import java.lang.reflect.Method;
import java.lang.reflect.Modifier;
import java.nio.file.Files;
import java.nio.file.Path;
import java.util.Set;
import java.util.TreeSet;
import java.util.regex.Matcher;
import java.util.regex.Pattern;

/** The public face, and those rules of LANGUAGE.md that a look at the source can tell. */
public final class LanguageTest {
    private static final Due due = new Due("LanguageTest");
    private static final String FACE = "seller2 set3 anew1 told2 feed1 text0 force1 word2 agree1 rule4 "
            + "bestRule2 bestAt4 whom2 allInTurn3 hisCost3 slipped3 market4 judge2 drawn2 odds4 image0 "
            + "back0 count1 sheet3 cell3 copy5 sellers4 taken2";
    private static final String[] FORBIDDEN = {"throw", "throws", "try", "catch", "finally", "synchronized",
        "assert", "package", "protected", "native", "volatile", "transient", "hashCode",
        "Object", "Random", "Thread", "nanoTime", "currentTimeMillis", "Exception"};

    public static void main(String[] args) throws Exception {
        face();
        nested();
        String source = Files.readString(Path.of(args.length > 0 ? args[0] : "src/main/java/CarpetEleven.java"));
        source(source);
        due.finish();
    }

    private static void face() throws Exception {
        due.holds("public and final", Modifier.isPublic(CarpetEleven.class.getModifiers())
                && Modifier.isFinal(CarpetEleven.class.getModifiers()));
        Set<String> want = new TreeSet<>(Set.of(FACE.split(" ")));
        Set<String> got = new TreeSet<>();
        Set<String> open = new TreeSet<>();
        for (Method m : CarpetEleven.class.getDeclaredMethods()) {
            if (Modifier.isPublic(m.getModifiers())) {
                got.add(m.getName() + m.getParameterCount());
                open.add(m.getName());
                due.holds(m + " is of the object", !Modifier.isStatic(m.getModifiers()));
                due.holds(m + " answers", m.getReturnType() == (m.getName().equals("odds") ? long.class : int.class));
                for (Class<?> type : m.getParameterTypes()) {
                    due.holds(m + " takes ints", type == int.class);
                }
            } else {
                due.holds(m + " is private", Modifier.isPrivate(m.getModifiers()));
            }
        }
        due.holds("the methods " + got, got.equals(want));
        for (Method m : CarpetEleven.class.getDeclaredMethods()) {
            due.holds(m + " bears its own name",
                    Modifier.isPublic(m.getModifiers()) || !open.contains(m.getName()));
        }
        Constructor<?>[] made = CarpetEleven.class.getDeclaredConstructors();
        due.is("constructors", made.length, 1);
        due.holds("it is public and takes nothing",
                Modifier.isPublic(made[0].getModifiers()) && made[0].getParameterCount() == 0);
        Set<String> constants = new TreeSet<>();
        for (Field f : CarpetEleven.class.getDeclaredFields()) {
            if (Modifier.isPublic(f.getModifiers())) {
                constants.add(f.getName());
                due.holds(f + " is long for NO alone", f.getType() == (f.getName().equals("NO") ? long.class : int.class));
            } else {
                due.holds(f + " is private", Modifier.isPrivate(f.getModifiers()));
            }
            due.holds(f + ": static means final",
                    !Modifier.isStatic(f.getModifiers()) || Modifier.isFinal(f.getModifiers()));
        }
        due.holds("the constants " + constants,
                constants.equals(new TreeSet<>(Set.of("NONE", "BAD", "STATE", "FULL", "NO"))));
        long[] worth = {CarpetEleven.NONE, CarpetEleven.BAD, CarpetEleven.STATE, CarpetEleven.FULL};
        for (int i = 0; i < 4; i++) {
            due.is("constant " + i, worth[i], -1 - i);
        }
        due.is("NO", CarpetEleven.NO, -4611686018427387904L);
    }

    private static void nested() {
        Class<?>[] inside = CarpetEleven.class.getDeclaredClasses();
        due.holds("some twelve classes", inside.length <= 12);
        for (Class<?> c : inside) {
            due.holds(c + " is static", Modifier.isStatic(c.getModifiers()));
            due.holds(c + " is not open to all", !Modifier.isPublic(c.getModifiers())
                    && !Modifier.isProtected(c.getModifiers()));
            int fields = 0;
            for (Field f : c.getDeclaredFields()) {
                fields += Modifier.isStatic(f.getModifiers()) ? 0 : 1;
                due.holds(f + ": static means final",
                        !Modifier.isStatic(f.getModifiers()) || Modifier.isFinal(f.getModifiers()));
            }
            due.holds(c + " has some twenty fields", fields <= 20);
            for (Method m : c.getDeclaredMethods()) {
                due.holds(m + " takes at most seven", m.getParameterCount() <= 7);
            }
        }
    }

    private static void source(String whole) {
        String bare = whole.replaceAll("(?s)/\\*.*?\\*/", "").replaceAll("//[^\n]*", "")
                .replaceAll("\"[^\"]*\"", "\"\"");
        for (String word : FORBIDDEN) {
            due.holds("no " + word, !Pattern.compile("\\b" + word + "\\b").matcher(bare).find());
        }
        due.holds("no lambda", !bare.contains("->"));
        due.holds("no method reference", !bare.contains("::"));
        due.holds("no text joined by +", !Pattern.compile("\"\\s*\\+|\\+\\s*\"").matcher(bare).find());
        due.holds("no name that ends in Exact", !Pattern.compile("Exact\\s*\\(").matcher(bare).find());
        due.holds("no static block", !Pattern.compile("static\\s*\\{").matcher(bare).find());
        due.holds("no annotation", !bare.contains("@"));
        for (int i = 0; i < whole.length(); i++) {
            if (whole.charAt(i) > 126) {
                due.holds("sign " + (int) whole.charAt(i), false);
            }
        }
        Matcher call = Pattern.compile("\\b(System|Math|Arrays|Integer|Long|String|List)\\.(\\w+)").matcher(bare);
        while (call.find()) {
            // Of Integer, Long and Math all static functions over int and long are, but ..Exact.
            boolean numbers = Set.of("Math", "Integer", "Long").contains(call.group(1));
            due.holds(call.group() + " is of the library", numbers || Set.of("System.arraycopy",
                    "Arrays.copyOf", "Arrays.copyOfRange", "Arrays.fill", "List.of").contains(call.group()));
        }
        Matcher taken = Pattern.compile("(?m)^import ([^;]+);").matcher(bare);
        while (taken.find()) {
            due.holds(taken.group() + " is of the library", Set.of("java.util.ArrayList", "java.util.List",
                    "java.util.Arrays", "java.util.Iterator").contains(taken.group(1)));
        }
        int lines = 0;
        for (String line : whole.split("\n")) {
            lines = line.matches("    (public|private) .*\\{|        \\w.*\\) \\{") ? 0 : lines + 1;
            due.holds("methods stay short: " + line, lines <= 70);
        }
    }
}
