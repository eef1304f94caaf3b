import java.io.IOException;
import java.lang.reflect.Field;
import java.lang.reflect.Method;
import java.lang.reflect.Modifier;
import java.nio.file.Files;
import java.nio.file.Path;
import java.util.Arrays;
import java.util.HashSet;
import java.util.List;
import java.util.Set;
import java.util.regex.Matcher;
import java.util.regex.Pattern;

/** The rules of LANGUAGE.md that can be seen by reflection or in the text of the class; the room that it takes. */
public final class LanguageTest {
    private static final String FACE = "feed(int) end(int) text() fault() rule(int) tune(int,int) note(int,int)"
            + " has(int,int) player(int,int) bound(int) write(int,int,int) add(int,int) set(int,int,int)"
            + " hire(int,int,int) bind(int,int) out(int,int) over(int,int) plays(int) sounds(int) sum(int)"
            + " first(int) best(int) apart(int) compose(int,int) bribe(int,int,int) teach(int) mean(int,int)"
            + " luck(int,int,int) see(int,int,int) forget(int) fits(int) listen(int,int) drift(int,int,int)"
            + " keep(int) back(int) sheet(int,int,int) lay(int,int,int) read(int,int,int,int) torn() count(int)";
    private static final List<String> FORBIDDEN = List.of("throw", "throws", "try", "catch", "synchronized", "assert",
        "import", "protected", "lambda", "Object", "Random", "System.currentTimeMillis", "System.nanoTime", "Exact",
        "hashCode", "toString", "yield", "record", "package", "native", "volatile");
    private static final Set<String> LIBRARY = Set.of("Integer.bitCount", "Math.max", "System.arraycopy");

    public static void main(String[] args) throws IOException {
        theFace();
        namesOfMethods();
        staticFields();
        theText(Files.readString(Path.of("src/main/java/TuneWard.java")));
        theRoom();
        Checks.close();
    }

    // Rule 1
    private static void theFace() {
        Set<String> due = new HashSet<>(Arrays.asList(FACE.split(" ")));
        Checks.due("methods in the face", due.size(), 40);
        for (Method m : TuneWard.class.getDeclaredMethods()) {
            if (Modifier.isPublic(m.getModifiers())) {
                String name = m.toString().replaceAll(".*\\.(\\w+\\(.*\\))", "$1");
                Checks.due("in the face: " + name, due.remove(name) ? 1 : 0, 1);
                boolean isLong = name.startsWith("mean") || name.startsWith("luck");
                Checks.due("answer of " + name, m.getReturnType() == (isLong ? long.class : int.class) ? 1 : 0, 1);
                Checks.due("static " + name, Modifier.isStatic(m.getModifiers()) ? 1 : 0, 0);
            } else {
                Checks.due("private: " + m, Modifier.isPrivate(m.getModifiers()) ? 1 : 0, 1);
            }
        }
        Checks.due("missing: " + due, due.size(), 0);
        Checks.due("final", Modifier.isFinal(TuneWard.class.getModifiers()) ? 1 : 0, 1);
        Checks.due("constructors", TuneWard.class.getConstructors().length, 1);
        Checks.due("public fields", TuneWard.class.getFields().length, 4);
        for (Field f : TuneWard.class.getDeclaredFields()) {
            boolean hidden = Modifier.isPrivate(f.getModifiers()) || Modifier.isPublic(f.getModifiers());
            Checks.due("hidden: " + f, hidden ? 1 : 0, 1);
        }
    }

    // Rules 1, 2
    private static void namesOfMethods() {
        Set<String> face = new HashSet<>();
        for (Method m : TuneWard.class.getMethods()) {
            face.add(m.getName());
        }
        for (Class<?> inside : TuneWard.class.getDeclaredClasses()) {
            Checks.due("static: " + inside, Modifier.isStatic(inside.getModifiers()) ? 1 : 0, 1);
            for (Method m : inside.getDeclaredMethods()) {
                Checks.due("a name of the face: " + m, face.contains(m.getName()) ? 1 : 0, 0);
                Checks.due("parameters of " + m, m.getParameterCount() <= 7 ? 1 : 0, 1);
            }
        }
        for (Method m : TuneWard.class.getDeclaredMethods()) {
            if (Modifier.isPrivate(m.getModifiers())) {
                Checks.due("a name of the face: " + m, face.contains(m.getName()) ? 1 : 0, 0);
            }
        }
        Checks.due("classes", TuneWard.class.getDeclaredClasses().length <= 11 ? 1 : 0, 1);
    }

    // Rules 5, 11
    private static void staticFields() {
        Class<?>[] inside = TuneWard.class.getDeclaredClasses();
        for (int i = -1; i < inside.length; i++) {
            Class<?> c = i < 0 ? TuneWard.class : inside[i];
            int own = 0;
            for (Field f : c.getDeclaredFields()) {
                if (Modifier.isStatic(f.getModifiers())) {
                    boolean constant = Modifier.isFinal(f.getModifiers()) && f.getType() == int.class;
                    Checks.due("constant: " + f, constant ? 1 : 0, 1);
                } else {
                    own++;
                }
            }
            Checks.due("fields of " + c, own <= 20 ? 1 : 0, 1);
        }
    }

    // Rules 2, 6, 8, 10, 11
    private static void theText(String whole) {
        String text = whole.replaceAll("(?s)/\\*.*?\\*/", "").replaceAll("//[^\n]*", "");
        for (String word : FORBIDDEN) {
            Matcher found = Pattern.compile("\\b" + Pattern.quote(word) + "\\b").matcher(text);
            Checks.due("forbidden: " + word, found.find() ? 1 : 0, 0);
        }
        Checks.due("lambda", text.contains("->") ? 1 : 0, 0);
        Checks.due("method reference", text.contains("::") ? 1 : 0, 0);
        Checks.due("text joined by +", Pattern.compile("\" *\\+|\\+ *\"").matcher(text).find() ? 1 : 0, 0);
        for (int i = 0; i < whole.length(); i++) {
            if (whole.charAt(i) > 126) {
                Checks.due("sign " + i, whole.charAt(i), ' ');
            }
        }
        theLibrary(text);
        lengthsOfMethods(text.split("\n"));
    }

    // Rule 4: of the library only functions that the rule lists; no constants of its classes
    private static void theLibrary(String text) {
        Matcher used = Pattern.compile("\\b(Integer|Long|Math|System|Arrays|String|Character|List)\\.\\w+").matcher(text);
        int many = 0;
        while (used.find()) {
            many++;
            Checks.due("of the library: " + used.group(), LIBRARY.contains(used.group()) ? 1 : 0, 1);
        }
        Checks.due("the library was found", many > 10 ? 1 : 0, 1);
    }

    private static void lengthsOfMethods(String[] lines) {
        int methods = 0;
        int start = 0;
        String close = "";
        for (int i = 0; i < lines.length; i++) {
            if (lines[i].matches(" {4,8}(public|private|static|final|void|int|long|boolean) ?[^=;]*\\) \\{")) {
                start = i;
                close = lines[i].replaceAll("\\S.*", "") + "}";
            } else if (lines[i].equals(close)) {
                methods++;
                Checks.due("long method at " + lines[start], i - start <= 60 ? 1 : 0, 1);
                close = "";
            }
        }
        Checks.due("methods were found", methods > 80 ? 1 : 0, 1);
    }

    // Rule 12: calls take no room once the object is made
    private static void theRoom() {
        TuneWard x = Checks.told("plain 9 0 1 2;rondo 9 1 3 4;fugue 9 0 5;lullaby 9 0 6;"
                + "player 9 99 1 0;player 9 99 1 1;player 9 99 1 2;player 9 99 1 3;bound 0;bound 1;");
        com.sun.management.ThreadMXBean bean = java.lang.management.ManagementFactory
                .getPlatformMXBean(com.sun.management.ThreadMXBean.class);
        for (int i = 0; i < 3; i++) {
            calls(x);
        }
        long before = bean.getCurrentThreadAllocatedBytes();
        calls(x);
        long taken = bean.getCurrentThreadAllocatedBytes() - before;
        Checks.due("room for calls: " + taken, taken < 2000 ? 1 : 0, 1);
    }

    private static void calls(TuneWard x) {
        for (int i = 0; i < 20; i++) {
            x.feed(' ');
            x.best(0);
            x.apart(0);
            x.bribe(3, 9, 0);
            x.teach(0);
            x.mean(5, 0);
            x.luck(5, 0, 0);
            x.listen(0, 0);
            x.drift(1, 20, 0);
            x.keep(0);
            x.back(0);
            x.sheet(0, 0, 40);
            x.read(0, 0, 0, 20);
            x.see(0, 0, 0);
            x.compose(143, 0);
        }
    }
}
