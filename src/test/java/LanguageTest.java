import java.lang.reflect.Constructor;
import java.lang.reflect.Field;
import java.lang.reflect.Method;
import java.lang.reflect.Modifier;
import java.nio.charset.StandardCharsets;
import java.nio.file.Files;
import java.nio.file.Path;
import java.util.ArrayList;
import java.util.List;
import java.util.Set;
import java.util.TreeSet;

/** Those rules of ../shared/LANGUAGE.md that can be looked at from outside; runs in the project's folder. */
public final class LanguageTest {
    private static final Path SOURCE = Path.of("src/main/java/RegionHandles.java");
    private static final Check check = new Check();

    private static final String FACE = "region:2 block:3 free:1 pin:2 grow:2 moves:2 write:3 read:2 peek:3 of:2 slot:2 "
        + "lies:1 tag:2 find:1 tagged:1 quota:2 owner:2 enter:1 leave:1 advance:0 would:3 least:2 leaked:1 path:2 "
        + "epochs:1 plan:2 told:2 feed:1 script:0 image:0 back:0 hold:2 row:2 put:3 tells:2 count:1";
    private static final Set<String> CONSTANTS =
        Set.of("BAD", "NOT", "FULL", "STALE", "STATE", "QUOTA", "VOID");
    private static final Set<String> WORDS = Set.of(
        "throw", "throws", "try", "catch", "finally", "synchronized", "assert", "import", "package", "lambda",
        "volatile", "transient", "native", "protected", "super", "System.exit");

    public static void main(String[] args) throws Exception {
        face();
        classesInside();
        words(Files.readString(SOURCE, StandardCharsets.UTF_8));
        methodLengths(Files.readAllLines(SOURCE, StandardCharsets.UTF_8));
        check.end("LanguageTest");
    }

    private static void holds(String rule, boolean kept) {
        check.due(rule, kept ? 1 : 0, 1);
    }

    private static void face() {
        Class<?> c = RegionHandles.class;
        holds("rule 1: public and final", Modifier.isPublic(c.getModifiers()) && Modifier.isFinal(c.getModifiers()));
        Set<String> open = new TreeSet<>();
        for (Method m : c.getDeclaredMethods()) {
            if (Modifier.isPrivate(m.getModifiers())) continue;
            open.add(m.getName() + ":" + m.getParameterCount());
            boolean ints = m.getReturnType() == int.class;
            for (Class<?> p : m.getParameterTypes()) ints &= p == int.class;
            holds("rule 1: " + m, ints && Modifier.isPublic(m.getModifiers()) && !Modifier.isStatic(m.getModifiers()));
        }
        holds("rule 1: the methods of the face", open.equals(new TreeSet<>(List.of(FACE.split(" ")))));
        Set<String> constants = new TreeSet<>();
        for (Field f : c.getDeclaredFields()) {
            if (Modifier.isPrivate(f.getModifiers())) continue;
            constants.add(f.getName());
            holds("rule 1: " + f, Modifier.isPublic(f.getModifiers()) && Modifier.isFinal(f.getModifiers()));
        }
        holds("rule 1: the constants of the face", constants.equals(CONSTANTS));
        Constructor<?>[] made = c.getDeclaredConstructors();
        holds("rule 1: one constructor", made.length == 1 && made[0].getParameterCount() == 0);
        holds("rule 1: a public one", Modifier.isPublic(made[0].getModifiers()));
        int[] values = {RegionHandles.BAD, RegionHandles.NOT, RegionHandles.FULL, RegionHandles.STALE,
            RegionHandles.STATE, RegionHandles.QUOTA};
        for (int i = 0; i < values.length; i++) check.due("constant " + i, values[i], -1 - i);
    }

    private static void classesInside() {
        List<Class<?>> all = new ArrayList<>(List.of(RegionHandles.class.getDeclaredClasses()));
        for (Class<?> c : all) {
            holds("rule 2: " + c, Modifier.isStatic(c.getModifiers()) && !Modifier.isPublic(c.getModifiers()));
        }
        all.add(RegionHandles.class);
        holds("rule 11: some twelve classes", all.size() <= 12);
        Set<String> publicNames = new TreeSet<>();
        for (String name : FACE.split(" ")) publicNames.add(name.replaceAll(":.*", ""));
        for (Class<?> c : all) {
            int fields = 0;
            for (Field f : c.getDeclaredFields()) {
                if (!Modifier.isStatic(f.getModifiers())) fields++;
                else holds("rule 5: " + f, Modifier.isFinal(f.getModifiers()));
            }
            holds("rule 11: fields of " + c, fields <= 20);
            for (Method m : c.getDeclaredMethods()) {
                holds("rule 11: parameters of " + m, m.getParameterCount() <= 7);
                if (Modifier.isPublic(m.getModifiers())) continue;
                holds("rule 1: name of " + m, !publicNames.contains(m.getName()));
                holds("rule 2: " + m, !m.isSynthetic());
            }
        }
    }

    private static void words(String source) {
        String code = source.replaceAll("(?s)/\\*.*?\\*/", "").replaceAll("//[^\n]*", "");
        Set<String> found = new TreeSet<>(List.of(code.split("[^A-Za-z.]+")));
        for (String word : WORDS) holds("rules 4, 6: no " + word, !found.contains(word));
        holds("rule 2: no lambda", !code.contains("->") && !code.contains("::"));
        holds("rule 11: no text is joined by +", !code.contains("\""));
        boolean plain = true;
        for (int i = 0; i < source.length(); i++) plain &= source.charAt(i) < 127;
        holds("rule 4: signs", plain);
        for (String line : code.split("\n")) {
            if (!line.contains("new ")) continue;
            holds("what is made is made with the object, for the room of a run: " + line.trim(),
                line.matches(" +(private )?(final )[A-Za-z\\[\\]]+ [A-Za-z]+ = new .*"));
        }
        for (String call : found) {
            if (!call.matches("(System|Math|Integer|Long|Arrays|String|Character|Thread)\\..*")) continue;
            holds("rule 4: " + call, call.matches("System\\.arraycopy|Math\\.(min|max)"));
        }
    }

    /** Counts from a line that opens a method to the brace in the same column. */
    private static void methodLengths(List<String> lines) {
        for (int i = 0; i < lines.size(); i++) {
            String line = lines.get(i);
            if (!line.matches(" +[A-Za-z].*\\) \\{") || line.matches(" +(if|for|while|switch|else) .*")) continue;
            String end = line.replaceAll("[^ ].*", "") + "}";
            int n = i;
            while (n < lines.size() && !lines.get(n).equals(end)) n++;
            holds("rule 11: lines of " + line.trim(), n - i < 60);
        }
    }
}
