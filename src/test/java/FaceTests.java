import java.io.IOException;
import java.lang.reflect.Constructor;
import java.lang.reflect.Field;
import java.lang.reflect.Method;
import java.lang.reflect.Modifier;
import java.nio.charset.StandardCharsets;
import java.nio.file.Files;
import java.nio.file.Path;
import java.util.Arrays;
import java.util.Set;
import java.util.TreeSet;
import java.util.regex.Matcher;
import java.util.regex.Pattern;

/** The public face is the document's, and the source keeps to what of LANGUAGE.md can be looked up in it. */
public final class FaceTests {
    private static final String[] METHODS = {
        "int act(int,int,int)", "int again()", "int alterRow(int,int,int)", "int answer(int,boolean)",
        "int behind(int)", "int best(int)", "int clause(int)", "int common(int,int)", "int correct(int,int)",
        "int cut(int)", "int draw(int,int,int,int)", "int errs(int,int)", "int feed(long,int)", "int heap(int)",
        "int item(int,int,int)", "int judge()", "int keep()", "int life(int)", "int many(int)", "int next(int)",
        "int one(int,int)", "int paper(int,int,int,int,int,int)", "int paperOf(int,int)", "int person(int,int,int)",
        "int personOf(int,int)", "int prove(int)", "int put(int,int,int)", "int question(int,int,int)", "int read()",
        "int register(int,int,int,int)", "int rest(int,int)", "int roots(int)", "int round(int)", "int row(int,int)",
        "int sheet(int,int,int)", "int shelf(int,int,int)", "int span(int,int)", "int stands()", "int suspect(int)",
        "int taken(int,int)", "int takes(int)", "int trace(int)", "int truth(int,int)", "int valley(int,int,int)",
        "long all(int)", "long share(int,int,int)", "long weight(int,int)"};

    private static final Checks CHECKS = new Checks();

    public static void main(String[] args) throws IOException {
        face();
        source(new String(Files.readAllBytes(Path.of("src/main/java/ElderPapers.java")), StandardCharsets.ISO_8859_1));
        CHECKS.end("FaceTests");
    }

    private static void face() {
        Class<?> c = ElderPapers.class;
        CHECKS.isTrue("public and final", Modifier.isPublic(c.getModifiers()) && Modifier.isFinal(c.getModifiers()));
        CHECKS.due("constructors", c.getDeclaredConstructors().length, 1);
        for (Constructor<?> made : c.getDeclaredConstructors()) {
            CHECKS.isTrue("the constructor", Modifier.isPublic(made.getModifiers()) && made.getParameterCount() == 0);
        }
        Set<String> methods = new TreeSet<>();
        Set<String> names = new TreeSet<>();
        for (Method m : c.getDeclaredMethods()) {
            if (Modifier.isPrivate(m.getModifiers())) continue;
            methods.add(m.getReturnType() + " " + m.getName() + Arrays.toString(m.getParameterTypes())
                .replace(" ", "").replace('[', '(').replace(']', ')'));
            names.add(m.getName());
            CHECKS.isTrue(m + " is public and no static one",
                Modifier.isPublic(m.getModifiers()) && !Modifier.isStatic(m.getModifiers()));
        }
        for (String m : METHODS) CHECKS.isTrue(m, methods.remove(m));
        CHECKS.isTrue("no other methods " + methods, methods.isEmpty());
        Set<String> fields = new TreeSet<>();
        for (Field f : c.getDeclaredFields()) if (!Modifier.isPrivate(f.getModifiers())) fields.add(f.getName());
        CHECKS.isTrue("the constants " + fields, fields.equals(Set.of("BAD", "FULL", "NONE", "STATE")));
        CHECKS.due("BAD", ElderPapers.BAD, -1);
        CHECKS.due("FULL", ElderPapers.FULL, -2);
        CHECKS.due("NONE", ElderPapers.NONE, -3);
        CHECKS.due("STATE", ElderPapers.STATE, -4);
        members(c, names);
    }

    private static void members(Class<?> c, Set<String> names) {
        for (Class<?> inner : c.getDeclaredClasses()) {
            CHECKS.isTrue(inner + " is static", Modifier.isStatic(inner.getModifiers()));
            CHECKS.isTrue(inner + " is no public one", !Modifier.isPublic(inner.getModifiers()));
            members(inner, names);
            for (Method m : inner.getDeclaredMethods()) {
                CHECKS.isTrue(m + " bears no public one's name", !names.contains(m.getName()));
            }
        }
        for (Method m : c.getDeclaredMethods()) {
            CHECKS.isTrue(m + " takes seven at most", m.getParameterCount() <= 7);
            if (Modifier.isPrivate(m.getModifiers())) {
                CHECKS.isTrue(m + " bears no public one's name", !names.contains(m.getName()));
            }
        }
        for (Field f : c.getDeclaredFields()) {
            boolean isStatic = Modifier.isStatic(f.getModifiers());
            CHECKS.isTrue(f + " is final", !isStatic || Modifier.isFinal(f.getModifiers()));
        }
    }

    private static void source(String text) {
        String code = text.replaceAll("(?s)/\\*.*?\\*/", "").replaceAll("//[^\n]*", "");
        String[] words = {"throw", "throws", "try", "catch", "finally", "synchronized", "assert", "package", "protected",
            "System\\.(?!arraycopy)", "Random", "Thread", "Exact\\(", "hashCode", "toString", "->", "::", "static \\{"};
        for (String word : words) {
            boolean isWord = Character.isLetter(word.charAt(word.length() - 1));
            Matcher found = Pattern.compile("(?<![A-Za-z])" + word + (isWord ? "(?![A-Za-z])" : "")).matcher(code);
            CHECKS.isTrue("no " + word, !found.find());
        }
        Matcher imports = Pattern.compile("import ([^;]+);").matcher(code);
        while (imports.find()) {
            CHECKS.isTrue(imports.group(1), Set.of("java.util.Arrays", "java.util.ArrayList", "java.util.List",
                "java.util.Iterator").contains(imports.group(1)));
        }
        // What a call makes is counted: all is made where a constructor runs.
        for (String line : code.split("\n")) {
            if (!line.contains("new ")) continue;
            CHECKS.isTrue("made once: " + line.trim(), line.matches("        this\\.\\w+ = new .*")
                || line.matches(" +(private )?final [^()]+ = (new|\\{new) .*") || line.contains("    this."));
        }
        for (char sign : text.toCharArray()) if (sign > 126) CHECKS.isTrue("no sign above 126", false);
    }
}
