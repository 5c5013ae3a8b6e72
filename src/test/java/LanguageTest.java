import java.io.IOException;
import java.lang.reflect.Constructor;
import java.lang.reflect.Field;
import java.lang.reflect.Member;
import java.lang.reflect.Method;
import java.lang.reflect.Modifier;
import java.nio.charset.StandardCharsets;
import java.nio.file.Files;
import java.nio.file.Path;
import java.util.ArrayList;
import java.util.HashSet;
import java.util.List;
import java.util.Set;
import java.util.TreeSet;
import java.util.regex.Matcher;
import java.util.regex.Pattern;

/** What can be seen from outside of the rules of LANGUAGE.md, and the public face. Runs where src/ is. */
public final class LanguageTest {
    private static int wrong;

    public static void main(String[] args) throws IOException {
        String source = Files.readString(Path.of("src/main/java/FaceRows.java"), StandardCharsets.US_ASCII);
        String code = source.replaceAll("(?s)/\\*.*?\\*/", "").replaceAll("//[^\n]*", "");
        words(code);
        members();
        lengths(code);
        System.out.println("LanguageTest: " + wrong + " wrong");
        if (wrong != 0) {
            System.exit(1);
        }
    }

    private static void must(boolean so, String what) {
        if (!so) {
            wrong++;
            System.out.println(what);
        }
    }

    private static void words(String code) {
        String bare = code.replaceAll("\"[^\"\n]*\"", "\"\"").replaceAll("'[^'\n]'", "' '");
        String[] forbidden = {"throw", "throws", "try", "catch", "finally", "synchronized", "assert", "record", "float",
            "double", "Object", "hashCode", "toString", "package", "var", "yield", "volatile", "System\\.(?!arraycopy)"};
        for (String word : forbidden) {
            must(!Pattern.compile("\\b" + word + (word.endsWith(")") ? "" : "\\b")).matcher(bare).find(), "rule 2, 4 or 6: " + word);
        }
        must(!bare.contains("->") && !bare.contains("::"), "rule 2: a lambda or a method reference");
        must(!bare.contains("\" +") && !bare.contains("+ \""), "rule 10: texts joined by +");
        Matcher imports = Pattern.compile("import ([^;]+);").matcher(bare);
        while (imports.find()) {
            must(imports.group(1).equals("java.util.Arrays"), "rule 4: " + imports.group(1));
        }
        Matcher made = Pattern.compile("\n( +)[^\n]*\\bnew [A-Z]").matcher(bare);
        while (made.find()) {
            must(made.group(1).length() <= 16, "an object made deep inside");
        }
    }

    private static void members() {
        Set<String> open = new HashSet<>();
        for (Method m : FaceRows.class.getDeclaredMethods()) {
            if (Modifier.isPublic(m.getModifiers())) {
                open.add(m.getName());
            }
        }
        String face = "face number type put clear feed end text fault days witness memory far odds show showing praise sure "
            + "together known bred score mock fillers world tried way replayed spoilt both look";
        must(new TreeSet<>(open).equals(new TreeSet<>(List.of(face.split(" ")))), "rule 1: the face is not the document's: " + open);
        List<Class<?>> all = new ArrayList<>(List.of(FaceRows.class.getDeclaredClasses()));
        must(all.size() <= 12, "rule 11: classes");
        for (Class<?> inside : all) {
            must(Modifier.isStatic(inside.getModifiers()) && !Modifier.isPublic(inside.getModifiers()), "rule 2: " + inside);
            for (Method m : inside.getDeclaredMethods()) {
                must(!open.contains(m.getName()), "rule 1: " + m);
            }
        }
        all.add(FaceRows.class);
        for (Class<?> one : all) {
            oneClass(one, open);
        }
        Constructor<?>[] constructors = FaceRows.class.getDeclaredConstructors();
        must(constructors.length == 1 && constructors[0].getParameterCount() == 0, "rule 1: the constructor");
        must(Modifier.isPublic(constructors[0].getModifiers()) && Modifier.isFinal(FaceRows.class.getModifiers()), "rule 1: public, final");
    }

    private static void oneClass(Class<?> one, Set<String> open) {
        int fields = 0;
        for (Field f : one.getDeclaredFields()) {
            fields += Modifier.isStatic(f.getModifiers()) ? 0 : 1;
            must(!Modifier.isStatic(f.getModifiers()) || Modifier.isFinal(f.getModifiers()), "rule 5: " + f);
            must(isPrivate(f) || f.getName().equals("NONE"), "rule 1: " + f);
        }
        must(fields <= 20, "rule 11: fields of " + one);
        for (Method m : one.getDeclaredMethods()) {
            boolean isFace = one == FaceRows.class && Modifier.isPublic(m.getModifiers());
            must(isPrivate(m) || isFace, "rule 1: " + m);
            must(!isPrivate(m) || !open.contains(m.getName()), "rule 1: " + m);
            must(m.getParameterCount() <= 7 || isFace, "rule 11: " + m);
        }
    }

    private static boolean isPrivate(Member m) {
        return Modifier.isPrivate(m.getModifiers());
    }

    private static void lengths(String code) {
        int start = 0;
        String[] lines = code.split("\n");
        for (int i = 0; i < lines.length; i++) {
            if (lines[i].matches("( {4}| {8})[a-z][^;=]*\\) \\{")) {
                start = i;
            }
            must(i - start <= 60 || !lines[i].matches("( {4}| {8})\\}"), "rule 11: a method of " + (i - start) + " lines, line " + (i + 1));
        }
    }
}
