import java.io.IOException;
import java.lang.reflect.Field;
import java.lang.reflect.Method;
import java.lang.reflect.Modifier;
import java.nio.file.Files;
import java.nio.file.Path;
import java.util.Arrays;
import java.util.Set;
import java.util.TreeSet;
import java.util.regex.Matcher;
import java.util.regex.Pattern;

/** The face of the class, and those rules of LANGUAGE.md that can be seen from its text and its members. */
public final class RulesTest {
    private static final Due due = new Due();
    private static final String FACE = "scent/2 told/2 as/2 turns/2 pace/2 hide/3 nose/2 word/1 wordOf/1 deal/1 seed/1 "
        + "cloth/0 strength/2 loses/2 dab/3 warm/2 touch/2 days/1 smells/2 says/2 behind/3 first/3 lasts/4 whispers/3 "
        + "dumb/2 secret/2 least/4 letter/4 dated/4 price/1 lie/1 feed/3 trim/1 text/0 textTold/2 why/1 sheet/3 mark/3 "
        + "pour/2 copy/5 lay/3 ask/2 item/2 rest/2 tell/1 check/2 keep/0 back/0 count/1";
    private static final String CONSTANTS = "BAD NO FULL NONE NOTHING KIND INDEX SIZE";

    public static void main(String[] args) throws IOException, IllegalAccessException {
        face();
        constants();
        nested();
        text();
        due.end();
    }

    private static void face() {
        Set<String> names = new TreeSet<>();
        for (Method m : ScentCloth.class.getDeclaredMethods()) {
            if (Modifier.isPrivate(m.getModifiers())) {
                continue;
            }
            names.add(m.getName() + "/" + m.getParameterCount());
            boolean plain = m.getModifiers() == Modifier.PUBLIC && m.getReturnType() == int.class
                && Arrays.stream(m.getParameterTypes()).allMatch(t -> t == int.class);
            due.holds(m.getName() + " is public and over ints", plain);
        }
        due.holds("the methods are the document's: " + names, names.equals(new TreeSet<>(Arrays.asList(FACE.split(" ")))));
        due.is("one constructor", ScentCloth.class.getDeclaredConstructors().length, 1);
        due.is("public, without arguments", ScentCloth.class.getConstructors()[0].getParameterCount(), 0);
        due.holds("the class is public and final", ScentCloth.class.getModifiers() == (Modifier.PUBLIC | Modifier.FINAL));
    }

    private static void constants() throws IllegalAccessException {
        Set<String> names = new TreeSet<>();
        for (Field f : ScentCloth.class.getDeclaredFields()) {
            if (Modifier.isPublic(f.getModifiers())) {
                names.add(f.getName());
            } else {
                due.holds("field " + f.getName() + " is private", Modifier.isPrivate(f.getModifiers()));
            }
        }
        due.holds("the constants are the document's: " + names, names.equals(new TreeSet<>(Arrays.asList(CONSTANTS.split(" ")))));
        int[] values = {Due.BAD, Due.NO, Due.FULL, Due.NONE, Due.NOTHING, Due.KIND, Due.INDEX, Due.SIZE};
        int[] got = {ScentCloth.BAD, ScentCloth.NO, ScentCloth.FULL, ScentCloth.NONE, ScentCloth.NOTHING, ScentCloth.KIND,
            ScentCloth.INDEX, ScentCloth.SIZE};
        due.holds("the constants' values", Arrays.equals(values, got));
    }

    private static void nested() {
        due.holds("at most twelve classes", ScentCloth.class.getDeclaredClasses().length < 12);
        members(ScentCloth.class);
        for (Class<?> inside : ScentCloth.class.getDeclaredClasses()) {
            due.holds(inside + " is static", Modifier.isStatic(inside.getModifiers()));
            due.holds(inside + " is not public", !Modifier.isPublic(inside.getModifiers()));
            members(inside);
        }
    }

    private static void members(Class<?> of) {
        int own = 0;
        for (Field f : of.getDeclaredFields()) {
            boolean fixed = Modifier.isStatic(f.getModifiers());
            own += fixed ? 0 : 1;
            due.holds(f + " is final if static", !fixed || Modifier.isFinal(f.getModifiers()));
        }
        due.holds(of + " has at most twenty fields", own <= 20);
        for (Method m : of.getDeclaredMethods()) {
            due.holds(m + " has at most seven parameters", m.getParameterCount() <= 7);
            boolean onFace = Pattern.compile("\\b" + m.getName() + "/").matcher(FACE).find();
            due.holds(m + " bears a name of the face", !onFace || Modifier.isPublic(m.getModifiers()));
        }
    }

    private static void text() throws IOException {
        String code = Files.readString(Path.of("src/main/java/ScentCloth.java"))
            .replaceAll("(?s)/\\*.*?\\*/", "").replaceAll("//[^\n]*", "").replaceAll("\"[^\"\n]*\"", "\"\"");
        String[] forbidden = {"throw", "throws", "try", "catch", "synchronized", "assert", "package", "var", "volatile",
            "native", "hashCode", "toString", "float", "double", "NaN", "Exception", "Object", "System\\.(?!arraycopy)"};
        for (String word : forbidden) {
            Matcher m = Pattern.compile("\\b" + word + (word.endsWith(")") ? "" : "\\b")).matcher(code);
            due.holds("no " + word, !m.find());
        }
        due.holds("no lambda, no method reference", !code.contains("->") && !code.contains("::"));
        Matcher imports = Pattern.compile("import ([\\w.*]+);").matcher(code);
        while (imports.find()) {
            due.holds("import " + imports.group(1), imports.group(1).equals("java.util.Arrays"));
        }
        due.holds("signs 1 to 127 alone", code.chars().allMatch(c -> c > 0 && c < 128));
        lengths(code.split("\n"));
    }

    /** Methods stand by their indent here: a head that ends in {, and the } below it. */
    private static void lengths(String[] lines) {
        Pattern head = Pattern.compile("( {4}| {8})[a-zA-Z][^=;]*\\) \\{");
        for (int i = 0; i < lines.length; i++) {
            Matcher m = head.matcher(lines[i]);
            if (!m.matches()) {
                continue;
            }
            int end = i;
            while (!lines[end].equals(m.group(1) + "}")) {
                end++;
            }
            due.holds("at most sixty lines:" + lines[i], end - i <= 60);
            boolean makes = String.join("\n", Arrays.copyOfRange(lines, i, end)).contains("new ");
            due.holds("rows are made by constructors alone:" + lines[i], !makes || lines[i].contains("public ScentCloth()"));
        }
    }
}
