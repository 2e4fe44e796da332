import java.io.IOException;
import java.lang.reflect.Constructor;
import java.lang.reflect.Field;
import java.lang.reflect.Method;
import java.lang.reflect.Modifier;
import java.nio.file.Files;
import java.nio.file.Path;
import java.util.ArrayList;
import java.util.List;
import java.util.Set;
import java.util.TreeSet;
import java.util.regex.Matcher;
import java.util.regex.Pattern;

/** The face is the document's and no more, and the source keeps to the rules that can be seen in it. */
public final class FaceTest {
    private static final String FACE = "int cell(int,int);int print(int,int,int);int reach(int);int tide();int walker(int,int);"
        + "int of(int,int);int change(int,int,int);int go(int);int now(int);int line(int);int ahead(int,int,int);"
        + "int work(int,int);int when(int,int);int gone(int);int meet(int,int);int strideFor(int,int);int start(int,int);"
        + "int kindFor(int,int);int reachFor(int,int);int weightFor(int,int,int);int away(int,int);int censor(int);"
        + "int fits(int,int,int);int strode(int,int,int);int kinds(int,int,int);int tides(int);long odds(int,int,int);"
        + "int seed(int);int feed(int,int);int wipe();int text();int hold(int,int);int as(int,int);int sheet(int,int,int);"
        + "int write(int,int,int);int copy(int,int,int,int,int);int load(int);int judge(int);int image();int undo();"
        + "int tear();int count(int);int status(int)";

    private static int wrong = 0;

    private static void due(String what, Object got, Object want) {
        if (!got.equals(want)) {
            wrong++;
            System.out.println(what + ": " + got + ", due is " + want);
        }
    }

    private static String signature(Method m) {
        List<String> types = new ArrayList<>();
        for (Class<?> type : m.getParameterTypes()) {
            types.add(type.getName());
        }
        return m.getReturnType().getName() + " " + m.getName() + "(" + String.join(",", types) + ")";
    }

    private static void lookAtFace() {
        Class<?> c = PrintShore.class;
        due("the class is public and final", c.getModifiers() & (Modifier.PUBLIC | Modifier.FINAL),
            Modifier.PUBLIC | Modifier.FINAL);
        Set<String> seen = new TreeSet<>();
        Set<String> faceNames = new TreeSet<>();
        for (Method m : c.getDeclaredMethods()) {
            if (Modifier.isPublic(m.getModifiers())) {
                seen.add(signature(m));
                faceNames.add(m.getName());
                due(m.getName() + " is no static method", Modifier.isStatic(m.getModifiers()), false);
            }
        }
        due("the methods of the face", seen, new TreeSet<>(List.of(FACE.split(";"))));
        for (Method m : c.getDeclaredMethods()) {
            boolean face = Modifier.isPublic(m.getModifiers());
            due(m.getName() + " is private or of the face", face || Modifier.isPrivate(m.getModifiers()), true);
            due(m.getName() + " bears no name of the face", !face && faceNames.contains(m.getName()), false);
        }
        for (Field f : c.getDeclaredFields()) {
            due(f.getName() + " is private", Modifier.isPrivate(f.getModifiers()), true);
        }
        Constructor<?>[] made = c.getDeclaredConstructors();
        due("one constructor", made.length, 1);
        due("it takes nothing", made[0].getParameterCount(), 0);
        for (Class<?> inside : c.getDeclaredClasses()) {
            due(inside.getName() + " is static", Modifier.isStatic(inside.getModifiers()), true);
            for (Method m : inside.getDeclaredMethods()) {
                due(inside.getName() + "." + m.getName() + " bears no name of the face",
                    faceNames.contains(m.getName()), false);
            }
        }
    }

    private static void lookAtSource() throws IOException {
        String source = Files.readString(Path.of("src/main/java/PrintShore.java"));
        String code = source.replaceAll("(?s)/\\*.*?\\*/", " ").replaceAll("//[^\n]*", " ").replaceAll("\"[^\"]*\"", "\"\"");
        String[] refused = {"\\bthrow\\b", "\\btry\\b", "\\bcatch\\b", "\\bsynchronized\\b", "\\bassert\\b", "->", "::",
            "\\bimport\\b", "\\bpackage\\b", "\\bprotected\\b", "Exact\\b", "\\bdouble\\b", "\\bfloat\\b", "\\bstatic *\\{"};
        for (String word : refused) {
            Matcher m = Pattern.compile(word).matcher(code);
            due("'" + word + "' stands in the source", m.find(), false);
        }
        Matcher library = Pattern.compile("\\b(System|Integer|Math|Arrays|Long)\\.(\\w+)").matcher(code);
        Set<String> allowed = Set.of("System.arraycopy", "Integer.bitCount", "Integer.numberOfTrailingZeros",
            "Math.min", "Math.max");
        while (library.find()) {
            due("library " + library.group(), allowed.contains(library.group()), true);
        }
        due("only signs of 1 to 127", source.chars().allMatch(sign -> sign >= 1 && sign <= 127), true);
    }

    public static void main(String[] args) throws IOException {
        lookAtFace();
        lookAtSource();
        System.out.println(wrong == 0 ? "the face is as due" : wrong + " faults of the face");
        if (wrong != 0) {
            System.exit(1);
        }
    }
}
