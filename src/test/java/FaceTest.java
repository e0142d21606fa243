import java.lang.reflect.Constructor;
import java.lang.reflect.Field;
import java.lang.reflect.Method;
import java.lang.reflect.Modifier;
import java.nio.file.Files;
import java.nio.file.Path;
import java.util.Arrays;
import java.util.List;
import java.util.TreeSet;
import java.util.regex.Matcher;
import java.util.regex.Pattern;

/** The public face is the document's and no more, and the source keeps to the rules that a scan can see. */
public final class FaceTest {
    private static final List<String> METHODS = List.of(
            "int money(int,int)", "int set(int,int)", "int say(int)", "int wipe()", "int fault()",
            "int judge(int)", "int done()", "int debt(int,int,int)", "int due(int)", "int owes(int,int)",
            "int seen(int,int)", "int forget()", "int filled(int)", "int soon(int,int)", "int barred()",
            "int help(int)", "int whom()", "int ring(int)", "int setOff(int)", "int give(int,int,int)",
            "int pawn(int,int)", "long odds(int,int,int,int,int)", "int year(int,int,int)",
            "int image(int)", "int restore(int)", "int told(int)");
    private static final List<String> CONSTANTS = List.of("FULL", "LOST", "NO", "NONE", "OUTSIDE", "STATE", "UNKNOWN");

    public static void main(String[] args) throws Exception {
        face();
        insides();
        source(Files.readString(Path.of("src/main/java/LentPiles.java")));
        readme(Files.readString(Path.of("README.md")));
        Check.end("FaceTest");
    }

    private static String signature(Method m) {
        StringBuilder all = new StringBuilder(m.getReturnType() + " " + m.getName() + "(");
        for (Class<?> p : m.getParameterTypes()) {
            all.append(all.charAt(all.length() - 1) == '(' ? "" : ",").append(p);
        }
        return all.append(")").toString();
    }

    private static void face() {
        Class<LentPiles> face = LentPiles.class;
        Check.holds("public and final", face.getModifiers() == (Modifier.PUBLIC | Modifier.FINAL));
        TreeSet<String> methods = new TreeSet<>();
        for (Method m : face.getDeclaredMethods()) {
            if (!Modifier.isPrivate(m.getModifiers())) {
                methods.add(signature(m));
                Check.due(m + " is public alone", m.getModifiers(), Modifier.PUBLIC);
            }
        }
        Check.holds("methods " + methods, methods.equals(new TreeSet<>(METHODS)));
        TreeSet<String> constants = new TreeSet<>();
        for (Field f : face.getDeclaredFields()) {
            if (!Modifier.isPrivate(f.getModifiers())) {
                constants.add(f.getName());
                Check.due(f + " is a constant", f.getModifiers(),
                        Modifier.PUBLIC | Modifier.STATIC | Modifier.FINAL);
                Check.holds(f + " type", f.getType() == (f.getName().equals("LOST") ? long.class : int.class));
            }
        }
        Check.holds("constants " + constants, constants.equals(new TreeSet<>(CONSTANTS)));
        Constructor<?>[] made = face.getDeclaredConstructors();
        Check.holds("one constructor", made.length == 1 && made[0].getParameterCount() == 0
                && made[0].getModifiers() == Modifier.PUBLIC);
    }

    private static void insides() {
        TreeSet<String> names = new TreeSet<>();
        METHODS.forEach(m -> names.add(m.substring(m.indexOf(' ') + 1, m.indexOf('('))));
        Class<?>[] inside = LentPiles.class.getDeclaredClasses();
        Check.holds("classes", inside.length < 12);
        for (Class<?> c : inside) {
            Check.holds(c + " static and not seen", Modifier.isStatic(c.getModifiers())
                    && !Modifier.isPublic(c.getModifiers()) && !Modifier.isProtected(c.getModifiers()));
            Check.holds(c + " fields", Arrays.stream(c.getDeclaredFields())
                    .filter(f -> !Modifier.isStatic(f.getModifiers())).count() <= 20);
            for (Method m : c.getDeclaredMethods()) {
                Check.holds(m + " bears a name of the face", !names.contains(m.getName()));
            }
        }
    }

    private static void source(String text) {
        String code = text.replaceAll("(?s)/\\*.*?\\*/", "").replaceAll("//[^\n]*", "");
        for (String piece : List.of("->", "::", "Exact(", "System.out", "System.in", "hashCode", "Random", "Thread")) {
            Check.holds("no " + piece, !code.contains(piece));
        }
        for (String word : List.of("finally", "assert", "synchronized", "try", "catch", "throw", "double", "float",
                "package", "instanceof")) {
            Check.holds("no " + word, !Pattern.compile("\\b" + word + "\\b").matcher(code).find());
        }
        Matcher imports = Pattern.compile("import ([^;]*);").matcher(code);
        while (imports.find()) {
            Check.holds("import " + imports.group(1), imports.group(1).equals("java.util.Arrays"));
        }
        Check.holds("signs of the file", text.chars().allMatch(c -> c == '\n' || c >= 32 && c < 127));
        int begun = 0;
        String[] lines = text.split("\n");
        for (int i = 0; i < lines.length; i++) {
            if (lines[i].matches(" {4,8}[a-zA-Z].*\\) \\{")) {
                begun = i;
            }
            if (lines[i].matches(" {4,8}\\}") && begun > 0) {
                Check.holds("length of the method at line " + (begun + 1), i - begun < 60);
                begun = 0;
            }
        }
    }

    /** README.md names each call, and its example answers as it says. */
    private static void readme(String text) {
        for (String method : METHODS) {
            String name = method.substring(method.indexOf(' ') + 1, method.indexOf('(') + 1);
            Check.holds("README names " + name, text.contains("`" + name));
        }
        LentPiles x = new LentPiles();
        Check.pad(x, "A>B5C>B7.");
        Check.due("README fault", x.fault(), LentPiles.NONE);
        Check.due("README judge", x.judge(0), LentPiles.NONE);
        Check.due("README done", x.done(), 3);
        Check.due("README due", x.due(1), 1);
        Check.due("README soon", x.soon(1, 0), 2);
        Check.due("README pawn", x.pawn(1, 0), 12);
    }
}
