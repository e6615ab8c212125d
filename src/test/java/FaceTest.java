import java.lang.reflect.Constructor;
import java.lang.reflect.Field;
import java.lang.reflect.Method;
import java.lang.reflect.Modifier;
import java.nio.file.Files;
import java.nio.file.Path;
import java.util.Arrays;
import java.util.TreeSet;
import java.util.regex.Matcher;
import java.util.regex.Pattern;

/** The class has just the document's face, and its source keeps to the rules that can be searched for. */
public final class FaceTest {
    private static int wrong = 0;

    private static final String[] FACE = {
        "int write(int,long)", "int wipe()", "int fault()", "int lay()", "int face(int,int)",
        "int lies(int,int,int)", "int read(int,int,int)", "long more(int,int,int,int,int)",
        "int says(int,int,int)", "int controls(int,int,int)", "long heap(int,int,int,int,int,int)",
        "int most(int,int,int,int)", "int shares(int,int,int,int,int,int)", "int kin(int,int)",
        "int cooked(int,int,int)", "int count(int,int,int)", "int books(int,int,int,boolean)",
        "int ground(int,int,int,boolean)", "int sure(int,int)", "int leave(int,int)", "int blind(int,int)",
        "int slips(int,int,int)", "int lean(int)", "int right(int,int)", "int teeth(int)",
        "int eaten(int,int)", "int next()", "int keep()", "int back()", "int size(int)",
    };

    private static void check(boolean holds, String what) {
        if (!holds) {
            wrong++;
            System.out.println("not so: " + what);
        }
    }

    private static String shown(Method m) {
        StringBuilder b = new StringBuilder(m.getReturnType().getName()).append(' ').append(m.getName()).append('(');
        for (int i = 0; i < m.getParameterCount(); i++) {
            b.append(i == 0 ? "" : ",").append(m.getParameterTypes()[i].getName());
        }
        return b.append(')').toString();
    }

    private static void checkMembers() {
        Class<QuernGrains> c = QuernGrains.class;
        check(Modifier.isPublic(c.getModifiers()) && Modifier.isFinal(c.getModifiers()), "the class is public and final");
        TreeSet<String> open = new TreeSet<>();
        TreeSet<String> openNames = new TreeSet<>();
        for (Method m : c.getDeclaredMethods()) {
            if (!Modifier.isPrivate(m.getModifiers())) {
                check(Modifier.isPublic(m.getModifiers()) && !Modifier.isStatic(m.getModifiers()), m + " is public");
                open.add(shown(m));
                openNames.add(m.getName());
            }
        }
        check(open.equals(new TreeSet<>(Arrays.asList(FACE))), "the methods are those of the face: " + open);
        for (Method m : c.getDeclaredMethods()) {
            check(!Modifier.isPrivate(m.getModifiers()) || !openNames.contains(m.getName()), m + " has a name of its own");
        }
        Constructor<?>[] constructors = c.getDeclaredConstructors();
        check(constructors.length == 1 && constructors[0].getParameterCount() == 0
            && Modifier.isPublic(constructors[0].getModifiers()), "one constructor, public, without arguments");
        TreeSet<String> constants = new TreeSet<>();
        for (Field f : c.getDeclaredFields()) {
            if (!Modifier.isPrivate(f.getModifiers())) {
                constants.add(f.getName());
            }
        }
        check(constants.equals(new TreeSet<>(Arrays.asList("BAD", "NO", "FULL", "NONE"))), "the constants: " + constants);
        for (Class<?> inside : c.getDeclaredClasses()) {
            check(Modifier.isStatic(inside.getModifiers()), inside + " is static");
            for (Method m : inside.getDeclaredMethods()) {
                check(!openNames.contains(m.getName()), m + " has a name of its own");
            }
        }
        check(c.getDeclaredClasses().length <= 12, "twelve classes at most");
    }

    private static void checkSource() throws Exception {
        String source = Files.readString(Path.of("src/main/java/QuernGrains.java"));
        String code = source.replaceAll("(?s)/\\*.*?\\*/", "").replaceAll("//[^\n]*", "");
        String[] words = {"throw", "throws", "try", "catch", "finally", "synchronized", "assert", "package", "double",
            "float", "Random", "currentTimeMillis", "nanoTime", "Thread", "\\w+Exact"};
        for (String word : words) {
            check(!Pattern.compile("\\b" + word + "\\b").matcher(code).find(), "no " + word);
        }
        check(!code.contains("->") && !code.contains("::"), "no lambda, no method reference");
        Matcher imports = Pattern.compile("(?m)^import ([^;]*);").matcher(code);
        while (imports.find()) {
            check(imports.group(1).equals("java.util.Arrays"), "import " + imports.group(1));
        }
        for (char sign : source.toCharArray()) {
            check(sign < 128, "only signs below 128");
        }
    }

    public static void main(String[] args) throws Exception {
        checkMembers();
        checkSource();
        System.out.println(wrong == 0 ? "the face is as due" : wrong + " rows of the face are not as due");
        if (wrong != 0) {
            System.exit(1);
        }
    }
}
