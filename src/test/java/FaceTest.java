import java.lang.reflect.Constructor;
import java.lang.reflect.Field;
import java.lang.reflect.Method;
import java.lang.reflect.Modifier;
import java.nio.file.Files;
import java.nio.file.Path;
import java.util.Arrays;
import java.util.TreeSet;
import java.util.regex.Matcher;
import java.util.regex.Pattern;

/** The class has the document's face and no more, and its file keeps to the rules of the language. */
public final class FaceTest {
    private static final String[] FACE = {
        "int alone(int,int,int)", "int calm()", "int cheapest(int,int)", "int clash(int)",
        "int copy(int)", "int count(int)", "int custom(int,int)", "int cut(int)",
        "int drought(int,int)", "int dwellings(int)", "int even()", "int fault(int)",
        "int feed(int,int,int,int,int)", "int house(int,int)", "int image(int)",
        "int judge(int,int)", "int land(int)", "int lifts(int,int)", "int live(int)",
        "int loss(int,int)", "int mate(int)", "int neighbours(int)", "int numbers(int,int,int)",
        "int parted()", "int pass()", "int perform(int)", "int pull(int,int)", "int pulled(int)",
        "int restore(int)", "int rests()", "int ring()", "int rope(int,int)", "int seen(int)",
        "int severs(int)", "int soonest(int,int)", "int stones(int,boolean,int)",
        "int together()", "long write(int,int,long)",
    };
    private static int wrong = 0;

    private static void due(String what, Object got, Object want) {
        if (!want.equals(got)) {
            wrong++;
            System.out.println(what + " is " + got + ", due is " + want);
        }
    }

    public static void main(String[] args) throws Exception {
        methods();
        rest();
        source();
        System.out.println(wrong == 0 ? "the face is as due" : wrong + " are not as due");
        if (wrong != 0) {
            System.exit(1);
        }
    }

    private static String signature(Method m) {
        StringBuilder sb = new StringBuilder();
        sb.append(m.getReturnType().getName()).append(' ').append(m.getName()).append('(');
        String comma = "";
        for (Class<?> c : m.getParameterTypes()) {
            sb.append(comma).append(c.getName());
            comma = ",";
        }
        return sb.append(')').toString();
    }

    private static void methods() {
        TreeSet<String> open = new TreeSet<>();
        TreeSet<String> names = new TreeSet<>();
        for (Method m : TwoWells.class.getDeclaredMethods()) {
            if (!Modifier.isPrivate(m.getModifiers())) {
                due(m.getName() + " public, not static", m.getModifiers(), Modifier.PUBLIC);
                open.add(signature(m));
                names.add(m.getName());
            }
        }
        due("methods", open, new TreeSet<>(Arrays.asList(FACE)));
        for (Method m : TwoWells.class.getDeclaredMethods()) {
            if (Modifier.isPrivate(m.getModifiers())) {
                due("a public one's name " + m.getName(), names.contains(m.getName()), false);
            }
        }
        for (Class<?> c : TwoWells.class.getDeclaredClasses()) {
            for (Method m : c.getDeclaredMethods()) {
                due("a public one's name " + c + m.getName(), names.contains(m.getName()), false);
                due("parameters of " + m, m.getParameterCount() <= 7, true);
            }
        }
    }

    private static void rest() throws Exception {
        due("NONE", TwoWells.NONE, -1);
        due("class", TwoWells.class.getModifiers(), Modifier.PUBLIC | Modifier.FINAL);
        Constructor<?>[] made = TwoWells.class.getDeclaredConstructors();
        due("constructors", made.length, 1);
        due("constructor", made[0].getParameterCount(), 0);
        due("constructor public", made[0].getModifiers(), Modifier.PUBLIC);
        for (Field f : TwoWells.class.getDeclaredFields()) {
            boolean open = !Modifier.isPrivate(f.getModifiers());
            due("open field " + f.getName(), open, f.getName().equals("NONE"));
        }
        for (Class<?> c : TwoWells.class.getDeclaredClasses()) {
            due(c + " static", Modifier.isStatic(c.getModifiers()), true);
            due(c + " private", Modifier.isPrivate(c.getModifiers()), true);
        }
        due("classes", TwoWells.class.getDeclaredClasses().length <= 11, true);
    }

    private static void source() throws Exception {
        String text = Files.readString(Path.of("src/main/java/TwoWells.java"));
        String[] barred = {
            "\\bthrow\\b", "\\bthrows\\b", "\\btry\\b", "\\bcatch\\b", "\\bassert\\b",
            "\\bsynchronized\\b", "->", "::", "\\bSystem\\.(?!arraycopy\\b)", "^package\\b",
            "^import (?!java\\.util\\.Arrays;)", "Exact\\b", "\\bjava\\.(?!util\\.Arrays;)",
            "[^\\x00-\\x7f]", "\\b(Integer|Long|Math)\\.[A-Z]",
        };
        for (String b : barred) {
            Matcher m = Pattern.compile(b, Pattern.MULTILINE).matcher(text);
            due("outside the rules: " + b, m.find(), false);
        }
    }
}
