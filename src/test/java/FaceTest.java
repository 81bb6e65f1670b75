import java.io.IOException;
import java.lang.reflect.Field;
import java.lang.reflect.Member;
import java.lang.reflect.Method;
import java.lang.reflect.Modifier;
import java.nio.charset.StandardCharsets;
import java.nio.file.Files;
import java.nio.file.Path;
import java.util.Arrays;
import java.util.List;
import java.util.TreeSet;

/** Promise 1, the constants, and what LANGUAGE.md says of the face and the words of the program. */
public final class FaceTest {
    private static final List<String> METHODS = List.of(
            "append(int)", "clearText()", "errorPosition()", "load()", "about(int)", "customerOf(int,int)",
            "ordered(int,int)", "away(int,int,int)", "isClosed(int,int)", "round(int)", "setting(int)",
            "due(int,int,int,int)", "customer(int,int)", "change(int,int,int)", "holiday(int,int,int)",
            "drop(int,int)", "close(int,int,boolean)", "swap(int,int)", "set(int,int)", "days(int)", "undo()",
            "why(int)", "creditIn(int,int)", "clearIn(int)", "leastOven(int)", "bestRound(int)",
            "runScript(int,long)", "simulate(long,int)", "save(int)", "restore(int)");
    private static final List<String> WORDS_LEFT_OUT = List.of(
            "import ", "package ", "->", "::", "try {", "catch (", "finally", "synchronized", "assert ", "Exact(",
            "static {", "equals(Object", "hashCode", "toString()", "var ");

    public static void main(String[] args) throws IOException {
        aNewObject();
        theFace();
        theWords();
        Checks.end();
    }

    private static void aNewObject() {
        LoafRounds x = new LoafRounds();
        Checks.same("NONE", LoafRounds.NONE, -1);
        for (int what = 0; what <= 12; what++) {
            Checks.same("about of a new object " + what, x.about(what), 0);
        }
        int[] settings = {30, 1, 2, 10, 3};
        for (int what = 0; what <= 4; what++) {
            Checks.same("setting of a new object " + what, x.setting(what), settings[what]);
        }
        for (int s = 0; s < 4; s++) {
            Checks.same("round of a new object " + s, x.round(s), s);
            for (int w = 0; w < 7; w++) {
                Checks.same("isClosed of a new object", x.isClosed(s, w), 0);
            }
        }
        Checks.same("the text of a new object", x.clearText(), 0);
        Checks.noPlace("customerOf of a new object", x, () -> x.customerOf(0, 0));
        Checks.noState("undo of a new object", x, x::undo);
        Checks.noState("restore of a new object", x, () -> x.restore(0));
        Checks.noState("restore of a new object", x, () -> x.restore(1));
    }

    private static void theFace() {
        Class<LoafRounds> face = LoafRounds.class;
        Checks.same("modifiers", face.getModifiers(), Modifier.PUBLIC | Modifier.FINAL);
        Checks.same("constructors", face.getDeclaredConstructors().length, 1);
        TreeSet<String> methods = new TreeSet<>();
        for (Method method : face.getDeclaredMethods()) {
            if (!Modifier.isPrivate(method.getModifiers())) {
                methods.add(told(method));
                Checks.same(told(method) + " answers an int", method.getReturnType().getName(), "int");
            } else {
                Checks.same(told(method) + " has a public method's name", bearsPublicName(method) ? 1 : 0, 0);
            }
        }
        Checks.same("methods", methods.toString(), new TreeSet<>(METHODS).toString());
        for (Field field : face.getDeclaredFields()) {
            boolean isConstant = field.getName().equals("NONE");
            Checks.same(field.getName() + " is private", isPrivate(field) ? 1 : 0, isConstant ? 0 : 1);
        }
        for (Class<?> inside : face.getDeclaredClasses()) {
            Checks.same(inside.getName() + " is static", Modifier.isStatic(inside.getModifiers()) ? 1 : 0, 1);
            for (Method method : inside.getDeclaredMethods()) {
                Checks.same(told(method) + " has a public method's name", bearsPublicName(method) ? 1 : 0, 0);
            }
        }
    }

    private static boolean isPrivate(Member member) {
        return Modifier.isPrivate(member.getModifiers());
    }

    private static boolean bearsPublicName(Method method) {
        return METHODS.stream().anyMatch(name -> name.startsWith(method.getName() + "("));
    }

    private static String told(Method method) {
        String types = Arrays.toString(
                Arrays.stream(method.getParameterTypes()).map(Class::getName).toArray(String[]::new));
        return method.getName() + "(" + types.substring(1, types.length() - 1).replace(" ", "") + ")";
    }

    private static void theWords() throws IOException {
        String source = Files.readString(Path.of("src/main/java/LoafRounds.java"), StandardCharsets.US_ASCII);
        for (String word : WORDS_LEFT_OUT) {
            Checks.same("the program's first '" + word + "'", source.indexOf(word), -1);
        }
    }
}
