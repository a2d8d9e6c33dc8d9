import java.lang.reflect.Constructor;
import java.lang.reflect.Field;
import java.lang.reflect.Method;
import java.lang.reflect.Modifier;
import java.nio.file.Files;
import java.nio.file.Path;
import java.util.Set;
import java.util.TreeSet;
import java.util.regex.Matcher;
import java.util.regex.Pattern;

/** The class shows just the document's face, and its text keeps clear of what LANGUAGE.md rules out. */
public final class FaceTest {
    private static final Set<String> FACE = Set.of(
        "int window(int,int)", "int lead(int,int,int,int)", "int undo()", "int count(int)", "int joint(int,int)",
        "int piece(int,int)", "int corner(int,int)", "int pane(int,int)", "long area(int)", "int touch(int,int)",
        "int at(int,int)", "int glass(int,int,int)", "int colours(int)", "int lack(int)", "int bits(int)",
        "int pick(int)", "int unpick()", "int sheets(int,int,boolean)", "int keep(int)", "int back(int)",
        "int alike(int)", "int rack(int,int)", "int as(int,int)", "int found(int)");
    private static final String[] RULED_OUT = {
        "throw", "try", "catch", "synchronized", "assert", "import", "package", "native", "volatile", "transient",
        "double", "float", "System\\.(?!arraycopy)\\w+", "\\w+Exact", "Random", "Thread", "Object", "hashCode",
        "->", "::", "new \\w+\\(\\) *\\{", "while \\(true\\)", "for \\(;;\\)", "protected", "var "};

    private static int wrong = 0;

    public static void main(String[] args) throws Exception {
        checkMembers();
        checkClassesInside();
        checkText(Files.readString(Path.of("src/main/java/GlazierBench.java")));
        System.out.println(wrong == 0 ? "the face is as due" : wrong + " faults of the face");
        System.exit(wrong == 0 ? 0 : 1);
    }

    private static void check(boolean holds, String fault) {
        if (!holds) {
            wrong++;
            System.out.println(fault);
        }
    }

    private static void checkMembers() {
        int flags = GlazierBench.class.getModifiers();
        check(Modifier.isPublic(flags) && Modifier.isFinal(flags), "the class is not public and final");
        Set<String> shown = new TreeSet<>();
        Set<String> names = new TreeSet<>();
        for (Method m : GlazierBench.class.getDeclaredMethods()) {
            if (Modifier.isPublic(m.getModifiers())) {
                shown.add(signature(m));
                names.add(m.getName());
            }
        }
        check(shown.equals(new TreeSet<>(FACE)), "the public methods are " + shown);
        for (Method m : GlazierBench.class.getDeclaredMethods()) {
            boolean isPublic = Modifier.isPublic(m.getModifiers());
            check(isPublic || m.isSynthetic() || Modifier.isPrivate(m.getModifiers()), m + " is not private");
            check(isPublic || !names.contains(m.getName()), m + " has the name of a public one");
        }
        for (Field f : GlazierBench.class.getDeclaredFields()) {
            check(Modifier.isPrivate(f.getModifiers()), f + " is not private");
            check(!Modifier.isStatic(f.getModifiers()) || Modifier.isFinal(f.getModifiers()), f + " is static and not final");
        }
        Constructor<?>[] makers = GlazierBench.class.getDeclaredConstructors();
        check(makers.length == 1 && makers[0].getParameterCount() == 0 && Modifier.isPublic(makers[0].getModifiers()),
            "the constructor is not the document's");
    }

    private static String signature(Method m) {
        StringBuilder text = new StringBuilder(m.getReturnType().getName()).append(' ').append(m.getName()).append('(');
        for (int i = 0; i < m.getParameterCount(); i++) {
            text.append(i == 0 ? "" : ",").append(m.getParameterTypes()[i].getName());
        }
        return text.append(')').toString();
    }

    private static void checkClassesInside() {
        Class<?>[] inside = GlazierBench.class.getDeclaredClasses();
        check(inside.length < 12, "there are " + (inside.length + 1) + " classes");
        for (Class<?> c : inside) {
            check(Modifier.isStatic(c.getModifiers()), c + " is not static");
            int held = 0;
            for (Field f : c.getDeclaredFields()) {
                held += Modifier.isStatic(f.getModifiers()) ? 0 : 1;
            }
            check(held <= 20, c + " has " + held + " fields");
            for (Method m : c.getDeclaredMethods()) {
                check(m.getParameterCount() <= 7, m + " takes too many parameters");
                check(FACE.stream().noneMatch(s -> s.contains(" " + m.getName() + "(")), m + " has the name of a public one");
            }
        }
    }

    private static void checkText(String text) {
        String code = text.replaceAll("(?s)/\\*.*?\\*/", " ").replaceAll("//[^\n]*", " ");
        for (String words : RULED_OUT) {
            String bound = Character.isLetter(words.charAt(0)) ? "\\b" : "";
            Matcher m = Pattern.compile(bound + words).matcher(code);
            check(!m.find(), "the text has what is ruled out: " + words);
        }
        check(text.chars().allMatch(c -> c < 256), "the text has characters above 255");
    }
}
