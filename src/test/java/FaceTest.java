import java.io.IOException;
import java.lang.reflect.Field;
import java.lang.reflect.Method;
import java.lang.reflect.Modifier;
import java.nio.file.Files;
import java.nio.file.Path;
import java.util.Set;
import java.util.TreeSet;
import java.util.regex.Pattern;

/** The face of the class as the document has it, and the rules of LANGUAGE.md that can be looked up. */
public final class FaceTest {
    private static final String[] FACE = {
        "void sheet(int,int) IllegalArgumentException",
        "int feed(int,int,int,int,int)",
        "int way(int) IllegalArgumentException",
        "int law(int) IllegalArgumentException",
        "int fault(int)",
        "int fold(int,int) NoSuchElementException",
        "int breaks(int) NoSuchElementException",
        "int make(int,int) NoSuchElementException,IllegalStateException,IllegalArgumentException",
        "int layers(int,int,int) NoSuchElementException,IllegalStateException",
        "int fly(int,int,int,int,int) NoSuchElementException,IllegalStateException,IllegalArgumentException",
        "int at(int,int,int,int,int,int) NoSuchElementException,IllegalStateException,IllegalArgumentException",
        "int draught(int,int,int) IllegalArgumentException",
        "int crate(int,int) IllegalArgumentException",
        "int still()",
        "int damp(int) IllegalArgumentException",
        "int slant(int,int,int,boolean) NoSuchElementException,IllegalStateException,IllegalArgumentException",
        "int rest(int,int,int) NoSuchElementException,IllegalStateException,IllegalArgumentException",
        "int why(int,int) NoSuchElementException,IllegalStateException,IllegalArgumentException",
        "int hand()",
        "int toss(int,int,int,int) NoSuchElementException,IllegalArgumentException",
        "long reach(int,int,int,boolean) NoSuchElementException,IllegalStateException,IllegalArgumentException",
        "int ears(int,int,boolean) NoSuchElementException,IllegalStateException",
        "int best(int,boolean) NoSuchElementException",
        "long change(int,int,int,boolean,int) NoSuchElementException,IllegalStateException,IllegalArgumentException",
        "int mend(int,int,int,boolean) NoSuchElementException,IllegalStateException,IllegalArgumentException",
        "boolean hoop(int,int,int,int,int,int,int) NoSuchElementException,IllegalStateException,IllegalArgumentException",
        "long odds(int,int,int,int,int,int,int) NoSuchElementException,IllegalStateException,IllegalArgumentException",
        "int enter(int,int,int) NoSuchElementException,IllegalArgumentException",
        "long wins(int) NoSuchElementException",
        "int hours(int,int,int,boolean,long) NoSuchElementException,IllegalStateException,IllegalArgumentException",
        "int seen(int,int,int,int,int) NoSuchElementException,IllegalStateException,IllegalArgumentException",
        "int found(int,int,int)",
        "void tray(int,int,int) NoSuchElementException,IllegalArgumentException",
        "long write(int,int,long) NoSuchElementException,IllegalStateException,IndexOutOfBoundsException",
        "int take(int,int) NoSuchElementException,IllegalStateException,IndexOutOfBoundsException,IllegalArgumentException",
        "void image(int) NoSuchElementException",
        "void restore(int) NoSuchElementException,IllegalStateException",
        "int count(int)",
    };

    private static final Check check = new Check();

    public static void main(String[] args) throws IOException {
        face();
        rules();
        check.end();
    }

    private static void face() {
        Set<String> want = new TreeSet<>(Set.of(FACE));
        Set<String> got = new TreeSet<>();
        Set<String> open = new TreeSet<>();
        Set<String> hidden = new TreeSet<>();
        for (Method m : DartHangar.class.getDeclaredMethods()) {
            if (Modifier.isPublic(m.getModifiers())) {
                got.add(told(m));
                open.add(m.getName());
            } else {
                check.due(true, Modifier.isPrivate(m.getModifiers()), m.getName() + " is private");
                hidden.add(m.getName());
            }
        }
        for (String one : want) {
            check.due(true, got.contains(one), "there is " + one);
        }
        for (String one : got) {
            check.due(true, want.contains(one), "the document has " + one);
        }
        hidden.retainAll(open);
        check.due(0, hidden.size(), "private methods with a public one's name");
        check.due(true, Modifier.isFinal(DartHangar.class.getModifiers()), "the class is final");
        for (Field f : DartHangar.class.getDeclaredFields()) {
            boolean none = f.getName().equals("NONE");
            check.due(none, Modifier.isPublic(f.getModifiers()), f.getName() + " is public");
            check.due(!none, Modifier.isPrivate(f.getModifiers()), f.getName() + " is private");
            if (Modifier.isStatic(f.getModifiers())) {
                check.due(true, Modifier.isFinal(f.getModifiers()), f.getName() + " is final");
            }
        }
        for (Class<?> inner : DartHangar.class.getDeclaredClasses()) {
            check.due(true, Modifier.isPrivate(inner.getModifiers()) && Modifier.isStatic(inner.getModifiers()), inner.getName() + " is private and static");
        }
        check.due(true, DartHangar.class.getDeclaredClasses().length <= 11, "at most twelve classes");
        small(DartHangar.class);
        for (Class<?> inner : DartHangar.class.getDeclaredClasses()) {
            small(inner);
        }
    }

    /** At most seven parameters a method, some twenty fields a class beside its constants. */
    private static void small(Class<?> one) {
        int fields = 0;
        for (Field f : one.getDeclaredFields()) {
            fields += Modifier.isStatic(f.getModifiers()) ? 0 : 1;
        }
        check.due(true, fields <= 20, one.getName() + " has few fields (" + fields + ")");
        for (Method m : one.getDeclaredMethods()) {
            check.due(true, m.getParameterCount() <= 7, m.getName() + " has few parameters");
        }
    }

    private static String told(Method m) {
        StringBuilder text = new StringBuilder();
        text.append(m.getReturnType().getSimpleName()).append(' ').append(m.getName()).append('(');
        for (int i = 0; i < m.getParameterCount(); i++) {
            text.append(i > 0 ? "," : "").append(m.getParameterTypes()[i].getSimpleName());
        }
        text.append(')');
        for (int i = 0; i < m.getExceptionTypes().length; i++) {
            text.append(i > 0 ? "," : " ").append(m.getExceptionTypes()[i].getSimpleName());
        }
        return text.toString();
    }

    private static void rules() throws IOException {
        String source = Files.readString(Path.of("src/main/java/DartHangar.java"));
        String code = source.replaceAll("(?s)/\\*.*?\\*/", "").replaceAll("//[^\n]*", "");
        String[] refused = {"->", "::", "\\btry\\b", "\\bcatch\\b", "\\bfinally\\b", "\\bsynchronized\\b", "\\bassert\\b", "\\binstanceof\\b",
            "Exact\\b", "\\bdouble\\b", "\\bfloat\\b", "\\bMath\\.(?!abs|max|min\\b)", "\\bSystem\\.(?!arraycopy\\b)", "\\bString\\.", "\\bpackage\\b",
            "\\bimport (?!java\\.util\\.NoSuchElementException;)", "\\bwhile \\(true\\)", "\\bprotected\\b", "\\bvolatile\\b", "\\btransient\\b"};
        for (String one : refused) {
            check.due(false, Pattern.compile(one).matcher(code).find(), "the source has " + one);
        }
        for (char sign : source.toCharArray()) {
            if (sign > 126 || sign < 32 && sign != '\n') {
                check.due(32, sign, "a sign of the source");
            }
        }
    }
}
