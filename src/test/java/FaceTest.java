import java.lang.reflect.Constructor;
import java.lang.reflect.Executable;
import java.lang.reflect.Field;
import java.lang.reflect.Method;
import java.lang.reflect.Modifier;
import java.util.List;
import java.util.StringJoiner;
import java.util.TreeSet;

/** "The public face" of the document: the class has just that, word by word. */
final class FaceTest {
    public static void main(String[] args) {
        List<Texts.Block> blocks = Texts.blocks(Texts.part("The public face"));
        Checks.due("blocks of the face", 1, blocks.size());
        String source = Texts.read(Texts.CLASS);
        TreeSet<String> due = new TreeSet<>();
        for (String line : blocks.get(0).text().split("\n")) {
            String words = line.strip();
            if (words.endsWith(";")) {
                due.add(withoutNames(words.substring(0, words.length() - 1)));
                Checks.due("stands in the source: " + words, true, source.contains("\n    " + words.replace(";", " {") + "\n"));
            }
        }
        Checks.due("members of the face", 25, due.size());
        Checks.due("the face", String.join("\n", due), String.join("\n", seen()));
        Checks.due("the class", "public final", Modifier.toString(PastWatch.class.getModifiers()));
        Checks.due("the class above", Object.class, PastWatch.class.getSuperclass());
        Checks.due("interfaces", 0, PastWatch.class.getInterfaces().length);
        for (Class<?> inner : PastWatch.class.getDeclaredClasses()) {
            int modifiers = inner.getModifiers();
            Checks.due(inner + " is static", true, Modifier.isStatic(modifiers));
            Checks.due(inner + " cannot be seen outside", false, Modifier.isPublic(modifiers) || Modifier.isProtected(modifiers));
        }
        Checks.end("FaceTest");
    }

    /** All members that are not private. */
    private static TreeSet<String> seen() {
        TreeSet<String> seen = new TreeSet<>();
        for (Constructor<?> constructor : PastWatch.class.getDeclaredConstructors()) {
            addSeen(seen, constructor, "PastWatch");
        }
        for (Method method : PastWatch.class.getDeclaredMethods()) {
            addSeen(seen, method, method.getReturnType() + " " + method.getName());
        }
        for (Field field : PastWatch.class.getDeclaredFields()) {
            if (!Modifier.isPrivate(field.getModifiers())) {
                seen.add(field.toString());
            }
        }
        return seen;
    }

    private static void addSeen(TreeSet<String> seen, Executable member, String name) {
        if (Modifier.isPrivate(member.getModifiers()) || member.isSynthetic()) {
            return;
        }
        StringJoiner types = new StringJoiner(", ");
        for (Class<?> type : member.getParameterTypes()) {
            types.add(type.getSimpleName());
        }
        StringJoiner thrown = new StringJoiner(", ", " throws ", "").setEmptyValue("");
        for (Class<?> type : member.getExceptionTypes()) {
            thrown.add(type.getSimpleName());
        }
        seen.add(Modifier.toString(member.getModifiers()) + " " + name + "(" + types + ")" + thrown);
    }

    /** What reflection cannot tell: the names of the arguments. */
    private static String withoutNames(String words) {
        int open = words.indexOf('(');
        int close = words.indexOf(')');
        return words.substring(0, open) + words.substring(open, close).replaceAll("(\\w+) \\w+", "$1") + words.substring(close);
    }
}
