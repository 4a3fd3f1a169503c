import java.io.IOException;
import java.lang.reflect.Constructor;
import java.lang.reflect.Field;
import java.lang.reflect.Member;
import java.lang.reflect.Method;
import java.lang.reflect.Modifier;
import java.nio.file.Files;
import java.nio.file.Path;
import java.util.Set;
import java.util.TreeSet;

/** The class has the document's face and nothing more, and its source keeps to rules of LANGUAGE.md. */
public final class FaceTest {
    private static final Due DUE = new Due();

    private static final String FACE = "set(int,int) setKind(int,int) mark(int,boolean) write(int) read(int) forget(int) "
        + "moveBlock(int) pass(int) type(char) clearText() perform() refusal(int) undo() keep() restore() page(int,int) "
        + "block(int,int) place(int,int,int) marked(int) quietIn() erasure(int,int) count(int) setting(int)";

    private static final String[] FORBIDDEN = {
        "throw", "try", "catch", "synchronized", "assert", "->", "::", "import ", "package ", "Exact(", "toString",
        "hashCode", "System.out", "currentTimeMillis", "nanoTime", "Random", "Thread", "\" +", "+ \"", "protected "
    };

    public static void main(String[] args) throws IOException {
        members();
        source();
        DUE.end("FaceTest");
    }

    private static void members() {
        DUE.is("public and final", Modifier.PUBLIC | Modifier.FINAL, WeakenedPages.class.getModifiers());
        Set<String> methods = new TreeSet<>();
        Set<String> names = new TreeSet<>();
        for (Method method : WeakenedPages.class.getDeclaredMethods()) {
            if (Modifier.isPublic(method.getModifiers())) {
                StringBuilder shape = new StringBuilder(method.getName()).append('(');
                for (Class<?> type : method.getParameterTypes()) {
                    shape.append(shape.charAt(shape.length() - 1) == '(' ? "" : ",").append(type.getName());
                }
                methods.add(shape.append(')').toString());
                names.add(method.getName());
                DUE.is(method + " answers an int", 1, method.getReturnType() == int.class ? 1 : 0);
            }
        }
        DUE.same("the public methods", new TreeSet<>(Set.of(FACE.split(" "))).toString(), methods.toString());
        Set<String> constants = new TreeSet<>();
        for (Field field : WeakenedPages.class.getDeclaredFields()) {
            if (Modifier.isPublic(field.getModifiers())) {
                constants.add(field.getName());
            }
        }
        DUE.same("the constants", "[BAD_VALUE, FULL, NONE, NOT_POSSIBLE, UNKNOWN]", constants.toString());
        privateOrPublic(WeakenedPages.class.getDeclaredMethods());
        privateOrPublic(WeakenedPages.class.getDeclaredFields());
        Constructor<?>[] constructors = WeakenedPages.class.getDeclaredConstructors();
        DUE.is("one constructor", 1, constructors.length);
        DUE.is("without arguments", 0, constructors[0].getParameterCount());
        privateOrPublic(constructors);
        for (Class<?> inside : WeakenedPages.class.getDeclaredClasses()) {
            DUE.is(inside + " is static", 1, Modifier.isStatic(inside.getModifiers()) ? 1 : 0);
            DUE.is(inside + " is not public", 0, Modifier.isPublic(inside.getModifiers()) ? 1 : 0);
            for (Method method : inside.getDeclaredMethods()) {
                DUE.is(inside + "." + method.getName() + " bears no public name", 0, names.contains(method.getName()) ? 1 : 0);
            }
        }
    }

    private static void privateOrPublic(Member[] members) {
        for (Member member : members) {
            int modifiers = member.getModifiers();
            boolean fine = Modifier.isPrivate(modifiers) || Modifier.isPublic(modifiers);
            DUE.is(member + " is private or of the face", 1, fine ? 1 : 0);
        }
    }

    private static void source() throws IOException {
        String source = Files.readString(Path.of("src/main/java/WeakenedPages.java"));
        String code = source.replaceAll("(?s)/\\*.*?\\*/", "").replaceAll("//[^\n]*", "");
        for (String word : FORBIDDEN) {
            DUE.is("the source is without " + word, -1, code.indexOf(word));
        }
        for (int index = 0; index < source.length(); index++) {
            if (source.charAt(index) > 126) {
                DUE.is("the sign at " + index + " is plain", 126, source.charAt(index));
            }
        }
    }
}
