import java.lang.reflect.Constructor;
import java.lang.reflect.Field;
import java.lang.reflect.Method;
import java.lang.reflect.Modifier;
import java.util.Set;
import java.util.TreeSet;

/** The public face: what is there, and nothing else (LANGUAGE.md, rule 1). */
final class FaceTest {
    private static final String[] CONSTANTS = {
        "NONE=-1", "CARGO=0", "TANKER=1", "PASSENGER=2",
        "CLASS=0", "SAFETY=1", "RADIO=2", "LINE=3", "OIL=4",
        "LOW=0", "STANDARD=1", "HIGH=2", "INITIAL=0", "DETAILED=1", "EXPANDED=2",
        "UNLISTED=0", "WHITE=1", "GREY=2", "BLACK=3",
    };

    private static final String[] METHODS = {
        "int pass(int) A S", "int ship(int,int,int,int,int) I A S", "int changes(int,int,int) I",
        "boolean suspend(int,boolean) I", "int rule(int,int,int,int,int) A S",
        "int issue(int,int,int) I A S", "int endorse(int,int) I A S", "int calls(int,int) I S",
        "boolean leaves(int) I S", "int visit(int) I S", "int finds(int,int,int) I A S",
        "int mends(int,int,boolean) I S", "int detain(int) I S", "int release(int) I S",
        "void appeal(int) I S", "int vote(int,boolean) I S", "int ofShip(int,int) I A",
        "int pointsAnew(int) I", "boolean isGround(int,int) I A", "int ofVisit(int,int) I A",
        "int list(int) I", "int missed(int) I", "int knew(int,int,int) I A",
    };

    public static void main(String[] args) throws Exception {
        Check check = new Check();
        Class<?> face = Detentionbureau.class;
        check.due("public final", Modifier.isPublic(face.getModifiers()) && Modifier.isFinal(face.getModifiers()), true);
        same(check, "constants", constants(face), Set.of(CONSTANTS));
        same(check, "methods", methods(face), Set.of(METHODS));
        check.due("constructors", face.getDeclaredConstructors().length, 1);
        Constructor<?> made = face.getDeclaredConstructors()[0];
        check.due("the constructor's arguments", made.getParameterCount(), 0);
        check.due("the constructor is public", Modifier.isPublic(made.getModifiers()), true);
        noPrivateBearsAPublicName(check, face);
        check.end();
    }

    private static Set<String> constants(Class<?> face) throws Exception {
        Set<String> all = new TreeSet<>();
        for (Field field : face.getDeclaredFields()) {
            if (!Modifier.isPrivate(field.getModifiers())) {
                boolean isConstant = field.getModifiers() == (Modifier.PUBLIC | Modifier.STATIC | Modifier.FINAL)
                        && field.getType() == int.class;
                all.add(isConstant ? field.getName() + "=" + field.getInt(null) : field.toString());
            }
        }
        return all;
    }

    private static Set<String> methods(Class<?> face) {
        Set<String> all = new TreeSet<>();
        for (Method method : face.getDeclaredMethods()) {
            if (!Modifier.isPrivate(method.getModifiers()) && !method.isSynthetic()) {
                all.add(told(method));
            }
        }
        return all;
    }

    private static String told(Method method) {
        StringBuilder text = new StringBuilder();
        text.append(Modifier.isPublic(method.getModifiers()) ? "" : "not public ");
        text.append(method.getReturnType()).append(' ').append(method.getName()).append('(');
        String comma = "";
        for (Class<?> type : method.getParameterTypes()) {
            text.append(comma).append(type);
            comma = ",";
        }
        text.append(')');
        for (Class<?> thrown : method.getExceptionTypes()) {
            text.append(' ').append(thrown == IndexOutOfBoundsException.class ? "I"
                    : thrown == IllegalArgumentException.class ? "A"
                    : thrown == IllegalStateException.class ? "S" : thrown.getName());
        }
        return text.toString();
    }

    private static void noPrivateBearsAPublicName(Check check, Class<?> face) {
        Set<String> open = new TreeSet<>();
        for (Method method : face.getMethods()) {
            open.add(method.getName());
        }
        for (Method method : face.getDeclaredMethods()) {
            if (Modifier.isPrivate(method.getModifiers())) {
                check.due("private " + method.getName(), open.contains(method.getName()), false);
            }
        }
    }

    private static void same(Check check, String what, Set<String> got, Set<String> want) {
        for (String one : got) {
            check.due(what + ": " + one + " is of the face", want.contains(one), true);
        }
        for (String one : want) {
            check.due(what + ": " + one + " is there", got.contains(one), true);
        }
    }
}
