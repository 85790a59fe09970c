import java.lang.reflect.Constructor;
import java.lang.reflect.Field;
import java.lang.reflect.Method;
import java.lang.reflect.Modifier;
import java.util.Arrays;
import java.util.HashSet;
import java.util.Set;
import java.util.TreeSet;

/** The class has the document's face, and nothing else that can be seen from outside. */
public final class FaceTest {
    private static final String ARGUMENT = " IllegalArgumentException";
    private static final String STATE = " IllegalStateException";
    private static final String PLACE = " IndexOutOfBoundsException";
    private static final String[] FACE = {
        "int word(int)" + ARGUMENT + STATE,
        "int clear()",
        "int likeness(int)" + PLACE + STATE,
        "int best(int)" + ARGUMENT + STATE,
        "int bestByAll(int)" + ARGUMENT + STATE,
        "int cost(int,boolean)" + ARGUMENT + STATE,
        "int order(int,boolean)" + ARGUMENT + STATE,
        "int take(int)" + ARGUMENT + STATE,
        "int giveBack(int)" + ARGUMENT + STATE,
        "int translate(int,int,int)" + ARGUMENT + STATE + PLACE,
        "int deliver(int)" + ARGUMENT + STATE,
        "int why(int)" + ARGUMENT + STATE,
        "int wherefore(int)" + ARGUMENT + STATE,
        "int became(int,int)" + ARGUMENT + STATE + PLACE,
        "int match(int)" + ARGUMENT + STATE,
        "int waiting(boolean)",
        "int orderAt(int)" + PLACE,
        "int say(int,int,int,int)" + ARGUMENT,
        "int ruling(int,int)" + ARGUMENT,
        "int sold()",
        "int clientOf(int)" + PLACE,
        "int wordOf(int,int)" + PLACE,
        "int becameOf(int,int)" + PLACE,
        "boolean isDue(int)" + PLACE,
        "int due()",
        "int dueAt(int)" + PLACE,
        "int mend(int)" + PLACE + STATE,
        "void setPrices(int,int,int)" + ARGUMENT,
        "int paid(int)" + ARGUMENT,
        "int earned(int)" + ARGUMENT,
        "int purse()",
    };

    public static void main(String[] args) {
        Check.same("class is public and final", TermGate.class.getModifiers(), Modifier.PUBLIC | Modifier.FINAL);
        Set<String> publicNames = new HashSet<>();
        Set<String> seen = new TreeSet<>();
        for (Method method : TermGate.class.getDeclaredMethods()) {
            if (!Modifier.isPrivate(method.getModifiers())) {
                seen.add(textOf(method));
                publicNames.add(method.getName());
            }
        }
        Check.same("the face", String.join("; ", seen), String.join("; ", new TreeSet<>(Arrays.asList(FACE))));
        checkConstructors();
        checkPrivateNames(TermGate.class, publicNames);
        for (Class<?> inner : TermGate.class.getDeclaredClasses()) {
            Check.same(inner + " is not public", inner.getModifiers() & (Modifier.PUBLIC | Modifier.PROTECTED), 0);
            checkPrivateNames(inner, publicNames);
        }
        checkFields();
        Check.end();
    }

    private static String textOf(Method method) {
        StringBuilder text = new StringBuilder(method.getReturnType() + " " + method.getName() + "(");
        for (Class<?> type : method.getParameterTypes()) {
            text.append(text.charAt(text.length() - 1) == '(' ? "" : ",").append(type);
        }
        text.append(")");
        for (Class<?> type : method.getExceptionTypes()) {
            text.append(" ").append(type.getSimpleName());
        }
        return text.toString();
    }

    private static void checkConstructors() {
        Constructor<?>[] constructors = TermGate.class.getDeclaredConstructors();
        Check.same("constructors", constructors.length, 1);
        Check.same("constructor's parameters", constructors[0].getParameterCount(), 0);
        Check.same("constructor is public", constructors[0].getModifiers(), Modifier.PUBLIC);
    }

    private static void checkPrivateNames(Class<?> type, Set<String> publicNames) {
        for (Method method : type.getDeclaredMethods()) {
            boolean isOfFace = type == TermGate.class && Modifier.isPublic(method.getModifiers());
            if (!isOfFace && publicNames.contains(method.getName())) {
                Check.fail(method + " bears the name of a public method");
            }
        }
    }

    private static void checkFields() {
        for (Field field : TermGate.class.getDeclaredFields()) {
            Check.same(field + " is private", field.getModifiers() & Modifier.PRIVATE, Modifier.PRIVATE);
        }
    }
}
