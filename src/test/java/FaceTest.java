import java.lang.reflect.Constructor;
import java.lang.reflect.Field;
import java.lang.reflect.Method;
import java.lang.reflect.Modifier;
import java.util.ArrayList;
import java.util.Arrays;
import java.util.List;

/** The public face: the constants, the constructor and the methods, and nothing else that others could see. */
public final class FaceTest {
    private static final String INDEX = "IndexOutOfBoundsException";
    private static final String ARGUMENT = "IllegalArgumentException";
    private static final String STATE = "IllegalStateException";

    private static final String[] METHODS = {
        "int quota(int,int,int) " + INDEX + " " + ARGUMENT,
        "int aid(int,int,boolean) " + INDEX + " " + ARGUMENT,
        "void kind(int,int,int,int) " + INDEX + " " + ARGUMENT,
        "int step(int,int) " + INDEX + " " + ARGUMENT,
        "int buyer(int,int,int) " + INDEX + " " + ARGUMENT,
        "int draw(int)",
        "boolean power(int,boolean) " + INDEX,
        "boolean line(int,boolean) " + INDEX,
        "int land(int,int,int,int,int,int) " + INDEX + " " + ARGUMENT + " " + STATE,
        "int open() " + STATE,
        "int end() " + STATE,
        "int press(int,int) " + INDEX + " " + STATE,
        "int take(int,int,int) " + INDEX + " " + STATE,
        "int pass(int) " + ARGUMENT + " " + STATE,
        "int lorry(int,int,int) " + INDEX + " " + ARGUMENT + " " + STATE,
        "int pay(int,int) " + INDEX + " " + ARGUMENT,
        "int claim(int,int) " + INDEX + " " + STATE,
        "int settle(int,int,int) " + INDEX + " " + ARGUMENT,
        "int now()",
        "int day()",
        "boolean isOpen()",
        "int told(int,int) " + INDEX + " " + ARGUMENT,
        "int lot(int,int) " + INDEX + " " + ARGUMENT,
        "int hall(int,int) " + INDEX + " " + ARGUMENT,
        "int account(int,int) " + INDEX + " " + ARGUMENT,
        "int ship(int,int) " + INDEX + " " + ARGUMENT,
        "int kilos(int) " + ARGUMENT,
        "int kilosAnew(int) " + ARGUMENT,
        "int average(int,int) " + INDEX + " " + ARGUMENT,
        "int loaded(int) " + INDEX,
    };

    private static final String[] CONSTANTS = {
        "NONE=-1", "LANDED=0", "SEIZED=1", "OFFERED=2", "SOLD=3", "GONE=4", "MEAL=5", "CARRIED=6", "ROTTEN=7",
        "EMPTY=0", "FALLING=1", "STANDING=2", "TAKING=3",
    };

    public static void main(String[] args) throws IllegalAccessException {
        Check.promise(1, "the face");
        int seen = Fishclock.class.getModifiers();
        Check.due("public final", Modifier.isPublic(seen) && Modifier.isFinal(seen), true);
        Check.due("the constants", sorted(constants()), sorted(Arrays.asList(CONSTANTS)));
        Check.due("the methods", sorted(methods()), sorted(Arrays.asList(METHODS)));
        Constructor<?>[] made = Fishclock.class.getDeclaredConstructors();
        Check.due("one constructor", made.length, 1);
        Check.due("the constructor", made[0].toString(), "public Fishclock()");
        Check.end();
    }

    private static List<String> sorted(List<String> texts) {
        List<String> row = new ArrayList<>(texts);
        row.sort(null);
        return row;
    }

    private static List<String> constants() throws IllegalAccessException {
        List<String> found = new ArrayList<>();
        for (Field field : Fishclock.class.getDeclaredFields()) {
            if (Modifier.isPrivate(field.getModifiers())) {
                continue;
            }
            boolean isConstant = field.getModifiers() == (Modifier.PUBLIC | Modifier.STATIC | Modifier.FINAL)
                    && field.getType() == int.class;
            found.add(isConstant ? field.getName() + "=" + field.getInt(null) : field.toString());
        }
        return found;
    }

    private static List<String> methods() {
        List<String> found = new ArrayList<>();
        for (Method method : Fishclock.class.getDeclaredMethods()) {
            if (!Modifier.isPrivate(method.getModifiers())) {
                found.add(describe(method));
            }
        }
        return found;
    }

    private static String describe(Method method) {
        StringBuilder text = new StringBuilder();
        text.append(method.getModifiers() == Modifier.PUBLIC ? "" : "not just public: ");
        text.append(method.getReturnType().getSimpleName()).append(' ').append(method.getName()).append('(');
        for (Class<?> type : method.getParameterTypes()) {
            text.append(text.charAt(text.length() - 1) == '(' ? "" : ",").append(type.getSimpleName());
        }
        text.append(')');
        for (Class<?> thrown : method.getExceptionTypes()) {
            text.append(' ').append(thrown.getSimpleName());
        }
        return text.toString();
    }
}
