import java.lang.reflect.Constructor;
import java.lang.reflect.Field;
import java.lang.reflect.Method;
import java.lang.reflect.Modifier;
import java.util.ArrayList;
import java.util.Arrays;
import java.util.List;
import java.util.TreeSet;

/** The public face is the one that the document prints, and nothing else is visible. */
public final class FaceTest {
    private static final String[] FACE = {
        "int addMachine(int,int) IllegalArgumentException IllegalStateException",
        "int addMember() IllegalStateException",
        "int day()",
        "boolean addNeed(int,int) IllegalArgumentException IllegalStateException",
        "int induct(int,int) IndexOutOfBoundsException IllegalArgumentException UnsupportedOperationException",
        "boolean isLive(int,int,int) IndexOutOfBoundsException IllegalArgumentException",
        "int book(int,int,int,int,int,char) IndexOutOfBoundsException IllegalArgumentException"
            + " UnsupportedOperationException ArithmeticException NoSuchElementException IllegalStateException",
        "int await(int,int,int,int,int,char) IndexOutOfBoundsException IllegalArgumentException"
            + " UnsupportedOperationException IllegalStateException",
        "char check(int,int,int,int,int,char) IndexOutOfBoundsException IllegalArgumentException",
        "char cancel(int) NoSuchElementException IllegalStateException",
        "char stateOf(int) NoSuchElementException",
        "int entries()",
        "int endDay() IllegalStateException",
        "char minuteAt(int,int,int) IndexOutOfBoundsException IllegalArgumentException",
        "int usedMinutes(int,int) IndexOutOfBoundsException IllegalArgumentException",
        "int usedByMinutes(int,int) IndexOutOfBoundsException IllegalArgumentException",
        "int setupMinutes(int,int) IndexOutOfBoundsException IllegalArgumentException",
        "int firstStart(int,int,int,char) IndexOutOfBoundsException IllegalArgumentException NoSuchElementException",
        "int firstByMinutes(int,int,int,char) IndexOutOfBoundsException IllegalArgumentException"
            + " NoSuchElementException",
        "int waiting(int,int) IndexOutOfBoundsException IllegalArgumentException",
        "int deliver(int,int) IllegalArgumentException IllegalStateException",
        "int cut(int,int,int) NoSuchElementException IllegalArgumentException IllegalStateException"
            + " UnsupportedOperationException",
        "int freeOf(int) NoSuchElementException",
        "int freeByCuts(int) NoSuchElementException",
        "int setPrice(int,int) IllegalArgumentException",
        "int setRate(int,int) IllegalArgumentException",
        "int addFee(int,int) IllegalArgumentException IllegalStateException",
        "int addCap(int,int) IllegalArgumentException IllegalStateException",
        "int addDouble(int,int) IllegalArgumentException IllegalStateException",
        "int addDiscount(int,int) IllegalArgumentException IllegalStateException",
        "int costOf(int,int) IllegalArgumentException",
        "int breakDown(int,int) IndexOutOfBoundsException IllegalArgumentException IllegalStateException",
        "int shareOf(int,int) NoSuchElementException IndexOutOfBoundsException",
        "int pay(int,int) IndexOutOfBoundsException IllegalArgumentException IllegalStateException",
        "int owes(int) IndexOutOfBoundsException",
        "int owesByEntries(int) IndexOutOfBoundsException",
        "int dueOf(int) NoSuchElementException",
        "long takings()",
        "float use(int,int) IndexOutOfBoundsException IllegalArgumentException",
        "double meanMinutes() ArithmeticException",
        "boolean isSound()",
    };

    public static void main(String[] args) {
        methods();
        constructorsAndFields();
        Expect.end();
    }

    private static void methods() {
        TreeSet<String> names = new TreeSet<>();
        TreeSet<String> shown = new TreeSet<>();
        List<String> hidden = new ArrayList<>();
        for (Method method : Lendlathe.class.getDeclaredMethods()) {
            if (method.isSynthetic()) {
                continue;
            }
            if (Modifier.isPublic(method.getModifiers())) {
                shown.add(describe(method));
                names.add(method.getName());
            } else {
                Expect.equal(method.getName() + " is private", true, Modifier.isPrivate(method.getModifiers()));
                hidden.add(method.getName());
            }
        }
        Expect.equal("the face", new TreeSet<>(Arrays.asList(FACE)).toString(), shown.toString());
        for (String name : hidden) {
            Expect.equal("a private method bears the public name " + name, false, names.contains(name));
        }
    }

    private static String describe(Method method) {
        StringBuilder text = new StringBuilder();
        text.append(method.getReturnType().getName()).append(' ').append(method.getName()).append('(');
        Class<?>[] types = method.getParameterTypes();
        for (int i = 0; i < types.length; i++) {
            text.append(i == 0 ? "" : ",").append(types[i].getName());
        }
        text.append(')');
        for (Class<?> type : method.getExceptionTypes()) {
            text.append(' ').append(type.getSimpleName());
        }
        return text.toString();
    }

    private static void constructorsAndFields() {
        Constructor<?>[] constructors = Lendlathe.class.getDeclaredConstructors();
        Expect.equal("the number of constructors", 1, constructors.length);
        Expect.equal("Lendlathe() is public", true, Modifier.isPublic(constructors[0].getModifiers()));
        Expect.equal("its parameters", 0, constructors[0].getParameterCount());
        Expect.equal("the class is final", true, Modifier.isFinal(Lendlathe.class.getModifiers()));
        for (Field field : Lendlathe.class.getDeclaredFields()) {
            int modifiers = field.getModifiers();
            Expect.equal(field.getName() + " is private", true, Modifier.isPrivate(modifiers));
            Expect.equal(field.getName() + " is no changing static field", true,
                    !Modifier.isStatic(modifiers) || Modifier.isFinal(modifiers));
        }
    }
}
