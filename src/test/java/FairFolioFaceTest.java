import java.lang.reflect.Field;
import java.lang.reflect.Method;
import java.lang.reflect.Modifier;
import java.util.TreeSet;

/** The public face is the document's, and there is nothing else that others see. */
public final class FairFolioFaceTest {
    private static final String[] METHODS = {
        "void setPavilion(int, int, int) IndexOutOfBoundsException IllegalArgumentException",
        "int open(int, boolean) IndexOutOfBoundsException",
        "int plan(int, int) IndexOutOfBoundsException IllegalStateException",
        "int drop(int, int) IndexOutOfBoundsException IllegalStateException",
        "int ask(int, int) IndexOutOfBoundsException IllegalStateException",
        "int advance(int) IllegalArgumentException IllegalStateException",
        "boolean send(int, int) IndexOutOfBoundsException IllegalStateException",
        "int reprint(int) IllegalArgumentException",
        "int minute()",
        "int stateOf(int) IndexOutOfBoundsException",
        "int whereIs(int) IndexOutOfBoundsException",
        "int placeOf(int) IndexOutOfBoundsException",
        "int turnOf(int) IndexOutOfBoundsException",
        "int stamps(int) IndexOutOfBoundsException",
        "int queue(int) IndexOutOfBoundsException",
        "int inside(int) IndexOutOfBoundsException",
        "int stock(int) IndexOutOfBoundsException",
        "int demand(int) IndexOutOfBoundsException",
        "int sent(int, int) IndexOutOfBoundsException",
    };

    public static void main(String[] args) {
        Check.same("the class is public and final", FairFolio.class.getModifiers(),
                Modifier.PUBLIC | Modifier.FINAL);
        Check.same("constructors", FairFolio.class.getDeclaredConstructors().length, 1);
        Check.same("public constructors without parameters", publicConstructors(), 1);
        methods();
        fields();
        classesInside();
        Check.end();
    }

    private static int publicConstructors() {
        return FairFolio.class.getConstructors().length == 1
                && FairFolio.class.getConstructors()[0].getParameterCount() == 0 ? 1 : 0;
    }

    private static void methods() {
        TreeSet<String> due = new TreeSet<>();
        TreeSet<String> names = new TreeSet<>();
        for (String method : METHODS) {
            due.add(method);
            names.add(method.substring(method.indexOf(' ') + 1, method.indexOf('(')));
        }
        TreeSet<String> seen = new TreeSet<>();
        for (Method method : FairFolio.class.getDeclaredMethods()) {
            if (!Modifier.isPrivate(method.getModifiers())) {
                seen.add(told(method));
                Check.same(method.getName() + " is public and nothing more", method.getModifiers(), Modifier.PUBLIC);
            } else {
                Check.same("the private " + method.getName() + " bears a public name",
                        names.contains(method.getName()), false);
            }
        }
        Check.same("methods that others see", seen, due);
    }

    private static String told(Method method) {
        StringBuilder text = new StringBuilder();
        text.append(method.getReturnType().getSimpleName()).append(' ').append(method.getName()).append('(');
        for (int i = 0; i < method.getParameterCount(); i++) {
            text.append(i == 0 ? "" : ", ").append(method.getParameterTypes()[i].getSimpleName());
        }
        text.append(')');
        for (Class<?> thrown : method.getExceptionTypes()) {
            text.append(' ').append(thrown.getSimpleName());
        }
        return text.toString();
    }

    private static void fields() {
        TreeSet<String> seen = new TreeSet<>();
        for (Field field : FairFolio.class.getDeclaredFields()) {
            if (!Modifier.isPrivate(field.getModifiers())) {
                seen.add(Modifier.toString(field.getModifiers()) + " " + field.getType() + " " + field.getName());
            }
        }
        TreeSet<String> due = new TreeSet<>();
        for (String name : new String[] {"NONE", "IDLE", "WAITING", "INSIDE"}) {
            due.add("public static final int " + name);
        }
        Check.same("fields that others see", seen, due);
        Check.same("NONE", FairFolio.NONE, -1);
        Check.same("IDLE", FairFolio.IDLE, 0);
        Check.same("WAITING", FairFolio.WAITING, 1);
        Check.same("INSIDE", FairFolio.INSIDE, 2);
    }

    private static void classesInside() {
        for (Class<?> inside : FairFolio.class.getDeclaredClasses()) {
            int seen = inside.getModifiers() & (Modifier.PUBLIC | Modifier.PROTECTED | Modifier.STATIC);
            Check.same(inside.getName() + " is static, and no part of the face", seen, Modifier.STATIC);
        }
    }
}
