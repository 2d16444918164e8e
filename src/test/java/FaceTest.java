import java.lang.reflect.Constructor;
import java.lang.reflect.Field;
import java.lang.reflect.Method;
import java.lang.reflect.Modifier;
import java.util.ArrayList;
import java.util.List;
import java.util.Set;
import java.util.TreeSet;

/** The face of the class: just what the document tells, and what the language's rules 1, 2 and 5 ask of it. */
public final class FaceTest {
    private static final String FACE = "row(int,int) lay(int,int,int) tear(int) copy(int,int,int,int,int) mean(int) "
        + "text(int,int) put(int,int,int) instance(int) master(int,int,int) saying(int,int,int,int,int) "
        + "sayings(int,int,int) told(int,int) traits(int) life(int,int) fault(int) rule(int) answers(int,int) "
        + "fits(int,int) prices(int,int,int) costs(int,int) settle(int) second(int) cheap(int) cheapAt(int,int) all() "
        + "against(int) nobody() plain(int) changed(int) parts(int,int) met(int,int) can(int) reads(int,int,int) "
        + "reading(int) slip(int,int,int) runs(int) move(int,int,int) moved(int,int) mark(int,int) follow() "
        + "law(int,int) lawsPart(int,int) fresh(int,int) next() asked() upper() lower() count(int) finding() "
        + "findings(int) digest()";
    private static final Set<String> LONGS = Set.of("upper", "lower", "digest");

    public static void main(String[] args) {
        constants();
        methods();
        members();
        insides();
        noMethodInsideIsNamedAsOneOfTheFace();
        Check.finish();
    }

    private static void constants() {
        Check.due("BAD", QuarrelBook.BAD, -1);
        Check.due("FULL", QuarrelBook.FULL, -2);
        Check.due("FINDING", QuarrelBook.FINDING, -3);
        Check.due("STATE", QuarrelBook.STATE, -4);
        Check.due("NONE", QuarrelBook.NONE, -9);
        Set<String> names = new TreeSet<>();
        for (Field field : QuarrelBook.class.getDeclaredFields()) {
            if (!Modifier.isPrivate(field.getModifiers())) names.add(field.getName());
        }
        Check.holds("the constants are " + names, names.equals(Set.of("BAD", "FULL", "FINDING", "STATE", "NONE")));
    }

    private static void methods() {
        Set<String> want = new TreeSet<>(List.of(FACE.split(" ")));
        Set<String> got = new TreeSet<>();
        for (Method method : QuarrelBook.class.getDeclaredMethods()) {
            if (Modifier.isPrivate(method.getModifiers())) continue;
            List<String> types = new ArrayList<>();
            for (Class<?> type : method.getParameterTypes()) types.add(type.getName());
            got.add(method.getName() + "(" + String.join(",", types) + ")");
            String type = LONGS.contains(method.getName()) ? "long" : "int";
            Check.holds(method + " is of type " + type, method.getReturnType().getName().equals(type));
            Check.holds(method + " is public", Modifier.isPublic(method.getModifiers()));
            Check.holds(method + " is not static", !Modifier.isStatic(method.getModifiers()));
        }
        Check.holds("the face is " + got, got.equals(want));
    }

    private static void members() {
        Check.holds("the class is final", Modifier.isFinal(QuarrelBook.class.getModifiers()));
        Check.holds("the class is public", Modifier.isPublic(QuarrelBook.class.getModifiers()));
        Constructor<?>[] constructors = QuarrelBook.class.getDeclaredConstructors();
        Check.due("constructors", constructors.length, 1);
        Check.due("its parameters", constructors[0].getParameterCount(), 0);
        Check.holds("it is public", Modifier.isPublic(constructors[0].getModifiers()));
    }

    private static void insides() {
        Class<?>[] inside = QuarrelBook.class.getDeclaredClasses();
        Check.holds("at most twelve classes with this one: " + inside.length, inside.length < 12);
        fieldsOf(QuarrelBook.class);
        for (Class<?> one : inside) {
            Check.holds(one + " is static", Modifier.isStatic(one.getModifiers()));
            Check.holds(one + " is not public", !Modifier.isPublic(one.getModifiers()));
            Check.holds(one + " is not protected", !Modifier.isProtected(one.getModifiers()));
            fieldsOf(one);
        }
    }

    private static void fieldsOf(Class<?> owner) {
        int many = 0;
        for (Field field : owner.getDeclaredFields()) {
            if (Modifier.isStatic(field.getModifiers())) {
                Check.holds(field + " is final", Modifier.isFinal(field.getModifiers()));
            } else {
                many++;
            }
        }
        Check.holds(owner + " has at most twenty fields: " + many, many <= 20);
    }

    private static void noMethodInsideIsNamedAsOneOfTheFace() {
        Set<String> names = new TreeSet<>();
        for (String one : FACE.split(" ")) names.add(one.substring(0, one.indexOf('(')));
        List<Method> others = new ArrayList<>();
        for (Method method : QuarrelBook.class.getDeclaredMethods()) {
            if (!Modifier.isPublic(method.getModifiers())) others.add(method);
        }
        for (Class<?> one : QuarrelBook.class.getDeclaredClasses()) others.addAll(List.of(one.getDeclaredMethods()));
        for (Method method : others) {
            Check.holds(method + " is not named as one of the face", !names.contains(method.getName()));
            Check.holds(method + " takes at most seven", method.getParameterCount() <= 7);
        }
    }
}
