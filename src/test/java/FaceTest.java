import java.lang.reflect.Constructor;
import java.lang.reflect.Field;
import java.lang.reflect.Method;
import java.lang.reflect.Modifier;
import java.util.Set;
import java.util.TreeSet;

/** The face: just what the document lists is public, nothing else can be seen. */
public final class FaceTest {
    private static final String FACE = "sign(int)int end(int)boolean net()int rule()int post(int,int)int way(int,int)int "
            + "sheet(int,int,int,int)int comes(int,int)int goes(int)int walks(int)int bursts(int)int calms()int "
            + "points(int,int)int day()int undo()int later(int,int)int home(int)int pass(int,int,int)int round(int)int "
            + "follows(int)int tree()int trees()int plants(int)int grown()int mends()int route(int,int)int gates(int)int "
            + "parish(int)int mean(int)int meets(int,int)int odds(int,int,int)int ready()int unit()int returns()int "
            + "joins(int)int recurs(int)int trigger()int seen(int,int,int)int forget()int guess(int)int looks(int)int "
            + "heard(int,int)int denies()int fits()int asks()int crowds(int,int)int law()int waits(int)int years(int,int)int "
            + "keep(int)boolean again(int)boolean count(int)int row(int)long";

    public static void main(String[] args) {
        Set<String> want = new TreeSet<>(Set.of(FACE.split(" ")));
        Set<String> names = new TreeSet<>();
        for (String signature : want) names.add(signature.substring(0, signature.indexOf('(')));
        Set<String> got = new TreeSet<>();
        for (Method method : TurningPosts.class.getDeclaredMethods()) {
            if (Modifier.isPrivate(method.getModifiers())) {
                Checks.due("private " + method.getName() + " has a public name", names.contains(method.getName()), false);
            } else if (!method.isSynthetic()) {
                Checks.due(method.getName() + " is public", Modifier.isPublic(method.getModifiers()), true);
                got.add(signature(method));
            }
        }
        Checks.due("methods", got.toString(), want.toString());
        for (Field field : TurningPosts.class.getDeclaredFields()) {
            Checks.due(field.getName() + " is private, or NONE", Modifier.isPrivate(field.getModifiers()), !field.getName().equals("NONE"));
        }
        Checks.due("NONE", TurningPosts.NONE, -1);
        Constructor<?>[] constructors = TurningPosts.class.getDeclaredConstructors();
        Checks.due("constructors", constructors.length, 1);
        Checks.due("a public one without arguments",
                Modifier.isPublic(constructors[0].getModifiers()) && constructors[0].getParameterCount() == 0, true);
        Checks.due("final", Modifier.isFinal(TurningPosts.class.getModifiers()), true);
        Checks.end("FaceTest");
    }

    private static String signature(Method method) {
        StringBuilder all = new StringBuilder(method.getName()).append('(');
        for (int i = 0; i < method.getParameterCount(); i++) {
            all.append(i == 0 ? "" : ",").append(method.getParameterTypes()[i].getName());
        }
        return all.append(')').append(method.getReturnType().getName()).toString();
    }
}
