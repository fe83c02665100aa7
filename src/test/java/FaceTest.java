import java.lang.reflect.Constructor;
import java.lang.reflect.Field;
import java.lang.reflect.Member;
import java.lang.reflect.Method;
import java.lang.reflect.Modifier;
import java.util.Arrays;
import java.util.HashSet;
import java.util.Set;

/** The class has the document's face, and no other member is seen from outside. */
final class FaceTest {
    private static final String[] FACE = {
        "int feed(int,int,int,int,int)", "int text(int)", "int fault(int)", "int named(int,int)", "int man(int,int)",
        "int thing(int,int)", "long law(int,int)", "int pay(int,int)", "boolean swap(int,int)",
        "boolean hold(int,boolean)", "int wet(int,int)", "int go(int)", "int ahead(int,int)", "int goes(int)",
        "int out(int)", "int premium(int)", "int cover(int)", "int match(int)", "int order(int)", "int rests(int,int)",
        "int rest(int,int,int)", "long comesBack(int,int)", "int widow(int,int)", "int next(int)",
        "int see(int,int,boolean)", "int strike(int)", "boolean known(int)", "int rues(int)", "int chance(int,int,int)",
        "int tried(int,int,int)", "int undo()", "int keep()", "int back()", "int count(int)"};

    public static void main(String[] args) {
        Set<String> due = new HashSet<>(Arrays.asList(FACE));
        Set<String> names = new HashSet<>();
        for (String one : FACE) {
            names.add(one.substring(one.indexOf(' ') + 1, one.indexOf('(')));
        }
        for (Method method : ColdFeet.class.getDeclaredMethods()) {
            if (isSeen(method)) {
                Check.same("face " + told(method), due.remove(told(method)), true);
            } else {
                Check.same("private name " + method.getName(), names.contains(method.getName()), false);
            }
        }
        Check.same("not there: " + due, due.size(), 0);
        for (Field field : ColdFeet.class.getDeclaredFields()) {
            Check.same("field " + field.getName(), isSeen(field), field.getName().equals("NONE"));
        }
        Constructor<?>[] made = ColdFeet.class.getDeclaredConstructors();
        Check.same("constructors", made.length, 1);
        Check.same("without parameters", made[0].getParameterCount(), 0);
        for (Class<?> inside : ColdFeet.class.getDeclaredClasses()) {
            Check.same("static " + inside, Modifier.isStatic(inside.getModifiers()), true);
            for (Method method : inside.getDeclaredMethods()) {
                Check.same("name inside " + method, names.contains(method.getName()), false);
            }
        }
        Check.same("NONE", ColdFeet.NONE, -1);
        Check.end();
    }

    private static boolean isSeen(Member member) {
        return !Modifier.isPrivate(member.getModifiers()) && !member.isSynthetic();
    }

    private static String told(Method method) {
        StringBuilder types = new StringBuilder();
        for (Class<?> type : method.getParameterTypes()) {
            types.append(types.length() == 0 ? "" : ",").append(type.getName());
        }
        return method.getReturnType().getName() + " " + method.getName() + "(" + types + ")";
    }
}
