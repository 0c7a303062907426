import java.lang.reflect.Field;
import java.lang.reflect.Member;
import java.lang.reflect.Method;
import java.lang.reflect.Modifier;
import java.util.ArrayList;
import java.util.Arrays;
import java.util.List;
import java.util.Set;
import java.util.TreeSet;

/** The class has the document's face, and no other member of it can be seen from outside. */
public final class FaceTest {
    private static final Set<String> FACE = new TreeSet<>(Arrays.asList(
            "public static final int CommonForests.NONE",
            "public CommonForests()",
            "public boolean CommonForests.begin(int,int)",
            "public int CommonForests.add(int,int,int)",
            "public boolean CommonForests.weigh(int,int,int)",
            "public int CommonForests.leave(int,int,int,boolean)",
            "public int CommonForests.beside(int,int,int)",
            "public int CommonForests.edges(int)",
            "public int CommonForests.weight(int,int)",
            "public int CommonForests.rank(int,int)",
            "public int CommonForests.best(int)",
            "public int CommonForests.common(int,int)",
            "public int CommonForests.cover(int,int)"));

    public static void main(String[] args) {
        Check check = new Check();
        Class<?> face = CommonForests.class;
        check.due("public final class", face.getModifiers(), Modifier.PUBLIC | Modifier.FINAL);
        Set<String> seen = new TreeSet<>();
        for (Member member : members(face)) {
            if (!Modifier.isPrivate(member.getModifiers())) {
                seen.add(member.toString());
            }
        }
        if (!seen.equals(FACE)) {
            System.out.println("the face is " + seen);
        }
        check.due("the face is the document's", seen.equals(FACE), true);
        Set<String> names = new TreeSet<>();
        for (Method method : face.getDeclaredMethods()) {
            if (Modifier.isPublic(method.getModifiers())) {
                names.add(method.getName());
            }
        }
        hasNoNamesake(check, face, names);
        for (Class<?> inside : face.getDeclaredClasses()) {
            check.due(inside + " is static", Modifier.isStatic(inside.getModifiers()), true);
            hasNoNamesake(check, inside, names);
        }
        for (Field field : face.getDeclaredFields()) {
            if (Modifier.isStatic(field.getModifiers())) {
                check.due(field + " is final", Modifier.isFinal(field.getModifiers()), true);
            }
        }
        check.end();
    }

    private static List<Member> members(Class<?> of) {
        List<Member> members = new ArrayList<>();
        members.addAll(Arrays.asList(of.getDeclaredFields()));
        members.addAll(Arrays.asList(of.getDeclaredConstructors()));
        members.addAll(Arrays.asList(of.getDeclaredMethods()));
        return members;
    }

    private static void hasNoNamesake(Check check, Class<?> of, Set<String> names) {
        for (Method method : of.getDeclaredMethods()) {
            if (!Modifier.isPublic(method.getModifiers())) {
                check.due(method + " bears a public name", names.contains(method.getName()), false);
            }
        }
    }
}
