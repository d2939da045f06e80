import java.lang.reflect.Executable;
import java.lang.reflect.Field;
import java.lang.reflect.Member;
import java.lang.reflect.Method;
import java.lang.reflect.Modifier;
import java.util.ArrayList;
import java.util.Arrays;
import java.util.HashSet;
import java.util.List;
import java.util.Set;
import java.util.TreeSet;

/** The document's public face and no more (rule 1 of LANGUAGE.md), and no static state (rule 5). */
public final class FaceTest {
    private static final List<String> FACE = List.of(
            "public static final int RouteTrie.NONE",
            "public RouteTrie()",
            "public void RouteTrie.init()",
            "public int RouteTrie.insert(int,int,int)",
            "public boolean RouteTrie.remove(int,int)",
            "public int RouteTrie.lookup(int)",
            "public int RouteTrie.lookupLen(int)",
            "public int RouteTrie.exact(int,int)",
            "public int RouteTrie.under(int,int)",
            "public int RouteTrie.route(int,int)",
            "public int RouteTrie.count()",
            "public int RouteTrie.nodes()",
            "public int RouteTrie.depth(int)");

    public static void main(String[] args) {
        Due.is("RouteTrie is public and final", RouteTrie.class.getModifiers(), Modifier.PUBLIC | Modifier.FINAL);
        dueFace();
        dueNoPrivateMethodNamedAsAPublicOne();
        dueClassesInside();
        Due.end();
    }

    private static void dueFace() {
        Set<String> seen = new TreeSet<>();
        for (Member member : membersOf(RouteTrie.class)) {
            if (!Modifier.isPrivate(member.getModifiers())) {
                seen.add(textOf(member));
            }
        }
        for (String one : FACE) {
            Due.is("has " + one, seen.contains(one), true);
        }
        for (String one : seen) {
            Due.is("may have " + one, FACE.contains(one), true);
        }
    }

    private static void dueNoPrivateMethodNamedAsAPublicOne() {
        Set<String> face = new HashSet<>();
        for (Method method : RouteTrie.class.getMethods()) {
            face.add(method.getName());
        }
        for (Class<?> type : allClasses()) {
            for (Method method : type.getDeclaredMethods()) {
                if (Modifier.isPrivate(method.getModifiers())) {
                    Due.is("a private method " + method.getName(), face.contains(method.getName()), false);
                }
            }
        }
    }

    private static void dueClassesInside() {
        for (Class<?> type : RouteTrie.class.getDeclaredClasses()) {
            int modifiers = type.getModifiers();
            Due.is(type.getName() + " is static", Modifier.isStatic(modifiers), true);
            Due.is(type.getName() + " is public", Modifier.isPublic(modifiers), false);
            Due.is(type.getName() + " is protected", Modifier.isProtected(modifiers), false);
        }
        for (Class<?> type : allClasses()) {
            for (Field field : type.getDeclaredFields()) {
                if (Modifier.isStatic(field.getModifiers())) {
                    Due.is(field + " is final", Modifier.isFinal(field.getModifiers()), true);
                }
            }
        }
    }

    private static List<Class<?>> allClasses() {
        List<Class<?>> all = new ArrayList<>(Arrays.asList(RouteTrie.class.getDeclaredClasses()));
        all.add(RouteTrie.class);
        return all;
    }

    private static List<Member> membersOf(Class<?> type) {
        List<Member> all = new ArrayList<>(Arrays.asList(type.getDeclaredMethods()));
        all.addAll(Arrays.asList(type.getDeclaredConstructors()));
        all.addAll(Arrays.asList(type.getDeclaredFields()));
        return all;
    }

    private static String textOf(Member member) {
        return member instanceof Executable call ? call.toGenericString() : ((Field) member).toGenericString();
    }
}
