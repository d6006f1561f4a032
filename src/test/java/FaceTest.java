import java.lang.reflect.Constructor;
import java.lang.reflect.Field;
import java.lang.reflect.Method;
import java.lang.reflect.Modifier;
import java.util.Set;
import java.util.TreeSet;

/**
 * The members of the class that can be seen from outside are those of the document and no others; the
 * classes inside are hidden and static, and no static field can be set.
 */
public final class FaceTest {
    private static final String[] FACE = {
        "public SideLinkTree()",
        "public int SideLinkTree.add(long,long,long,long,int)",
        "public int SideLinkTree.remove(long,long,long,long,int)",
        "public boolean SideLinkTree.has(long,long,long,long,int)",
        "public void SideLinkTree.seek(long,long,long,long)",
        "public void SideLinkTree.first()",
        "public void SideLinkTree.last()",
        "public boolean SideLinkTree.next()",
        "public boolean SideLinkTree.back()",
        "public long SideLinkTree.word(int)",
        "public int SideLinkTree.place()",
        "public void SideLinkTree.clear()",
        "public boolean SideLinkTree.charge(int)",
        "public int SideLinkTree.count(int)",
        "public int SideLinkTree.level(int,int)"};

    private static boolean isHidden(int modifiers) {
        return !Modifier.isPublic(modifiers) && !Modifier.isProtected(modifiers);
    }

    private static boolean insideIsAsDue() {
        boolean asDue = true;
        for (Class<?> inside : SideLinkTree.class.getDeclaredClasses()) {
            if (!isHidden(inside.getModifiers()) || !Modifier.isStatic(inside.getModifiers())) {
                System.out.println("is not hidden and static: " + inside);
                asDue = false;
            }
        }
        for (Field f : SideLinkTree.class.getDeclaredFields()) {
            if (Modifier.isStatic(f.getModifiers()) && !Modifier.isFinal(f.getModifiers())) {
                System.out.println("is static and not final: " + f);
                asDue = false;
            }
        }
        for (Method m : SideLinkTree.class.getDeclaredMethods()) {
            for (Method other : SideLinkTree.class.getMethods()) {
                if (Modifier.isPrivate(m.getModifiers()) && m.getName().equals(other.getName())) {
                    System.out.println("bears the name of a public one: " + m);
                    asDue = false;
                }
            }
        }
        return asDue;
    }

    public static void main(String[] args) {
        Set<String> seen = new TreeSet<>();
        for (Constructor<?> c : SideLinkTree.class.getDeclaredConstructors()) {
            if (!Modifier.isPrivate(c.getModifiers())) {
                seen.add(c.toString());
            }
        }
        for (Method m : SideLinkTree.class.getDeclaredMethods()) {
            if (!Modifier.isPrivate(m.getModifiers())) {
                seen.add(m.toString());
            }
        }
        for (Field f : SideLinkTree.class.getDeclaredFields()) {
            if (!Modifier.isPrivate(f.getModifiers())) {
                seen.add(f.toString());
            }
        }
        Set<String> due = new TreeSet<>(Set.of(FACE));
        String kind = Modifier.toString(SideLinkTree.class.getModifiers());
        if (!seen.equals(due) || !kind.equals("public final")) {
            System.out.println("seen: " + kind + " with " + seen);
            System.out.println("due:  public final with " + due);
            System.exit(1);
        }
        if (!insideIsAsDue()) {
            System.exit(1);
        }
        System.out.println("the face is as due");
    }
}
