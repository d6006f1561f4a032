import java.lang.reflect.Constructor;
import java.lang.reflect.Field;
import java.lang.reflect.Method;
import java.lang.reflect.Modifier;
import java.util.Set;
import java.util.TreeSet;

/** The members of the class that can be seen from outside are those of the document and no others. */
public final class FaceTest {
    private static final String[] FACE = {
        "public SideLinkTree()",
        "public int SideLinkTree.add(long,long,long,long,int)",
        "public int SideLinkTree.remove(long,long,long,long,int)",
        "public boolean SideLinkTree.has(long,long,long,long,int)",
        "public void SideLinkTree.seek(long,long,long,long)",
        "public void SideLinkTree.first()",
        "public void SideLinkTree.last()",
        "public boolean SideLinkTree.next()",
        "public boolean SideLinkTree.back()",
        "public long SideLinkTree.word(int)",
        "public int SideLinkTree.place()",
        "public void SideLinkTree.clear()",
        "public boolean SideLinkTree.charge(int)",
        "public int SideLinkTree.count(int)",
        "public int SideLinkTree.level(int,int)"};

    public static void main(String[] args) {
        Set<String> seen = new TreeSet<>();
        for (Constructor<?> c : SideLinkTree.class.getDeclaredConstructors()) {
            if (!Modifier.isPrivate(c.getModifiers())) {
                seen.add(c.toString());
            }
        }
        for (Method m : SideLinkTree.class.getDeclaredMethods()) {
            if (!Modifier.isPrivate(m.getModifiers())) {
                seen.add(m.toString());
            }
        }
        for (Field f : SideLinkTree.class.getDeclaredFields()) {
            if (!Modifier.isPrivate(f.getModifiers())) {
                seen.add(f.toString());
            }
        }
        Set<String> due = new TreeSet<>(Set.of(FACE));
        boolean isFinal = Modifier.isFinal(SideLinkTree.class.getModifiers());
        if (!seen.equals(due) || !isFinal) {
            System.out.println("seen: " + seen + ", final: " + isFinal);
            System.out.println("due:  " + due + ", final: true");
            System.exit(1);
        }
        System.out.println("the face is as due");
    }
}
