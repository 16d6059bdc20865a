import java.lang.reflect.Constructor;
import java.lang.reflect.Field;
import java.lang.reflect.Method;
import java.lang.reflect.Modifier;
import java.util.Arrays;
import java.util.Set;
import java.util.TreeSet;

/** The public face is the document's, and nothing else of the class can be seen from outside. */
public final class FaceTest {
    private static final String[] FACE = {
        "public static final int SeatProofs.NONE",
        "public static final int SeatProofs.FULL",
        "public SeatProofs()",
        "public int SeatProofs.space(int)",
        "public int SeatProofs.valve(int,int,int,boolean)",
        "public boolean SeatProofs.level(int,long)",
        "public boolean SeatProofs.may(int,int)",
        "public int SeatProofs.safe()",
        "public int SeatProofs.culprit(int)",
        "public int SeatProofs.rows()",
        "public int SeatProofs.row(int,int)",
        "public int SeatProofs.check()",
        "public boolean SeatProofs.set(int,boolean) throws java.lang.IndexOutOfBoundsException",
        "public boolean SeatProofs.unsure(int,boolean) throws java.lang.IndexOutOfBoundsException",
        "public int SeatProofs.tested()",
        "public boolean SeatProofs.drop(int)",
        "public void SeatProofs.clear()",
    };

    public static void main(String[] args) {
        Set<String> seen = new TreeSet<>();
        Set<String> publicNames = new TreeSet<>();
        Set<String> privateNames = new TreeSet<>();
        for (Field f : SeatProofs.class.getDeclaredFields()) {
            if (!Modifier.isPrivate(f.getModifiers())) {
                seen.add(f.toString());
            }
        }
        for (Constructor<?> c : SeatProofs.class.getDeclaredConstructors()) {
            seen.add(c.toString());
        }
        for (Method m : SeatProofs.class.getDeclaredMethods()) {
            if (Modifier.isPrivate(m.getModifiers())) {
                privateNames.add(m.getName());
            } else {
                seen.add(m.toString());
                publicNames.add(m.getName());
            }
        }
        Due due = new Due();
        due.part("face");
        for (String member : FACE) {
            due.yes("there is " + member, seen.contains(member));
        }
        seen.removeAll(Arrays.asList(FACE));
        due.same("members beyond the face " + seen, seen.size(), 0);
        privateNames.retainAll(publicNames);
        due.same("private methods with a public name " + privateNames, privateNames.size(), 0);
        due.yes("public and final", SeatProofs.class.getModifiers() == (Modifier.PUBLIC | Modifier.FINAL));
        due.same("NONE", SeatProofs.NONE, -1);
        due.same("FULL", SeatProofs.FULL, -2);
        due.end();
    }
}
