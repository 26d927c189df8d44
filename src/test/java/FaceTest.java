import java.lang.reflect.Constructor;
import java.lang.reflect.Field;
import java.lang.reflect.Method;
import java.lang.reflect.Modifier;
import java.util.Set;
import java.util.TreeSet;

/** The class has the public face of the document and no member more that isn't private. */
public final class FaceTest {
    private static final Due due = new Due("face");

    public static void main(String[] args) {
        Set<String> face = new TreeSet<>();
        for (Constructor<?> made : ConflictSolve.class.getDeclaredConstructors()) {
            add(face, made.getModifiers(), made.toString());
        }
        for (Method method : ConflictSolve.class.getDeclaredMethods()) {
            add(face, method.getModifiers(), method.toString());
        }
        for (Field field : ConflictSolve.class.getDeclaredFields()) {
            add(face, field.getModifiers(), field.toString());
        }
        Set<String> want = Set.of(
                "public ConflictSolve()",
                "public static final int ConflictSolve.NONE",
                "public int ConflictSolve.pack(int)",
                "public boolean ConflictSolve.row(int,int,int,int,int)",
                "public int ConflictSolve.demand(int,int,int)",
                "public boolean ConflictSolve.or(int,int)",
                "public boolean ConflictSolve.leaveOut(int,boolean)",
                "public boolean ConflictSolve.lock(int,int)",
                "public int ConflictSolve.solve()",
                "public int ConflictSolve.chosen(int)",
                "public int ConflictSolve.blame()",
                "public int ConflictSolve.blamed(int)",
                "public boolean ConflictSolve.can(int,int)",
                "public boolean ConflictSolve.must(int)");
        due.is("the face is " + face + ": as the document's", face.equals(want), true);
        int modifiers = ConflictSolve.class.getModifiers();
        due.is("public and final", modifiers, Modifier.PUBLIC | Modifier.FINAL);
        due.end();
    }

    private static void add(Set<String> face, int modifiers, String member) {
        if (!Modifier.isPrivate(modifiers)) {
            face.add(member);
        }
    }
}
