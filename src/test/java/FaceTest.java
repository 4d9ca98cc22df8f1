import java.lang.reflect.Constructor;
import java.lang.reflect.Field;
import java.lang.reflect.Member;
import java.lang.reflect.Method;
import java.lang.reflect.Modifier;
import java.util.Set;
import java.util.TreeSet;

/** The face is the document's, and nothing else can be seen from outside. */
public final class FaceTest {
    private static final String BAD = " throws java.lang.IllegalArgumentException";
    private static final String FULL = "java.lang.IndexOutOfBoundsException";
    private static final String MISSING = "java.util.NoSuchElementException";

    public static void main(String[] args) {
        Due due = new Due("FaceTest");
        due.about("the class");
        due.is("public final", () -> Modifier.toString(TermNet.class.getModifiers()));
        due.about("the members");
        due.is(wanted(), () -> seen());
        due.about("a private method never bears the name of a public one");
        due.is(new TreeSet<String>(), () -> doubleNames());
        due.end();
    }

    private static Set<String> wanted() {
        Set<String> face = new TreeSet<>();
        String start = "public int TermNet.";
        face.add("public TermNet()");
        face.add(start + "sign(int)" + BAD + "," + FULL);
        face.add(start + "unknown() throws " + FULL);
        face.add(start + "term(int,int,int,int)" + BAD + "," + FULL);
        face.add("public boolean TermNet.equal(int,int)" + BAD);
        face.add("public boolean TermNet.same(int,int)" + BAD);
        face.add(start + "top(int)" + BAD);
        face.add(start + "part(int,int)" + BAD + "," + MISSING);
        face.add(start + "least(int)" + BAD);
        face.add(start + "size(int)" + BAD);
        face.add(start + "depth(int)" + BAD);
        face.add("public boolean TermNet.inside(int,int)" + BAD);
        face.add(start + "unknowns(int)" + BAD);
        face.add(start + "mark() throws " + FULL);
        face.add(start + "back() throws " + MISSING);
        face.add(start + "count(int)");
        return face;
    }

    private static Set<String> seen() {
        Set<String> face = new TreeSet<>();
        for (Method m : TermNet.class.getDeclaredMethods()) {
            addIfSeen(face, m, m.toString());
        }
        for (Constructor<?> c : TermNet.class.getDeclaredConstructors()) {
            addIfSeen(face, c, c.toString());
        }
        for (Field f : TermNet.class.getDeclaredFields()) {
            addIfSeen(face, f, f.toString());
        }
        return face;
    }

    private static void addIfSeen(Set<String> face, Member m, String text) {
        if (!Modifier.isPrivate(m.getModifiers()) && !m.isSynthetic()) {
            face.add(text);
        }
    }

    private static Set<String> doubleNames() {
        Set<String> shown = new TreeSet<>();
        Set<String> hidden = new TreeSet<>();
        for (Method m : TermNet.class.getDeclaredMethods()) {
            (Modifier.isPublic(m.getModifiers()) ? shown : hidden).add(m.getName());
        }
        hidden.retainAll(shown);
        return hidden;
    }
}
