import java.lang.reflect.Method;
import java.lang.reflect.Modifier;
import java.util.Arrays;
import java.util.Set;
import java.util.TreeSet;

/** The public face, as the document has it, and rule 1 of LANGUAGE.md. */
public final class FaceTest {
    private static final String[] FACE = {"int feed(int,int,int,int,int)", "boolean end(int)", "int tongue()", "int fault()",
        "int word(int,int)", "int becomes(int,int,int)", "int text()", "int lay()", "int alike(int)", "int drawn(int,int)",
        "int left(int)", "int leftAt(int,int)", "int means(int)", "long readings(int)", "int sortAt(int,int)", "int turns()",
        "int against(int)", "int twice(int,int)", "int standIn(int)", "int safe()", "int known(int,int)", "int scans(int)",
        "long letters(int)", "int find(int)", "int cheapest(int)", "int verse(int,int)", "int longer(int,int)",
        "int foundAt(int)", "int sayable(int)", "int link(int)", "int lend(int)", "int other(int,int,int,int)", "int mend()",
        "long torn(int,int)", "int sure(int)", "long likeliest()", "int add()", "int take(int)", "int book(int)",
        "boolean image(int)", "boolean restore(int)", "int count(int)"};

    public static void main(String[] args) throws Exception {
        Set<String> due = new TreeSet<>(Arrays.asList(FACE));
        Set<String> names = new TreeSet<>();
        for (Method method : StruckWords.class.getDeclaredMethods()) {
            if (Modifier.isPublic(method.getModifiers())) {
                String types = Arrays.toString(method.getParameterTypes()).replaceAll("[\\[\\] ]", "");
                String shown = method.getReturnType() + " " + method.getName() + "(" + types + ")";
                Check.due("public " + shown + " is due", due.remove(shown), true);
                names.add(method.getName());
                boolean mayThrow = method.getName().equals("word") || method.getName().equals("known");
                Check.due(shown + " tells what it throws",
                    Arrays.toString(method.getExceptionTypes()).contains("java.util.NoSuchElementException"), mayThrow);
                Check.due(shown + " tells no more", method.getExceptionTypes().length, mayThrow ? 1 : 0);
            } else {
                Check.due(method + " is private", Modifier.isPrivate(method.getModifiers()), true);
            }
        }
        Check.due("missing: " + due, due.size(), 0);
        Check.due("public fields", StruckWords.class.getFields().length, 1);
        Check.due("NONE", StruckWords.class.getField("NONE").getInt(null), -1);
        Check.due("its type", StruckWords.class.getField("NONE").getType() == int.class, true);
        Check.due("constructors", StruckWords.class.getDeclaredConstructors().length, 1);
        Check.due("final", Modifier.isFinal(StruckWords.class.getModifiers()), true);
        methodsInside(names);
        Check.end("FaceTest");
    }

    private static void methodsInside(Set<String> names) {
        for (Class<?> inside : StruckWords.class.getDeclaredClasses()) {
            Check.due(inside + " is static", Modifier.isStatic(inside.getModifiers()), true);
            Check.due(inside + " is private", Modifier.isPrivate(inside.getModifiers()), true);
            for (Method method : inside.getDeclaredMethods()) {
                Check.due(method + " bears no name of the face", names.contains(method.getName()), false);
                Check.due(method + " has seven parameters at most", method.getParameterCount() <= 7, true);
            }
        }
        for (Method method : StruckWords.class.getDeclaredMethods()) {
            boolean isPublic = Modifier.isPublic(method.getModifiers());
            Check.due(method + " bears no name of the face", !isPublic && names.contains(method.getName()), false);
        }
        Check.due("classes", StruckWords.class.getDeclaredClasses().length <= 12, true);
    }
}
