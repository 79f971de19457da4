import java.lang.reflect.Constructor;
import java.lang.reflect.Field;
import java.lang.reflect.Method;
import java.lang.reflect.Modifier;
import java.util.Arrays;
import java.util.Set;
import java.util.TreeSet;

/** The public face: every constant and method of the document, and no other. */
final class FaceTests {
    private static final String FACE = "int configure(int) int addEdge(int,int,int) int removeEdge(int) int flipSign(int)"
        + " int appendCharacter(int) int clearText() int loadGraph() int undo() int vertexCount() int edgeCount()"
        + " int headOf(int) int follows(int,int) int degree(int) int components() int rank() int isBalanced()"
        + " long walks(int) long signedWalks(int) long coverWalks(int) long primes(int) long positivePrimes(int)"
        + " int girth() int period() int primeEdge(int,int,int) int primeSign(int,int) long edgeCoefficient(int)"
        + " long signedCoefficient(int) long vertexCoefficient(int) long bassCoefficient(int)"
        + " long zetaCoefficient(int) long edgeValue(int) long taylorAtOne(int) int edgeDegree() int spanningTrees()";

    private FaceTests() {
    }

    static void run(Checks c) {
        c.topic("the public face");
        c.due("INVALID_ARGUMENT", IharaZeta.INVALID_ARGUMENT, -1);
        c.due("ILLEGAL_STATE", IharaZeta.ILLEGAL_STATE, -2);
        c.due("CAPACITY_EXCEEDED", IharaZeta.CAPACITY_EXCEEDED, -3);
        c.due("NONE", IharaZeta.NONE, -9);
        c.due("ILLEGAL", IharaZeta.ILLEGAL, Long.MIN_VALUE);
        c.holds("the class is public and final", IharaZeta.class.getModifiers() == (Modifier.PUBLIC | Modifier.FINAL));
        methods(c);
        fields(c);
        constructors(c);
    }

    private static void methods(Checks c) {
        Set<String> due = new TreeSet<>(Arrays.asList(FACE.split("(?<=\\)) ")));
        Set<String> names = new TreeSet<>();
        Set<String> there = new TreeSet<>();
        for (Method method : IharaZeta.class.getDeclaredMethods()) {
            if (!Modifier.isPrivate(method.getModifiers())) {
                String types = Arrays.toString(method.getParameterTypes()).replaceAll("[\\[\\] ]", "");
                there.add(method.getReturnType() + " " + method.getName() + "(" + types + ")");
                names.add(method.getName());
                c.holds(method + " is public alone", method.getModifiers() == Modifier.PUBLIC);
            }
        }
        c.holds("the methods are those of the document", there.equals(due));
        c.due("the number of methods", there.size(), 34);
        noSharedNames(c, names, IharaZeta.class);
        for (Class<?> inside : IharaZeta.class.getDeclaredClasses()) {
            c.holds(inside + " is static", Modifier.isStatic(inside.getModifiers()));
            noSharedNames(c, names, inside);
        }
    }

    private static void noSharedNames(Checks c, Set<String> names, Class<?> type) {
        for (Method method : type.getDeclaredMethods()) {
            boolean open = Modifier.isPublic(method.getModifiers()) && type == IharaZeta.class;
            c.holds(method + " has a name of its own", open || !names.contains(method.getName()));
        }
    }

    private static void fields(Checks c) {
        int open = 0;
        for (Field field : IharaZeta.class.getDeclaredFields()) {
            if (!Modifier.isPrivate(field.getModifiers())) {
                open++;
                c.holds(field + " is a constant",
                    field.getModifiers() == (Modifier.PUBLIC | Modifier.STATIC | Modifier.FINAL));
            } else if (Modifier.isStatic(field.getModifiers())) {
                c.holds(field + " is final", Modifier.isFinal(field.getModifiers()));
            }
        }
        c.due("the number of constants", open, 5);
    }

    private static void constructors(Checks c) {
        Constructor<?>[] all = IharaZeta.class.getDeclaredConstructors();
        c.due("the number of constructors", all.length, 1);
        c.holds("it is public and takes nothing", all[0].getModifiers() == Modifier.PUBLIC && all[0].getParameterCount() == 0);
    }
}
