import java.lang.reflect.Constructor;
import java.lang.reflect.Field;
import java.lang.reflect.Method;
import java.lang.reflect.Modifier;
import java.util.Set;
import java.util.TreeSet;

// The public face is the document's, with no other member that is not private, and no private method
// bears the name of a public one (LANGUAGE.md, rule 1); no state is held in common by objects (rule 5).
public final class PairThreadsFace {
    private static final Set<String> FACE = Set.of(
            "public static final int PairThreads.NONE",
            "public static final int PairThreads.FULL",
            "public PairThreads()",
            "public int PairThreads.link(int,int)",
            "public int PairThreads.unlink(int,int)",
            "public int PairThreads.place(int,int)",
            "public int PairThreads.degree(int,int)",
            "public int PairThreads.other(int,int,int)",
            "public int PairThreads.drop(int,int)",
            "public int PairThreads.rename(int,int,int)",
            "public int PairThreads.at(int,int)",
            "public int PairThreads.count(int)",
            "public int PairThreads.part(int,int)",
            "public int PairThreads.way(int,int,int,int)",
            "public int PairThreads.clear()",
            "public int PairThreads.check()");

    private static Set<String> visible() {
        Set<String> found = new TreeSet<>();
        for (Field f : PairThreads.class.getDeclaredFields()) {
            if (!Modifier.isPrivate(f.getModifiers())) {
                found.add(f.toString());
            }
        }
        for (Constructor<?> c : PairThreads.class.getDeclaredConstructors()) {
            if (!Modifier.isPrivate(c.getModifiers())) {
                found.add(c.toString());
            }
        }
        for (Method m : PairThreads.class.getDeclaredMethods()) {
            if (!Modifier.isPrivate(m.getModifiers())) {
                found.add(m.toString());
            }
        }
        return found;
    }

    private static Set<String> privateWithAPublicName() {
        Set<String> found = new TreeSet<>();
        addPrivateWithAPublicName(PairThreads.class, found);
        for (Class<?> inside : PairThreads.class.getDeclaredClasses()) {
            addPrivateWithAPublicName(inside, found);
        }
        return found;
    }

    private static void addPrivateWithAPublicName(Class<?> of, Set<String> found) {
        for (Method m : of.getDeclaredMethods()) {
            boolean isPublic = Modifier.isPublic(m.getModifiers());
            if (!isPublic && FACE.stream().anyMatch(f -> f.contains("." + m.getName() + "("))) {
                found.add(m.toString());
            }
        }
    }

    private static Set<String> staticState() {
        Set<String> found = new TreeSet<>();
        addStaticState(PairThreads.class, found);
        for (Class<?> inside : PairThreads.class.getDeclaredClasses()) {
            addStaticState(inside, found);
        }
        return found;
    }

    private static void addStaticState(Class<?> of, Set<String> found) {
        for (Field f : of.getDeclaredFields()) {
            boolean isConstant = Modifier.isFinal(f.getModifiers()) && f.getType() == int.class;
            if (Modifier.isStatic(f.getModifiers()) && !isConstant) {
                found.add(f.toString());
            }
        }
    }

    /** The compiler takes only a constant as a label, so it looks at their being constants. */
    private static String constant(int answer) {
        switch (answer) {
            case PairThreads.NONE:
                return "NONE";
            case PairThreads.FULL:
                return "FULL";
            default:
                return "neither";
        }
    }

    public static void main(String[] args) {
        int wrong = 0;
        if (!constant(-1).equals("NONE") || !constant(-2).equals("FULL")) {
            wrong++;
            System.out.println("NONE is " + PairThreads.NONE + ", FULL is " + PairThreads.FULL + ", due are -1 and -2");
        }
        Set<String> statics = staticState();
        if (!statics.isEmpty()) {
            wrong++;
            System.out.println("static, and no constant: " + statics);
        }
        Set<String> privates = privateWithAPublicName();
        if (!privates.isEmpty()) {
            wrong++;
            System.out.println("not public, with the name of a public method: " + privates);
        }
        Set<String> found = visible();
        if (!found.equals(FACE)) {
            wrong++;
            System.out.println("the face is " + found + ", due is " + new TreeSet<>(FACE));
        }
        int modifiers = PairThreads.class.getModifiers();
        if (!Modifier.isPublic(modifiers) || !Modifier.isFinal(modifiers)) {
            wrong++;
            System.out.println("the class is not public and final");
        }
        for (Class<?> inside : PairThreads.class.getDeclaredClasses()) {
            int m = inside.getModifiers();
            if (!Modifier.isStatic(m) || Modifier.isPublic(m) || Modifier.isProtected(m)) {
                wrong++;
                System.out.println(inside + " is not static, or can be seen outside");
            }
        }
        System.out.println(wrong == 0 ? "the face is as due" : "the face is not as due");
        if (wrong != 0) {
            System.exit(1);
        }
    }
}
