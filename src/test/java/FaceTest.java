import java.lang.reflect.Constructor;
import java.lang.reflect.Field;
import java.lang.reflect.Method;
import java.lang.reflect.Modifier;
import java.util.ArrayList;
import java.util.List;
import java.util.Set;
import java.util.TreeSet;

/** The face of the class is the document's, and nothing else of it is seen. */
public final class FaceTest {
    private static final Check CHECK = new Check();

    private static final String[] FACE = {
        "int feed(int,int,int,int,int)", "int election(int)", "int fault()", "int count(int)", "int race(int,int)",
        "long risk(int)", "long riskOf(int,int)", "int worst(int)", "long chance(int,int)", "int enough(int)",
        "int flips(int,int)", "int say()", "int said(int)", "int votes(int,int,boolean)", "int ballot(int,int,int)",
        "int drawn(int)", "int times(int)", "int mistakes(int,int)", "long riskAt(int,int)", "int draw(int)",
        "long next(int,int)", "int paper(int,int,int)", "int way(int,int)", "int rule(int,int)", "int undo()",
        "int need(int,int,int)", "int bestFactor(int,int,int)", "int more(int)", "int tries(int,int,int,int)",
        "int quickest(int,int)", "int ask(int)", "void image()", "boolean back()"};

    public static void main(String[] args) throws Exception {
        methods();
        otherMembers();
        classesInside();
        CHECK.end();
    }

    private static void methods() {
        Set<String> due = new TreeSet<>(List.of(FACE));
        Set<String> seen = new TreeSet<>();
        Set<String> publicNames = new TreeSet<>();
        List<Method> rest = new ArrayList<>();
        for (Method m : DrawnBallots.class.getDeclaredMethods()) {
            if (Modifier.isPublic(m.getModifiers())) {
                seen.add(told(m));
                publicNames.add(m.getName());
                CHECK.due(m + " is static", Modifier.isStatic(m.getModifiers()), false);
            } else if (!m.isSynthetic()) {
                rest.add(m);
            }
        }
        CHECK.due("public methods", seen.toString(), due.toString());
        for (Method m : rest) {
            CHECK.due(m + " is private", Modifier.isPrivate(m.getModifiers()), true);
            CHECK.due(m + " bears the name of a public one", publicNames.contains(m.getName()), false);
        }
    }

    private static String told(Method m) {
        StringBuilder text = new StringBuilder(m.getReturnType() + " " + m.getName() + "(");
        String comma = "";
        for (Class<?> type : m.getParameterTypes()) {
            text.append(comma).append(type);
            comma = ",";
        }
        return text.append(")").toString();
    }

    private static void otherMembers() throws Exception {
        CHECK.due("the class is public and final", DrawnBallots.class.getModifiers(), Modifier.PUBLIC | Modifier.FINAL);
        Constructor<?>[] made = DrawnBallots.class.getDeclaredConstructors();
        CHECK.due("constructors", made.length, 1);
        CHECK.due("the constructor's parameters", made[0].getParameterCount(), 0);
        int publicFields = 0;
        for (Field f : DrawnBallots.class.getDeclaredFields()) {
            if (Modifier.isPublic(f.getModifiers())) {
                publicFields++;
            } else {
                CHECK.due(f + " is private", Modifier.isPrivate(f.getModifiers()), true);
            }
        }
        CHECK.due("public fields", publicFields, 1);
        CHECK.due("NONE is a constant", DrawnBallots.class.getField("NONE").getModifiers(),
            Modifier.PUBLIC | Modifier.STATIC | Modifier.FINAL);
        CHECK.due("NONE", DrawnBallots.NONE, -1);
    }

    private static void classesInside() {
        for (Class<?> inside : DrawnBallots.class.getDeclaredClasses()) {
            CHECK.due(inside + " is private", Modifier.isPrivate(inside.getModifiers()), true);
            CHECK.due(inside + " is static", Modifier.isStatic(inside.getModifiers()), true);
            for (Field f : inside.getDeclaredFields()) {
                CHECK.due(f + ", if static, is final",
                    Modifier.isStatic(f.getModifiers()) && !Modifier.isFinal(f.getModifiers()), false);
            }
        }
    }
}
