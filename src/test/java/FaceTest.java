import java.lang.reflect.Constructor;
import java.lang.reflect.Field;
import java.lang.reflect.Method;
import java.lang.reflect.Modifier;
import java.util.Arrays;
import java.util.HashSet;
import java.util.Set;
import java.util.TreeSet;

/** 'The public face': what the class shows is what the document writes, and nothing else. */
public final class FaceTest {
    private static final String INDEX = "IndexOutOfBoundsException";
    private static final String ARGUMENT = "IllegalArgumentException";
    private static final String STATE = "IllegalStateException";
    private static final Check check = new Check();

    public static void main(String[] args) {
        theClassIsPublicAndFinal();
        theConstantsAreConstants();
        theConstantsAreThoseOfTheDocument();
        theConstructorIsPublicAndThrowsNothing();
        theMethodsAreThoseOfTheDocument();
        theClassesInsideAreHidden();
        noPrivateMethodBearsTheNameOfAPublicOne();
        noStateIsStatic();
        noEqualsHashCodeOrToString();
        check.end();
    }

    private static void theClassIsPublicAndFinal() {
        check.same("modifiers", Amendgrant.class.getModifiers(), Modifier.PUBLIC | Modifier.FINAL);
        check.same("no class above", Amendgrant.class.getSuperclass() == Object.class, true);
        check.same("interfaces", Amendgrant.class.getInterfaces().length, 0);
        check.same("no package", Amendgrant.class.getPackageName().isEmpty(), true);
    }

    /** A label of a switch must be a constant: this would not compile with anything less. */
    private static String named(int state) {
        switch (state) {
            case Amendgrant.NONE:
                return "NONE";
            case Amendgrant.OPEN:
                return "OPEN";
            case Amendgrant.PASSED:
                return "PASSED";
            case Amendgrant.FALLEN:
                return "FALLEN";
            default:
                return "";
        }
    }

    private static String namedOfGrant(int state) {
        switch (state) {
            case Amendgrant.LIVE:
                return "LIVE";
            case Amendgrant.CUT:
                return "CUT";
            case Amendgrant.WITHDRAWN:
                return "WITHDRAWN";
            default:
                return "";
        }
    }

    private static void theConstantsAreConstants() {
        String[] ofAmendments = {"NONE", "OPEN", "PASSED", "FALLEN"};
        for (int i = 0; i < ofAmendments.length; i++) {
            check.same(ofAmendments[i], named(i - 1).equals(ofAmendments[i]), true);
        }
        String[] ofGrants = {"LIVE", "CUT", "WITHDRAWN"};
        for (int i = 0; i < ofGrants.length; i++) {
            check.same(ofGrants[i], namedOfGrant(i).equals(ofGrants[i]), true);
        }
    }

    private static void theConstantsAreThoseOfTheDocument() {
        Set<String> due = new TreeSet<>();
        for (String name : new String[] {"NONE", "OPEN", "PASSED", "FALLEN", "LIVE", "CUT", "WITHDRAWN"}) {
            due.add("public static final int Amendgrant." + name);
        }
        Set<String> shown = new TreeSet<>();
        for (Field field : Amendgrant.class.getDeclaredFields()) {
            if (!Modifier.isPrivate(field.getModifiers())) {
                shown.add(field.toString());
            }
        }
        sameTexts("constant", shown, due);
    }

    private static void theConstructorIsPublicAndThrowsNothing() {
        Constructor<?>[] made = Amendgrant.class.getDeclaredConstructors();
        check.same("constructors", made.length, 1);
        check.same(made[0].toString(), made[0].toString().equals("public Amendgrant()"), true);
    }

    private static void theMethodsAreThoseOfTheDocument() {
        Set<String> due = new TreeSet<>(Arrays.asList(
            method("int line(int,int)", ARGUMENT, STATE),
            method("int income(int,int)", ARGUMENT),
            method("int amend(int,int)", INDEX, ARGUMENT, STATE),
            method("int amendOn(int,int)", INDEX, ARGUMENT, STATE),
            method("int vote(int,int,boolean)", INDEX, STATE),
            method("int decide(int)", INDEX, STATE),
            method("int strike(int)", INDEX, STATE),
            method("int grant(int,int,int,int,int)", INDEX, ARGUMENT, STATE),
            method("int pay(int,int)", INDEX, ARGUMENT, STATE),
            method("boolean report(int)", INDEX, STATE),
            method("int spend(int,int)", INDEX, ARGUMENT, STATE),
            method("int audit(int,int)", INDEX, ARGUMENT, STATE),
            method("int repay(int,int)", INDEX, ARGUMENT, STATE),
            method("int target(int)", ARGUMENT),
            method("int month(int)", ARGUMENT),
            method("int ofLine(int,int)", INDEX, ARGUMENT),
            method("int standsAnew(int)", INDEX),
            method("int ofAmendment(int,int)", INDEX, ARGUMENT),
            method("int ofGrant(int,int)", INDEX, ARGUMENT),
            method("int owes(int)", INDEX),
            method("int reserve()"),
            method("int ofSource(int,int)", ARGUMENT)));
        Set<String> shown = new TreeSet<>();
        for (Method method : Amendgrant.class.getDeclaredMethods()) {
            if (!Modifier.isPrivate(method.getModifiers())) {
                shown.add(method.toString());
            }
        }
        sameTexts("method", shown, due);
    }

    /** As reflection writes a method: its type, its class before its name, and what it throws. */
    private static String method(String typeAndCall, String... thrown) {
        StringBuilder text = new StringBuilder("public ").append(typeAndCall.replace(" ", " Amendgrant."));
        for (int i = 0; i < thrown.length; i++) {
            text.append(i == 0 ? " throws java.lang." : ",java.lang.").append(thrown[i]);
        }
        return text.toString();
    }

    private static void sameTexts(String what, Set<String> shown, Set<String> due) {
        for (String text : due) {
            check.same(what + " is there: " + text, shown.contains(text), true);
        }
        for (String text : shown) {
            check.same(what + " is due: " + text, due.contains(text), true);
        }
    }

    private static void theClassesInsideAreHidden() {
        for (Class<?> inside : Amendgrant.class.getDeclaredClasses()) {
            int modifiers = inside.getModifiers();
            check.same(inside + " is hidden", Modifier.isPublic(modifiers) || Modifier.isProtected(modifiers), false);
            check.same(inside + " is static", Modifier.isStatic(modifiers), true);
        }
    }

    private static void noPrivateMethodBearsTheNameOfAPublicOne() {
        Set<String> names = new HashSet<>();
        for (Method method : Amendgrant.class.getMethods()) {
            names.add(method.getName());
        }
        for (Method method : Amendgrant.class.getDeclaredMethods()) {
            if (Modifier.isPrivate(method.getModifiers())) {
                check.same(method.getName() + " is a public name", names.contains(method.getName()), false);
            }
        }
    }

    private static void noStateIsStatic() {
        noStateIsStaticIn(Amendgrant.class);
        for (Class<?> inside : Amendgrant.class.getDeclaredClasses()) {
            noStateIsStaticIn(inside);
        }
    }

    private static void noStateIsStaticIn(Class<?> holder) {
        for (Field field : holder.getDeclaredFields()) {
            if (Modifier.isStatic(field.getModifiers())) {
                boolean isConstant = Modifier.isFinal(field.getModifiers()) && field.getType() == int.class;
                check.same(field + " is a constant", isConstant, true);
            }
        }
    }

    private static void noEqualsHashCodeOrToString() {
        Amendgrant x = new Amendgrant();
        Amendgrant y = new Amendgrant();
        check.same("equals is Object's", x.equals(y), false);
        for (Class<?> inside : Amendgrant.class.getDeclaredClasses()) {
            for (Method method : inside.getDeclaredMethods()) {
                boolean isOwn = Set.of("equals", "hashCode", "toString").contains(method.getName());
                check.same(inside + " has its own " + method.getName(), isOwn, false);
            }
        }
    }
}
