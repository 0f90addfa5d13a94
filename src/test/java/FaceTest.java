import java.lang.reflect.Constructor;
import java.lang.reflect.Field;
import java.lang.reflect.Member;
import java.lang.reflect.Method;
import java.lang.reflect.Modifier;
import java.util.ArrayList;
import java.util.Arrays;
import java.util.List;
import java.util.TreeSet;

/** The face of the class: just the document's constructor and methods, with their types and exceptions. */
public final class FaceTest {
    private static final Check CHECK = new Check("FaceTest");
    private static final String[] FACE = {
        "int buyBale(int,int,int) IllegalArgumentException,IllegalStateException,UnsupportedOperationException",
        "int blend(int,int) IllegalArgumentException,UnsupportedOperationException,IllegalStateException",
        "int addOrder(int,int) IllegalArgumentException,IllegalStateException",
        "int cancelOrder(int) NoSuchElementException",
        "int setMachines(int) IllegalArgumentException",
        "int spin(int) NoSuchElementException,UnsupportedOperationException,IllegalStateException",
        "int splice(int) IndexOutOfBoundsException",
        "int spliceAll() IllegalStateException",
        "int sell(int) IndexOutOfBoundsException",
        "int baleCount() ",
        "int baleAt(int) NoSuchElementException",
        "int weight(int) NoSuchElementException",
        "int staple(int) NoSuchElementException",
        "int price(int) NoSuchElementException",
        "int baleByValue(int) NoSuchElementException",
        "int blendValue(int,int) IllegalArgumentException,NoSuchElementException",
        "int blendValueBySearch(int,int) IllegalArgumentException,NoSuchElementException",
        "boolean isInBlend(int,int,int) NoSuchElementException,IllegalArgumentException,UnsupportedOperationException",
        "int orderCount() ",
        "int orderAt(int) NoSuchElementException",
        "int lengthOf(int) NoSuchElementException",
        "int twistOf(int) NoSuchElementException",
        "int minutesOf(int) NoSuchElementException",
        "boolean canSpin(int) NoSuchElementException",
        "int kinds() ",
        "int orderByTime(int) NoSuchElementException",
        "int shortestTime() ",
        "int shortestTimeBySearch() ",
        "int pieceCount() ",
        "int pieceLength(int) IndexOutOfBoundsException",
        "int longestPiece() NoSuchElementException",
        "int pieceByLength(int) NoSuchElementException",
        "int worthOf(int) IndexOutOfBoundsException",
        "int spliceCost() ",
        "int spliceCostByMemory() ",
        "int roving() ",
        "int machines() ",
        "int clock() ",
        "int coins() ",
        "int coinsByAccounts() ",
        "int spunTotal() ",
        "int wasteTotal() ",
        "int soldTotal() ",
        "int shelfLength() ",
        "int shelfLengthByAccounts() ",
        "double meanLength() ArithmeticException",
        "float longShare() ArithmeticException",
        "boolean isConsistent() ",
        "int renderShelf() ",
        "int renderOrder(int) NoSuchElementException",
        "char outputAt(int) IndexOutOfBoundsException",
        "int type(char) IllegalArgumentException,IllegalStateException",
        "int runScript() IllegalArgumentException,IllegalStateException",
        "int errorPosition() NoSuchElementException",
        "int failedCommand() NoSuchElementException",
        "int undo() NoSuchElementException",
        "int save() ",
        "int restore() IllegalStateException",
    };

    public static void main(String[] args) {
        hasTheDocumentsMethods();
        hasTheDocumentsConstructor();
        showsNothingElse();
        keepsTheLimits();
        CHECK.end();
    }

    private static String names(Class<?>[] types) {
        List<String> names = new ArrayList<>();
        Arrays.stream(types).forEach(type -> names.add(type.getSimpleName()));
        return String.join(",", names);
    }

    private static void hasTheDocumentsMethods() {
        TreeSet<String> got = new TreeSet<>();
        for (Method method : YarnMill.class.getDeclaredMethods()) {
            if (Modifier.isPublic(method.getModifiers())) {
                CHECK.due(method + " is plain", Modifier.toString(method.getModifiers()), "public");
                got.add(method.getReturnType().getSimpleName() + " " + method.getName() + "("
                        + names(method.getParameterTypes()) + ") " + names(method.getExceptionTypes()));
            }
        }
        CHECK.due("methods", got.toString(), new TreeSet<>(Arrays.asList(FACE)).toString());
    }

    private static void hasTheDocumentsConstructor() {
        Constructor<?>[] constructors = YarnMill.class.getDeclaredConstructors();
        CHECK.due("constructors", constructors.length, 1);
        CHECK.due("parameters", constructors[0].getParameterCount(), 0);
        CHECK.due("modifiers", Modifier.toString(constructors[0].getModifiers()), "public");
        CHECK.due("class", Modifier.toString(YarnMill.class.getModifiers()), "public final");
        CHECK.due("superclass", YarnMill.class.getSuperclass().getName(), "java.lang.Object");
        CHECK.due("interfaces", YarnMill.class.getInterfaces().length, 0);
    }

    private static void showsNothingElse() {
        TreeSet<String> publicNames = new TreeSet<>();
        List<Member> members = new ArrayList<>();
        members.addAll(Arrays.asList(YarnMill.class.getDeclaredMethods()));
        for (Member member : members) {
            if (Modifier.isPublic(member.getModifiers())) {
                publicNames.add(member.getName());
            }
        }
        members.addAll(Arrays.asList(YarnMill.class.getDeclaredFields()));
        for (Member member : members) {
            if (!Modifier.isPublic(member.getModifiers())) {
                CHECK.due(member + " is private", Modifier.isPrivate(member.getModifiers()), true);
                boolean isMethod = member instanceof Method;
                CHECK.due(member + " has its own name", isMethod && publicNames.contains(member.getName()), false);
            } else {
                CHECK.due(member + " is a method", member instanceof Method, true);
            }
        }
        for (Field field : YarnMill.class.getDeclaredFields()) {
            boolean isStatic = Modifier.isStatic(field.getModifiers());
            CHECK.due(field + " is final if static", !isStatic || Modifier.isFinal(field.getModifiers()), true);
        }
        for (Class<?> inside : YarnMill.class.getDeclaredClasses()) {
            boolean isShown = Modifier.isPublic(inside.getModifiers()) || Modifier.isProtected(inside.getModifiers());
            CHECK.due(inside + " is not shown", isShown, false);
            CHECK.due(inside + " is static", Modifier.isStatic(inside.getModifiers()), true);
            for (Method method : inside.getDeclaredMethods()) {
                boolean isPrivate = Modifier.isPrivate(method.getModifiers());
                CHECK.due(method + " has its own name", isPrivate && publicNames.contains(method.getName()), false);
            }
        }
    }

    // LANGUAGE.md, rule 11: seven parameters, some twelve classes, some twenty fields beside the constants.
    private static void keepsTheLimits() {
        List<Class<?>> classes = new ArrayList<>(Arrays.asList(YarnMill.class.getDeclaredClasses()));
        classes.add(YarnMill.class);
        CHECK.due(classes.size() + " classes are few", classes.size() <= 12, true);
        for (Class<?> one : classes) {
            long fields = Arrays.stream(one.getDeclaredFields())
                    .filter(field -> !Modifier.isStatic(field.getModifiers())).count();
            CHECK.due(fields + " fields are few in " + one, fields <= 20, true);
            for (Method method : one.getDeclaredMethods()) {
                CHECK.due(method + " has few parameters", method.getParameterCount() <= 7, true);
            }
        }
    }
}
