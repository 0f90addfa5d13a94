import java.lang.reflect.InvocationTargetException;
import java.lang.reflect.Method;
import java.util.ArrayList;
import java.util.List;

/** All promises: runs of 512 calls on the program and on the reference, which must answer the same each time. */
public final class ModelTest {
    private static final int RUNS = 600;
    private static final int CALLS = 512;
    private static final Check CHECK = new Check("ModelTest");
    private static final String[] CHANGES = {"buyBale", "buyBale", "buyBale", "blend", "addOrder", "addOrder", "spin",
        "spin", "cancelOrder", "setMachines", "splice", "spliceAll", "sell", "sell", "undo", "save", "restore",
        "script"};

    private final Dice dice;
    private final YarnMill mill = new YarnMill();
    private final ReferenceMill reference = new ReferenceMill();
    private final StringBuilder calls = new StringBuilder();
    private final List<Method> face;
    /** Each run favours some calls: how often, in a hundred calls, a change is made, and which changes are left out. */
    private final int changesInHundred;
    private final int leftOut;
    private boolean right = true;

    private ModelTest(int seed, List<Method> face) {
        dice = new Dice(seed);
        this.face = face;
        changesInHundred = 30 + dice.below(60);
        leftOut = dice.below(1 << CHANGES.length) & dice.below(1 << CHANGES.length) & dice.below(1 << CHANGES.length);
    }

    /** A row of numbers that looks thrown, but is the same each time. */
    private static final class Dice {
        private long seed;

        Dice(long seed) {
            this.seed = seed * 7919 + 17;
        }

        int below(int bound) {
            seed = seed * 6364136223846793005L + 1442695040888963407L;
            return (int) Math.floorMod(seed >>> 33, (long) bound);
        }

        int between(int least, int most) {
            return least + below(most - least + 1);
        }

        boolean oneOf(int number) {
            return below(number) == 0;
        }
    }

    public static void main(String[] args) throws ReflectiveOperationException {
        List<Method> face = new ArrayList<>();
        for (Method method : ReferenceMill.class.getDeclaredMethods()) {
            if (java.lang.reflect.Modifier.isPublic(method.getModifiers())) {
                face.add(method);
            }
        }
        face.sort((one, other) -> one.getName().compareTo(other.getName()));
        CHECK.due("methods", face.size(), 58);
        for (int run = 0; run < RUNS; run++) {
            new ModelTest(run, face).run();
        }
        CHECK.end();
    }

    private void run() throws ReflectiveOperationException {
        for (int call = 0; call < CALLS && right; call++) {
            if (dice.below(100) < changesInHundred) {
                int change = dice.below(CHANGES.length);
                if ((leftOut >> change & 1) == 0) {
                    makeChange(CHANGES[change]);
                }
            } else {
                Method method = face.get(dice.below(face.size()));
                ask(method, arguments(method));
            }
        }
        for (Method method : face) {
            if (right && method.getParameterCount() == 0 && !method.getName().equals("runScript")) {
                ask(method, new Object[0]);
            }
        }
    }

    private void makeChange(String name) throws ReflectiveOperationException {
        if (name.equals("script")) {
            String script = script();
            for (int index = 0; index < script.length() && right; index++) {
                ask(method("type"), new Object[] {script.charAt(index)});
            }
            ask(method("runScript"), new Object[0]);
            return;
        }
        ask(method(name), arguments(method(name)));
    }

    private Method method(String name) {
        return face.stream().filter(method -> method.getName().equals(name)).findFirst().orElseThrow();
    }

    private void ask(Method method, Object[] arguments) throws ReflectiveOperationException {
        Method asked = YarnMill.class.getMethod(method.getName(), method.getParameterTypes());
        calls.append(method.getName()).append(List.of(arguments)).append(' ');
        String due = answer(method, reference, arguments);
        String got = answer(asked, mill, arguments);
        right = got.equals(due);
        CHECK.due(right ? method.getName() : calls.toString(), got, due);
    }

    private static String answer(Method method, Object target, Object[] arguments) throws ReflectiveOperationException {
        try {
            return method.invoke(target, arguments).toString();
        } catch (InvocationTargetException thrown) {
            return thrown.getCause().getClass().getName();
        }
    }

    private Object[] arguments(Method method) {
        Object[] arguments = new Object[method.getParameterCount()];
        for (int index = 0; index < arguments.length; index++) {
            String name = method.getName();
            arguments[index] = name.equals("type") ? (Object) sign() : (Object) number(name, index);
        }
        return arguments;
    }

    private char sign() {
        return dice.oneOf(3) ? (char) dice.between(20, 140) : "bale spinjocrdm 0123456789;".charAt(dice.below(27));
    }

    private int number(String name, int index) {
        if (dice.oneOf(60)) {
            return new int[] {-1, 0, Integer.MIN_VALUE, Integer.MAX_VALUE, 13, 61, 501}[dice.below(7)];
        }
        switch (name + index) {
            case "buyBale0":
                return dice.oneOf(2) ? dice.between(1, 6) : dice.between(1, 51);
            case "buyBale1", "blend1", "blendValue1", "blendValueBySearch1", "isInBlend2":
                return dice.oneOf(2) ? dice.between(3, 4) * 10 : dice.between(10, 61);
            case "buyBale2":
                return dice.oneOf(8) ? dice.between(1, 21) : dice.between(1, 3);
            case "blend0", "blendValue0", "blendValueBySearch0", "isInBlend1":
                return dice.oneOf(3) ? dice.between(1, 500) : dice.between(1, 60);
            case "addOrder0":
                return dice.oneOf(2) ? dice.between(1, 12) : dice.between(1, 41);
            case "addOrder1":
                return dice.between(1, 9);
            case "setMachines0":
                return dice.between(0, 4);
            default:
                return known(name);
        }
    }

    /** Mostly a number that the call knows: an id, a position or a rank. */
    private int known(String name) {
        boolean isOrder = List.of("cancelOrder", "spin", "lengthOf", "twistOf", "minutesOf", "canSpin", "renderOrder")
                .contains(name);
        if (isOrder && reference.orderCount() > 0 && !dice.oneOf(8)) {
            return reference.orderAt(dice.below(reference.orderCount()));
        }
        boolean isBale = List.of("weight", "staple", "price", "isInBlend").contains(name);
        if (isBale && reference.baleCount() > 0 && !dice.oneOf(8)) {
            return reference.baleAt(dice.below(reference.baleCount()));
        }
        return dice.between(-1, dice.oneOf(2) ? 4 : 13);
    }

    private String script() {
        StringBuilder script = new StringBuilder();
        int commands = dice.between(1, 5);
        for (int command = 0; command < commands; command++) {
            script.append(command == 0 ? "" : ";").append(command());
        }
        if (dice.oneOf(6)) {
            script.setCharAt(dice.below(script.length()), sign());
        }
        if (dice.oneOf(8)) {
            script.setLength(dice.below(script.length()));
        }
        return script.toString();
    }

    private String command() {
        String[] forms = {"bale %buyBale0 %buyBale1 %buyBale2", "blend %blend0 %blend1", "order %addOrder0 %addOrder1",
            "cancel %cancelOrder0", "machines %setMachines0", "spin %spin0", "splice %splice0", "join", "sell %sell0"};
        String[] words = forms[dice.below(forms.length)].split("%");
        StringBuilder command = new StringBuilder(words[0]);
        for (int index = 1; index < words.length; index++) {
            String name = words[index].trim();
            int last = name.length() - 1;
            int number = number(name.substring(0, last), name.charAt(last) - '0');
            command.append(index > 1 ? " " : "").append(number < 0 || number > 999 ? "" : number);
        }
        return command.toString();
    }
}
