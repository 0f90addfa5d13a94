import java.io.IOException;
import java.lang.reflect.Method;
import java.lang.reflect.Modifier;
import java.nio.file.Files;
import java.nio.file.Path;

/** README.md names every method, and its calls answer what it tells; it is run from the project's folder. */
public final class ReadmeTest {
    private static final Check CHECK = new Check("ReadmeTest");

    private final String readme;
    private final YarnMill mill = new YarnMill();

    private ReadmeTest(String readme) {
        this.readme = readme;
    }

    public static void main(String[] args) throws IOException {
        ReadmeTest test = new ReadmeTest(Files.readString(Path.of("README.md")));
        test.namesEveryMethod();
        test.makesTheCalls();
        test.runsTheScript();
        CHECK.end();
    }

    private void namesEveryMethod() {
        for (Method method : YarnMill.class.getDeclaredMethods()) {
            if (Modifier.isPublic(method.getModifiers())) {
                CHECK.due(method.getName() + " is named", readme.contains("`" + method.getName() + "`"), true);
            }
        }
    }

    private void tells(String line, long got, long due) {
        CHECK.due("README.md has: " + line, readme.contains("\n" + line + "\n"), true);
        CHECK.due(line, got, due);
    }

    private void makesTheCalls() {
        tells("mill.buyBale(30, 40, 2);          // 0, the id of the bale", mill.buyBale(30, 40, 2), 0);
        tells("mill.blend(20, 35);               // 30, the roving", mill.blend(20, 35), 30);
        int order = mill.addOrder(13, 2);
        tells("int order = mill.addOrder(13, 2); // 0, the id of the order", order, 0);
        tells("mill.spin(order);                 // 3 pieces: 5, 5 and 3 kilometres", mill.spin(order), 3);
        CHECK.due("pieces", Mills.shelf(mill), "5 5 3");
        tells("mill.renderShelf();               // 5, the length of the text \"5-5-3\"", mill.renderShelf(), 5);
        CHECK.due("text", Picture.output(mill), "5-5-3");
        tells("mill.outputAt(1);                 // '-'", mill.outputAt(1), '-');
        tells("mill.spliceCost();                // 20 minutes", mill.spliceCost(), 20);
        tells("mill.spliceAll();                 // 11, the length of the piece that is left", mill.spliceAll(), 11);
        tells("mill.sell(0);                     // 55 coins", mill.sell(0), 55);
        tells("mill.coins();                     // 995", mill.coins(), 995);
        tells("mill.undo();                      // 5 changes can still be undone", mill.undo(), 5);
    }

    private void runsTheScript() {
        String script = "order 9 7;spin 1;sell 0";
        CHECK.due("README.md has the script", readme.contains("\nString script = \"" + script + "\";\n"), true);
        tells("mill.runScript();                 // 3, the number of commands", Mills.run(mill, script), 3);
    }
}
