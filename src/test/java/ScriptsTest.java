import java.util.NoSuchElementException;

/** Promises 53 to 56. */
public final class ScriptsTest {
    private static final Check CHECK = new Check("ScriptsTest");

    public static void main(String[] args) {
        typesCharacters();
        refusesToType();
        runsEachCommand();
        countsCommands();
        readsNumbers();
        tellsErrorPositions();
        tellsFailedCommands();
        failsWithoutAnyEffect();
        emptiesTheBuffer();
        remembersErrorsAndFailuresApart();
        CHECK.end();
    }

    private static void typesCharacters() {
        YarnMill mill = new YarnMill();
        for (int length = 1; length <= 60; length++) {
            CHECK.due("length", mill.type((char) (31 + length)), length);
        }
        CHECK.refused("61st", mill, IllegalStateException.class, () -> mill.type('a'));
        CHECK.refused("61st and range", mill, IllegalArgumentException.class, () -> mill.type((char) 127));
        CHECK.throwsJust("run", IllegalArgumentException.class, mill::runScript);
        CHECK.due("first again", mill.type((char) 126), 1);
    }

    private static void refusesToType() {
        YarnMill mill = new YarnMill();
        for (int code : new int[] {0, 9, 10, 31, 127, 128, 233, 65535}) {
            CHECK.refused("type " + code, mill, IllegalArgumentException.class, () -> mill.type((char) code));
        }
        CHECK.due("space", mill.type(' '), 1);
        CHECK.due("tilde", mill.type('~'), 2);
    }

    private static void runsEachCommand() {
        YarnMill mill = new YarnMill();
        CHECK.due("bale", Mills.run(mill, "bale 40 31 2"), 1);
        CHECK.due("weight", mill.weight(0), 40);
        CHECK.due("staple", mill.staple(0), 31);
        CHECK.due("price", mill.price(0), 2);
        CHECK.due("coins", mill.coins(), 920);
        Mills.run(mill, "blend 39 30");
        CHECK.due("roving", mill.roving(), 40);
        Mills.run(mill, "order 20 3");
        CHECK.due("length", mill.lengthOf(0), 20);
        CHECK.due("twist", mill.twistOf(0), 3);
        Mills.run(mill, "order 1 1");
        Mills.run(mill, "cancel 1");
        CHECK.due("orders", mill.orderCount(), 1);
        Mills.run(mill, "machines 3");
        CHECK.due("machines", mill.machines(), 3);
        Mills.run(mill, "spin 0");
        CHECK.due("shelf", Mills.shelf(mill), "6 6 6 2");
        CHECK.due("clock", mill.clock(), 60);
        Mills.run(mill, "splice 2");
        CHECK.due("shelf", Mills.shelf(mill), "6 6 7");
        Mills.run(mill, "sell 1");
        CHECK.due("shelf", Mills.shelf(mill), "6 7");
        CHECK.due("coins", mill.coins(), 932);
        Mills.run(mill, "join");
        CHECK.due("shelf", Mills.shelf(mill), "12");
        CHECK.due("clock", mill.clock(), 81);
        CHECK.due("waste", mill.wasteTotal(), 2);
    }

    private static void countsCommands() {
        YarnMill mill = new YarnMill();
        CHECK.due("five", Mills.run(mill, "bale 30 40 2;blend 1 10;order 13 2;order 13 2;spin 0"), 5);
        CHECK.due("shelf", Mills.shelf(mill), "5 5 3");
        CHECK.due("three", Mills.run(mill, "splice 0;join;sell 0"), 3);
        CHECK.due("coins", mill.coins(), 1000 - 60 + 55);
        CHECK.due("two", Mills.run(mill, "machines 2;machines 2"), 2);
        YarnMill full = Mills.withPieces(0, 1, 1, 1, 1, 1, 1, 1, 1, 1, 1, 1, 1);
        CHECK.due("most of one digit", Mills.run(full, "sell 0;sell 0;sell 0;sell 0;sell 0;sell 0;sell 0;sell 0"), 8);
        CHECK.due("pieces", full.pieceCount(), 4);
        CHECK.throwsJust("twelve", IllegalStateException.class,
                () -> Mills.run(full, "join;join;join;join;join;join;join;join;join;join;join;join"));
        CHECK.due("the second joins nothing", full.failedCommand(), 1);
    }

    private static void readsNumbers() {
        YarnMill mill = new YarnMill();
        CHECK.due("zeros in front", Mills.run(mill, "bale 005 010 001;order 040 09"), 2);
        CHECK.due("weight", mill.weight(0), 5);
        CHECK.due("staple", mill.staple(0), 10);
        CHECK.due("price", mill.price(0), 1);
        CHECK.due("length", mill.lengthOf(0), 40);
        CHECK.due("twist", mill.twistOf(0), 9);
        CHECK.throwsJust("999", IllegalStateException.class, () -> Mills.run(mill, "cancel 999"));
        CHECK.throwsJust("1000", IllegalArgumentException.class, () -> Mills.run(mill, "cancel 1000"));
        CHECK.due("error", mill.errorPosition(), 10);
    }

    private static void dueError(String script, int due) {
        YarnMill mill = new YarnMill();
        Mills.type(mill, script);
        String before = Picture.of(mill).replaceAll("error=.*", "");
        CHECK.throwsJust("\"" + script + "\"", IllegalArgumentException.class, mill::runScript);
        CHECK.due("state after \"" + script + "\"", Picture.of(mill).replaceAll("error=.*", ""), before);
        CHECK.due("error of \"" + script + "\"", mill.errorPosition(), due);
        CHECK.refused("failed command", mill, NoSuchElementException.class, mill::failedCommand);
    }

    private static void tellsErrorPositions() {
        String[] early = {"", "b", "bal", "bale", "bale ", "bale 1", "bale 1 ", "bale 123 4", "bale 1 2 ", "bl",
            "blend ", "blend 500 ", "o", "order 1", "c", "cancel ", "m", "machines ", "s", "sp", "spin ", "splic",
            "splice ", "se", "sell ", "j", "joi", "join;", "join;s", "sell 0;join;"};
        for (String script : early) {
            dueError(script, script.length());
        }
        // The mark | stands before the first character that cannot go on.
        String[] late = {"|x", "| join", "|Join", "|;", "|1", "ba|d", "bl|a", "b|x", "bale|1", "bale |x", "bale | 1",
            "bale 1|x", "bale 1|;", "bale 123|4", "bale 1 |;", "bale 1 2|;", "bale 1 2 |;", "bale 1 2 3| ",
            "bale 1 2 333|3", "blend 1 2| 3", "blend 000|0 1", "blend 1 000|0",
            "order 000|0 1", "order 1 000|0", "cancel 000|0", "spin 000|0", "sell 000|0", "bale 1 2 3|join",
            "blend|;", "order 12 |;",
            "order |-1", "cancel 1| ", "cancel |-1", "machines 1|2", "machines |x", "machines 3|x",
            "sp|a", "spi|c", "spl|a", "spin 0| ", "splice 000|0", "se|a", "s|x", "join| ",
            "join|0", "join|join", "join;|;", "join;| join", "join;join;|x", "sell 0;sell|0",
            "sell 1|.5", "spin 1|,2", "join;order 1 2;canc|le 1", "machines |;", "sell |;"};
        for (String script : late) {
            dueError(script.replace("|", ""), script.indexOf('|'));
        }
        dueError("join;join;join;join;join;join;join;join;join;join;join;join;", 60);
        dueError("machines 1;machines 1;machines 1;machines 1;machines 1;machi", 60);
    }

    private static void dueFailed(YarnMill mill, String script, int due) {
        String before = Picture.of(mill).replaceAll("failed=.*", "");
        CHECK.throwsJust("\"" + script + "\"", IllegalStateException.class, () -> Mills.run(mill, script));
        CHECK.due("state after \"" + script + "\"", Picture.of(mill).replaceAll("failed=.*", ""), before);
        CHECK.due("failed of \"" + script + "\"", mill.failedCommand(), due);
    }

    private static void tellsFailedCommands() {
        YarnMill mill = Mills.withPieces(5, 3, 4);
        String[] bad = {"bale 0 30 1", "bale 51 30 1", "bale 1 9 1", "bale 1 61 1", "bale 1 30 0", "bale 1 30 21",
            "bale 50 30 20", "blend 0 10", "blend 501 10", "blend 1 9", "blend 1 61", "blend 1 10", "order 0 1",
            "order 41 1", "order 1 0", "order 1 10", "cancel 0", "cancel 3", "machines 0", "machines 4", "machines 9",
            "spin 0", "spin 999", "splice 1", "splice 2", "sell 2", "sell 999"};
        for (String command : bad) {
            dueFailed(mill, command, 0);
            dueFailed(mill, "machines 2;" + command, 1);
            dueFailed(mill, "order 6 1;machines 2;" + command, 2);
            dueFailed(mill, command + ";sell 9", 0);
        }
        dueFailed(mill, "order 6 1;spin 2", 1);
        dueFailed(mill, "splice 0;join", 1);
        dueFailed(mill, "sell 0;join", 1);
    }

    private static void failsWithoutAnyEffect() {
        YarnMill mill = Mills.withPieces(0, 5, 5);
        dueFailed(mill, "bale 40 40 1;blend 1 1;machines 2", 1);
        dueFailed(mill, "bale 40 40 1;blend 1 10;order 40 9;spin 2;join;join", 5);
        CHECK.due("next bale", mill.buyBale(1, 10, 1), 1);
        CHECK.due("next order", mill.addOrder(1, 1), 2);
    }

    private static void emptiesTheBuffer() {
        YarnMill mill = Mills.withPieces(0, 5, 5);
        Mills.run(mill, "join");
        CHECK.due("after a run", mill.type('j'), 1);
        CHECK.throwsJust("error", IllegalArgumentException.class, mill::runScript);
        CHECK.due("after an error", mill.type('j'), 1);
        CHECK.throwsJust("failure", IllegalStateException.class, () -> Mills.run(mill, "oin"));
        CHECK.due("after a failure", mill.type('j'), 1);
        mill.undo();
        mill.save();
        mill.restore();
        CHECK.due("undo and restore leave it", mill.type('o'), 2);
    }

    private static void remembersErrorsAndFailuresApart() {
        YarnMill mill = new YarnMill();
        CHECK.throwsJust("error", IllegalArgumentException.class, () -> Mills.run(mill, "join,"));
        CHECK.throwsJust("failure", IllegalStateException.class, () -> Mills.run(mill, "machines 1;join"));
        CHECK.due("error stays", mill.errorPosition(), 4);
        CHECK.due("failed", mill.failedCommand(), 1);
        CHECK.throwsJust("error", IllegalArgumentException.class, () -> Mills.run(mill, "machines 1;join,"));
        CHECK.due("error is new", mill.errorPosition(), 15);
        CHECK.due("failed stays", mill.failedCommand(), 1);
        CHECK.throwsJust("failure", IllegalStateException.class, () -> Mills.run(mill, "join"));
        CHECK.due("failed is new", mill.failedCommand(), 0);
        mill.setMachines(2);
        Mills.run(mill, "machines 3");
        CHECK.due("error stays", mill.errorPosition(), 15);
        CHECK.due("failed stays", mill.failedCommand(), 0);
        mill.undo();
        mill.save();
        mill.restore();
        CHECK.due("error stays", mill.errorPosition(), 15);
        CHECK.due("failed stays", mill.failedCommand(), 0);
    }
}
