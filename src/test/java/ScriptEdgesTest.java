import java.util.function.Supplier;

/** Boundary cases of scripts: "Scripts", promises 53 to 56. Each test stands under its sentence. */
public final class ScriptEdgesTest {
    private static final Check CHECK = new Check("ScriptEdgesTest");
    private static final String[] COMMANDS = {"bale 123 456 789", "blend 123 456", "order 123 456", "cancel 123",
        "machines 1", "spin 123", "splice 123", "join", "sell 123"};

    public static void main(String[] args) {
        testsCharacterCodes();
        holdsSixtyCharacters();
        throwsTheFirst();
        isEmptyBehindEachRun();
        endsTooEarly();
        stopsAtTheFirstWrongCharacter();
        readsOneToThreeDigits();
        readsOneDigitForMachines();
        readsDigitsAlone();
        separatesNumbersByOneSpace();
        separatesCommandsByOneSemicolon();
        endsTooEarlyInAFullBuffer();
        runsOneCommand();
        runsNineCommandsOfAFullBuffer();
        givesArgumentsInOrder();
        refusesWhatTheMethodsRefuse();
        executesInOrder();
        takesBackAllOfAFailedScript();
        failsAtTheFirstAndAtTheLast();
        hasNoErrorAtFirst();
        hasNoFailureAtFirst();
        keepsTheLatestError();
        keepsTheLatestFailure();
        CHECK.end();
    }

    // type throws IllegalArgumentException if the character code is not between 32 and 126.
    private static void testsCharacterCodes() {
        for (int code = 0; code < 300; code++) {
            char character = (char) code;
            if (code >= 32 && code <= 126) {
                CHECK.due("code " + code, new YarnMill().type(character), 1);
            } else {
                CHECK.refusedWholly("code " + code, YarnMill::new, Check.ARGUMENT, mill -> mill.type(character));
            }
        }
        // The low eight or seven bits of these would do.
        for (int code : new int[] {0x0141, 0x2020, 0x8041, 0xff20, 0xff7e, 0xffff}) {
            CHECK.refusedWholly("code " + code, YarnMill::new, Check.ARGUMENT, mill -> mill.type((char) code));
        }
    }

    private static YarnMill withTyped(int length) {
        YarnMill mill = new YarnMill();
        for (int typed = 0; typed < length; typed++) {
            mill.type('j');
        }
        return mill;
    }

    // A buffer of at most 60 characters. type throws IllegalStateException if the script buffer has 60 characters.
    private static void holdsSixtyCharacters() {
        YarnMill mill = new YarnMill();
        for (int length = 1; length <= 60; length++) {
            CHECK.due("length " + length, mill.type('~'), length);
        }
        CHECK.refusedWholly("61st", () -> withTyped(60), Check.STATE, one -> one.type('j'));
        CHECK.refusedWholly("wrong 60th", () -> withTyped(59), Check.ARGUMENT, one -> one.type('\n'));
        YarnMill refused = withTyped(59);
        CHECK.throwsJust("wrong", Check.ARGUMENT, () -> refused.type((char) 127));
        CHECK.due("60th behind a wrong one", refused.type('j'), 60);
    }

    // If several exceptions apply, the one that is listed first is thrown.
    private static void throwsTheFirst() {
        CHECK.refusedWholly("range, full", () -> withTyped(60), Check.ARGUMENT, mill -> mill.type((char) 31));
        CHECK.refusedWholly("range, full", () -> withTyped(60), Check.ARGUMENT, mill -> mill.type((char) 127));
        CHECK.refusedWholly("full", () -> withTyped(60), Check.STATE, mill -> mill.type((char) 32));
        CHECK.refusedWholly("full", () -> withTyped(60), Check.STATE, mill -> mill.type((char) 126));
        // A command would fail before the form is broken: the form is looked at first.
        YarnMill mill = new YarnMill();
        CHECK.throwsJust("form, failure", Check.ARGUMENT, () -> Mills.run(mill, "join;join;"));
        CHECK.throwsJust("no failure", Check.ELEMENT, mill::failedCommand);
    }

    // The buffer is empty afterwards, also if an exception is thrown.
    private static void isEmptyBehindEachRun() {
        YarnMill mill = withTyped(60);
        CHECK.throwsJust("form", Check.ARGUMENT, mill::runScript);
        CHECK.due("behind an error in a full buffer", mill.type('m'), 1);
        Mills.type(mill, "achines 2");
        CHECK.due("run", mill.runScript(), 1);
        CHECK.due("behind a run", mill.type('j'), 1);
        Mills.type(mill, "oin");
        CHECK.throwsJust("failure", Check.STATE, mill::runScript);
        CHECK.due("behind a failure", mill.type('j'), 1);
        CHECK.throwsJust("form", Check.ARGUMENT, mill::runScript);
        CHECK.throwsJust("empty buffer", Check.ARGUMENT, mill::runScript);
        CHECK.due("error of the empty buffer", mill.errorPosition(), 0);
        for (int length = 1; length <= 60; length++) {
            CHECK.due("room for " + length, mill.type('j'), length);
        }
    }

    private static void dueError(String script, int due) {
        YarnMill mill = new YarnMill();
        Mills.type(mill, script);
        CHECK.throwsJust("\"" + script + "\"", Check.ARGUMENT, mill::runScript);
        CHECK.due("error of \"" + script + "\"", mill.errorPosition(), due);
        CHECK.throwsJust("change of \"" + script + "\"", Check.ELEMENT, mill::undo);
        CHECK.throwsJust("failure of \"" + script + "\"", Check.ELEMENT, mill::failedCommand);
    }

    /** The script has the required form, but on a new mill its command with this index fails. */
    private static void dueFailed(String script, int due) {
        YarnMill mill = new YarnMill();
        Mills.type(mill, script);
        CHECK.throwsJust("\"" + script + "\"", Check.STATE, mill::runScript);
        CHECK.due("failure of \"" + script + "\"", mill.failedCommand(), due);
        CHECK.throwsJust("change of \"" + script + "\"", Check.ELEMENT, mill::undo);
        CHECK.throwsJust("error of \"" + script + "\"", Check.ELEMENT, mill::errorPosition);
    }

    private static boolean isWhole(String command) {
        return command.matches("bale \\d+ \\d+ \\d+|(blend|order) \\d+ \\d+|[cmsp]\\w+ \\d+|join");
    }

    // Or the length of the script if every character can and the end comes too early.
    private static void endsTooEarly() {
        dueError("", 0);
        for (String command : COMMANDS) {
            for (int length = 0; length < command.length(); length++) {
                String script = command.substring(0, length);
                if (!isWhole(script)) {
                    dueError(script, length);
                    dueError("join;" + script, 5 + length);
                }
            }
            dueError(command + ";", command.length() + 1);
        }
    }

    // The error position is the index of the first character that cannot continue any script of this form.
    private static void stopsAtTheFirstWrongCharacter() {
        for (String command : COMMANDS) {
            for (int length = 0; length <= command.length(); length++) {
                String script = command.substring(0, length);
                for (String wrong : new String[] {"#", "#" + command.substring(length), "J", "~", "."}) {
                    dueError(script + wrong, length);
                    dueError("sell 0;" + script + wrong, 7 + length);
                }
            }
        }
        // Words that begin alike part at their own characters.
        dueError("blale", 2);
        dueError("baend", 2);
        dueError("spline", 4);
        dueError("spice", 3);
        dueError("spinn", 4);
        dueError("splice1", 6);
        dueError("seln", 3);
        dueError("so", 1);
        dueError("BALE 1 2 3", 0);
        dueError("joiN", 3);
    }

    // number = digit [ digit [ digit ] ]
    private static void readsOneToThreeDigits() {
        String[] starts = {"bale ", "bale 1 ", "bale 12 345 ", "blend ", "blend 123 ", "order ", "order 1 ", "cancel ",
            "spin ", "splice ", "sell "};
        String[] ends = {" 1 1", " 1", "", " 1", "", " 1", "", "", "", "", ""};
        for (int index = 0; index < starts.length; index++) {
            String start = starts[index];
            String end = ends[index];
            dueFailed(start + "0" + end, 0);
            dueFailed(start + "00" + end, 0);
            dueFailed(start + "000" + end, 0);
            dueFailed(start + "999" + end, 0);
            dueError(start + "0000" + end, start.length() + 3);
            dueError(start + "9999" + end, start.length() + 3);
            dueError(start + end + ";", start.length());
        }
        YarnMill mill = new YarnMill();
        Mills.run(mill, "bale 050 010 001;order 040 009;order 1 01");
        CHECK.due("weight", mill.weight(0), 50);
        CHECK.due("staple", mill.staple(0), 10);
        CHECK.due("price", mill.price(0), 1);
        CHECK.due("length", mill.lengthOf(0), 40);
        CHECK.due("twist", mill.twistOf(0), 9);
        CHECK.due("time", mill.minutesOf(1), 1);
    }

    private static YarnMill withOrdersUpTo(int latest) {
        YarnMill mill = new YarnMill();
        for (int order = 0; order < latest; order++) {
            mill.addOrder(1, 1);
            mill.cancelOrder(order);
        }
        mill.addOrder(1, 1);
        return mill;
    }

    // "machines " digit
    private static void readsOneDigitForMachines() {
        for (int number = 1; number <= 3; number++) {
            YarnMill mill = new YarnMill();
            Mills.run(mill, "machines " + number);
            CHECK.due("machines", mill.machines(), number);
        }
        for (int number : new int[] {0, 4, 5, 6, 7, 8, 9}) {
            dueFailed("machines " + number, 0);
        }
        dueError("machines 12", 10);
        dueError("machines 01", 10);
        dueError("machines 1 ", 10);
        dueError("machines ;", 9);
    }

    private static void readsDigitsAlone() {
        // The neighbours of the digits among the characters, and what numbers may have elsewhere.
        for (char wrong : new char[] {'/', ':', '-', '+', '.', ',', 'x', 'a', ' ', ';'}) {
            dueError("cancel " + wrong, 7);
            dueError("bale 1 2 " + wrong, 9);
            dueError("machines " + wrong, 9);
        }
        for (char wrong : new char[] {'/', ':', '-', '.', ',', 'x', ' '}) {
            dueError("cancel 1" + wrong, 8);
            dueError("bale 1 2 3" + wrong, 10);
            dueError("machines 1" + wrong, 10);
        }
        for (int digit = 0; digit <= 9; digit++) {
            YarnMill mill = withOrdersUpTo(digit);
            CHECK.due("digit " + digit, Mills.run(mill, "cancel " + digit), 1);
            CHECK.due("orders behind digit " + digit, mill.orderCount(), 0);
        }
        YarnMill mill = withOrdersUpTo(123);
        CHECK.due("three digits", Mills.run(mill, "cancel 123"), 1);
    }

    private static void separatesNumbersByOneSpace() {
        dueError("bale  1 2 3", 5);
        dueError("bale 1  2 3", 7);
        dueError("bale 1 2  3", 9);
        dueError("bale 1 2 3 ", 10);
        dueError("bale 1 2 3 4", 10);
        dueError("bale 1,2 3", 6);
        dueError("blend 1 2 3", 9);
        dueError("order 1  2", 8);
        dueError("order 1;", 7);
        dueError("cancel 1 2", 8);
        dueError("spin  1", 5);
        dueError("join 1", 4);
        dueError(" join", 0);
    }

    private static void separatesCommandsByOneSemicolon() {
        dueError(";", 0);
        dueError(";join", 0);
        dueError("join;", 5);
        dueError("join;;join", 5);
        dueError("join; join", 5);
        dueError("join ;join", 4);
        dueError("joinjoin", 4);
        dueError("join,join", 4);
        dueError("sell 1join", 6);
    }

    private static void endsTooEarlyInAFullBuffer() {
        dueError("join;join;join;join;join;join;join;join;join;join;join;join;", 60);
        dueError("join;join;join;join;join;join;join;join;join;join;join;joi#", 58);
        dueError("sell 0;sell 0;sell 0;sell 0;sell 0;sell 0;sell 0;sell 0;spli", 60);
        dueError("sell 0;sell 0;sell 0;sell 0;sell 0;sell 0;sell 0;sell 0;joi ", 59);
        dueFailed("join;join;join;join;join;join;join;join;join;join;join;join", 0);
        dueFailed("sell 0;sell 0;sell 0;sell 0;sell 0;sell 0;sell 0;sell 0;join", 0);
    }

    // Returns the number of commands.
    private static void runsOneCommand() {
        CHECK.due("one", Mills.run(new YarnMill(), "machines 1"), 1);
        CHECK.due("two", Mills.run(new YarnMill(), "machines 1;machines 3"), 2);
    }

    private static void runsNineCommandsOfAFullBuffer() {
        YarnMill mill = Mills.withPieces(0, Mills.pieces(12, 10));
        String script = "sell 0;sell 0;sell 0;sell 0;sell 0;sell 0;sell 0;sell 0;join";
        CHECK.due("characters", script.length(), 60);
        CHECK.due("nine", Mills.run(mill, script), 9);
        CHECK.due("shelf", Mills.shelf(mill), "37");
        CHECK.due("one change", mill.undo(), 7);
        CHECK.due("pieces", mill.pieceCount(), 12);
    }

    // With the arguments in the same order.
    private static void givesArgumentsInOrder() {
        YarnMill mill = new YarnMill();
        Mills.run(mill, "bale 11 12 13");
        CHECK.due("weight", mill.weight(0), 11);
        CHECK.due("staple", mill.staple(0), 12);
        CHECK.due("price", mill.price(0), 13);
        Mills.run(mill, "order 8 7");
        CHECK.due("length", mill.lengthOf(0), 8);
        CHECK.due("twist", mill.twistOf(0), 7);
        YarnMill blended = Mills.withBales(new int[] {40, 11, 1}, new int[] {12, 40, 1});
        Mills.run(blended, "blend 11 40");
        CHECK.due("roving", blended.roving(), 12);
    }

    /** The mill behind a failed script, but for the index of the failed command. */
    private static String wholeBehindFailed(Supplier<YarnMill> maker, String script) {
        return Picture.whole(() -> {
            YarnMill mill = maker.get();
            CHECK.throwsJust("\"" + script + "\"", Check.STATE, () -> Mills.run(mill, script));
            return mill;
        }).replaceAll("failed=\\d+", "");
    }

    private static void dueRefused(Supplier<YarnMill> maker, String command) {
        String due = wholeBehindFailed(maker, "splice 99");
        CHECK.due("\"" + command + "\" changes nothing at all", wholeBehindFailed(maker, command), due);
    }

    // Throws IllegalStateException if the method for a command throws an exception.
    private static void refusesWhatTheMethodsRefuse() {
        String[] always = {"bale 0 30 1", "bale 51 30 1", "bale 1 9 1", "bale 1 61 1", "bale 1 30 0", "bale 1 30 21",
            "blend 0 30", "blend 501 30", "blend 1 9", "blend 1 61", "blend 999 999", "order 0 1", "order 41 1",
            "order 1 0", "order 1 10", "cancel 9", "machines 0", "machines 4", "spin 9", "splice 2", "splice 3",
            "sell 3"};
        for (String command : always) {
            dueRefused(() -> Mills.withPieces(0, 3, 3, 3), command);
        }
        dueRefused(() -> Mills.withSmallBales(10), "bale 1 10 1");
        dueRefused(() -> Mills.withBales(new int[] {50, 30, 20}), "bale 1 10 1");
        dueRefused(YarnMill::new, "blend 1 10");
        dueRefused(() -> Mills.withSmallBales(1), "blend 2 10");
        dueRefused(() -> {
            YarnMill mill = Mills.withRoving(999);
            mill.buyBale(1, 10, 1);
            return mill;
        }, "blend 1 10");
        dueRefused(() -> Mills.withOrders(new int[] {1, 1}), "spin 0");
        dueRefused(() -> {
            YarnMill mill = Mills.withPieces(1, Mills.pieces(12, 1));
            mill.addOrder(1, 1);
            return mill;
        }, "spin 12");
        dueRefused(() -> {
            YarnMill mill = new YarnMill();
            for (int order = 0; order < 8; order++) {
                mill.addOrder(1, 1);
            }
            return mill;
        }, "order 1 1");
        dueRefused(YarnMill::new, "join");
        dueRefused(() -> Mills.withPieces(0, 12), "join");
        dueRefused(() -> Mills.withPieces(0, 12), "splice 0");
        dueRefused(YarnMill::new, "sell 0");
    }

    // The commands are executed in order: a later one finds what an earlier one has left.
    private static void executesInOrder() {
        YarnMill mill = new YarnMill();
        CHECK.due("five", Mills.run(mill, "bale 50 30 20;blend 50 30;order 12 9;spin 0;sell 0"), 5);
        CHECK.due("coins", mill.coins(), 60);
        CHECK.throwsJust("bale before the sale", Check.STATE,
                () -> Mills.run(mill, "order 12 9;bale 31 30 2;spin 1;sell 0"));
        CHECK.due("failed", mill.failedCommand(), 1);
        CHECK.due("bale behind the sale", Mills.run(mill, "order 12 9;spin 1;sell 0;bale 30 30 4"), 4);
        CHECK.due("coins", mill.coins(), 0);
        YarnMill full = Mills.withSmallBales(10);
        CHECK.due("bale behind the blend", Mills.run(full, "blend 1 10;bale 1 10 1"), 2);
        CHECK.throwsJust("bale before the blend", Check.STATE, () -> Mills.run(full, "bale 1 10 1;blend 1 10"));
        CHECK.due("failed", full.failedCommand(), 0);
    }

    private static YarnMill busyMill() {
        YarnMill mill = Mills.withPieces(30, 7, 12, 3);
        mill.buyBale(20, 30, 3);
        mill.addOrder(8, 1);
        mill.addOrder(5, 9);
        mill.setMachines(2);
        return mill;
    }

    // Either all of them take effect or none. No command takes effect.
    private static void takesBackAllOfAFailedScript() {
        String[] done = {"bale 9 30 2", "blend 20 30", "order 1 1", "cancel 4", "machines 3", "spin 3", "splice 1",
            "join", "sell 0", "bale 9 30 2;blend 9 30;order 9 9;spin 5;join;sell 0"};
        String due = wholeBehindFailed(ScriptEdgesTest::busyMill, "spin 9");
        for (String commands : done) {
            String got = wholeBehindFailed(ScriptEdgesTest::busyMill, commands + ";spin 9");
            CHECK.due("\"" + commands + "\" takes no effect", got, due);
            CHECK.due("it would take effect alone", Mills.run(busyMill(), commands), commands.split(";").length);
        }
    }

    // failedCommand then returns the index of that command, counted from 0.
    private static void failsAtTheFirstAndAtTheLast() {
        dueFailed("join", 0);
        dueFailed("join;machines 1", 0);
        dueFailed("machines 1;join", 1);
        dueFailed("machines 1;join;join;machines 1", 1);
        YarnMill mill = Mills.withPieces(0, Mills.pieces(9, 10));
        CHECK.throwsJust("ninth", Check.STATE,
                () -> Mills.run(mill, "sell 0;sell 0;sell 0;sell 0;sell 0;sell 0;sell 0;sell 0;join"));
        CHECK.due("failed", mill.failedCommand(), 8);
        CHECK.due("pieces", mill.pieceCount(), 9);
    }

    // errorPosition throws NoSuchElementException if there was no such script.
    private static void hasNoErrorAtFirst() {
        YarnMill mill = new YarnMill();
        CHECK.refused("new mill", mill, Check.ELEMENT, mill::errorPosition);
        Mills.run(mill, "machines 2");
        CHECK.refused("behind a run", mill, Check.ELEMENT, mill::errorPosition);
        CHECK.throwsJust("failure", Check.STATE, () -> Mills.run(mill, "join"));
        CHECK.refused("behind a failure", mill, Check.ELEMENT, mill::errorPosition);
        Mills.type(mill, "#");
        CHECK.refused("behind a typed error", mill, Check.ELEMENT, mill::errorPosition);
        CHECK.throwsJust("error", Check.ARGUMENT, mill::runScript);
        CHECK.due("error at 0", mill.errorPosition(), 0);
    }

    // failedCommand throws NoSuchElementException if there was no such script.
    private static void hasNoFailureAtFirst() {
        YarnMill mill = new YarnMill();
        CHECK.refused("new mill", mill, Check.ELEMENT, mill::failedCommand);
        Mills.run(mill, "machines 2");
        CHECK.refused("behind a run", mill, Check.ELEMENT, mill::failedCommand);
        CHECK.throwsJust("error", Check.ARGUMENT, () -> Mills.run(mill, "joi"));
        CHECK.refused("behind an error", mill, Check.ELEMENT, mill::failedCommand);
        CHECK.throwsJust("refused call", Check.STATE, mill::spliceAll);
        CHECK.refused("behind a refused call", mill, Check.ELEMENT, mill::failedCommand);
        CHECK.throwsJust("failure", Check.STATE, () -> Mills.run(mill, "join"));
        CHECK.due("failed at 0", mill.failedCommand(), 0);
    }

    // The error position of the latest script that did not have the required form.
    private static void keepsTheLatestError() {
        YarnMill mill = new YarnMill();
        CHECK.throwsJust("error", Check.ARGUMENT, () -> Mills.run(mill, "joi"));
        CHECK.throwsJust("failure", Check.STATE, () -> Mills.run(mill, "machines 1;join"));
        Mills.run(mill, "machines 2");
        CHECK.due("stays", mill.errorPosition(), 3);
        CHECK.throwsJust("empty script", Check.ARGUMENT, mill::runScript);
        CHECK.due("is 0", mill.errorPosition(), 0);
        CHECK.throwsJust("error", Check.ARGUMENT, () -> Mills.run(mill, "machines 11"));
        CHECK.due("is 10", mill.errorPosition(), 10);
    }

    // The index of the command that failed in the latest script with a failed command.
    private static void keepsTheLatestFailure() {
        YarnMill mill = new YarnMill();
        CHECK.throwsJust("failure", Check.STATE, () -> Mills.run(mill, "machines 1;join"));
        CHECK.throwsJust("error", Check.ARGUMENT, () -> Mills.run(mill, "joi"));
        Mills.run(mill, "machines 2");
        CHECK.due("stays", mill.failedCommand(), 1);
        CHECK.throwsJust("failure", Check.STATE, () -> Mills.run(mill, "join"));
        CHECK.due("is 0", mill.failedCommand(), 0);
    }
}
