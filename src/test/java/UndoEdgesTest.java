import java.util.function.Consumer;
import java.util.function.Supplier;
import java.util.function.ToLongFunction;

/** Boundary cases of undo and the snapshot: "Changes", "Exceptions", promises 57 to 59. */
public final class UndoEdgesTest {
    private static final Check CHECK = new Check("UndoEdgesTest");

    public static void main(String[] args) {
        refusesWithoutChanges();
        undoesUpToEightChanges();
        goesRoundManyTimes();
        countsAfterUndos();
        countsChangesThatChangeNothing();
        countsAScriptAsOneChange();
        countsNoOtherCalls();
        losesNothingByRefusedCalls();
        coversAllOfTheState();
        coversTheNextIds();
        leavesTheBufferTyped();
        leavesTheErrorPosition();
        leavesTheFailedCommand();
        leavesTheOutput();
        leavesTheSnapshot();
        refusesToRestoreWithoutSnapshot();
        savesAndRestoresEmptyAndFullShelves();
        replacesTheSnapshot();
        keepsTheSnapshot();
        hasNothingToUndoBehindARestore();
        answersUpTo512Calls();
        CHECK.end();
    }

    private static YarnMill withChanges(int count) {
        YarnMill mill = new YarnMill();
        for (int change = 0; change < count; change++) {
            if (change % 3 == 0) {
                mill.addOrder(1, 1);
                continue;
            }
            mill.setMachines(1 + change % 3);
        }
        return mill;
    }

    // undo throws NoSuchElementException if there is nothing to undo.
    private static void refusesWithoutChanges() {
        CHECK.refusedWholly("new mill", YarnMill::new, Check.ELEMENT, YarnMill::undo);
        YarnMill mill = withChanges(1);
        CHECK.due("the only change", mill.undo(), 0);
        CHECK.refused("behind the only change", mill, Check.ELEMENT, mill::undo);
        CHECK.refused("once more", mill, Check.ELEMENT, mill::undo);
    }

    // The latest 8 changes can be undone, the latest one first.
    private static void undoesUpToEightChanges() {
        for (int count = 0; count <= 40; count++) {
            YarnMill mill = new YarnMill();
            String[] states = new String[count + 1];
            for (int change = 0; change < count; change++) {
                states[change] = Picture.of(mill);
                if (change % 2 == 0) {
                    mill.addOrder(1 + change, 1);
                } else {
                    mill.cancelOrder(change / 2);
                }
            }
            int left = Math.min(count, 8);
            for (int undo = 1; undo <= left; undo++) {
                CHECK.due("undo " + undo + " of " + count, mill.undo(), left - undo);
                CHECK.due("state behind undo " + undo + " of " + count, Picture.of(mill), states[count - undo]);
            }
            CHECK.refused("one undo more of " + count, mill, Check.ELEMENT, mill::undo);
        }
    }

    private static void goesRoundManyTimes() {
        YarnMill mill = new YarnMill();
        for (int round = 0; round < 30; round++) {
            for (int change = 0; change < 5; change++) {
                mill.setMachines(1 + (round + change) % 3);
            }
            int before = 1 + (round + 2) % 3;
            CHECK.due("left", mill.undo(), Math.min(5 + 3 * round, 8) - 1);
            mill.undo();
            CHECK.due("machines of round " + round, mill.machines(), before);
        }
    }

    // Returns the number of changes that can still be undone.
    private static void countsAfterUndos() {
        YarnMill mill = withChanges(12);
        for (int undo = 0; undo < 5; undo++) {
            mill.undo();
        }
        mill.addOrder(2, 2);
        mill.addOrder(3, 3);
        CHECK.due("3 and 2 less 1", mill.undo(), 4);
        for (int change = 0; change < 10; change++) {
            mill.setMachines(2);
        }
        CHECK.due("8 less 1", mill.undo(), 7);
        for (int left = 6; left >= 0; left--) {
            CHECK.due("left", mill.undo(), left);
        }
        CHECK.refused("ninth", mill, Check.ELEMENT, mill::undo);
    }

    // A change is a call that returns normally, even if the state is the same afterwards.
    private static void countsChangesThatChangeNothing() {
        for (String script : new String[] {"machines 1", "machines 2;machines 1"}) {
            YarnMill mill = new YarnMill();
            mill.addOrder(7, 7);
            Mills.run(mill, script);
            CHECK.due("left behind \"" + script + "\"", mill.undo(), 1);
            CHECK.due("orders", mill.orderCount(), 1);
            CHECK.due("left", mill.undo(), 0);
            CHECK.due("orders", mill.orderCount(), 0);
        }
        YarnMill mill = new YarnMill();
        mill.addOrder(7, 7);
        for (int change = 0; change < 8; change++) {
            mill.setMachines(1);
        }
        for (int left = 7; left >= 0; left--) {
            CHECK.due("left", mill.undo(), left);
        }
        CHECK.due("the order is too old", mill.orderCount(), 1);
        CHECK.refused("ninth", mill, Check.ELEMENT, mill::undo);
    }

    private static void countsAScriptAsOneChange() {
        YarnMill mill = Mills.withPieces(0, Mills.pieces(12, 1));
        String before = Picture.of(mill);
        Mills.run(mill, "sell 0;sell 0;sell 0;sell 0;sell 0;sell 0;sell 0;sell 0;join");
        CHECK.due("left", mill.undo(), 7);
        CHECK.due("state", Picture.of(mill), before);
    }

    private static void countsNoOtherCalls() {
        YarnMill mill = withChanges(3);
        mill.save();
        mill.renderShelf();
        mill.renderOrder(0);
        mill.type('j');
        mill.isConsistent();
        mill.shortestTime();
        mill.spliceCost();
        CHECK.throwsJust("error", Check.ARGUMENT, mill::runScript);
        CHECK.throwsJust("failure", Check.STATE, () -> Mills.run(mill, "machines 3;order 1 1;join"));
        CHECK.due("left", mill.undo(), 2);
        CHECK.due("an undo is no change", mill.undo(), 1);
    }

    private static YarnMill withFullHistory() {
        YarnMill mill = Mills.withPieces(3, 7, 12);
        mill.save();
        mill.buyBale(20, 30, 3);
        mill.addOrder(8, 1);
        mill.setMachines(2);
        mill.addOrder(5, 9);
        mill.buyBale(3, 50, 4);
        mill.splice(0);
        mill.blend(3, 50);
        mill.addOrder(9, 9);
        mill.renderShelf();
        Mills.type(mill, "joi");
        return mill;
    }

    private static void dueRefused(String what, Class<? extends RuntimeException> due, ToLongFunction<YarnMill> call) {
        CHECK.refusedWholly(what, UndoEdgesTest::withFullHistory, due, call);
    }

    // A method that throws an exception changes nothing unless its description says otherwise.
    private static void losesNothingByRefusedCalls() {
        dueRefused("bale of no weight", Check.ARGUMENT, mill -> mill.buyBale(0, 30, 1));
        dueRefused("bale too dear", Check.UNSUPPORTED, mill -> mill.buyBale(50, 30, 20));
        dueRefused("blend of no need", Check.ARGUMENT, mill -> mill.blend(0, 30));
        dueRefused("no such blend", Check.UNSUPPORTED, mill -> mill.blend(21, 30));
        dueRefused("order too long", Check.ARGUMENT, mill -> mill.addOrder(41, 1));
        dueRefused("no order to cancel", Check.ELEMENT, mill -> mill.cancelOrder(9));
        dueRefused("no such number", Check.ARGUMENT, mill -> mill.setMachines(4));
        dueRefused("no order to spin", Check.ELEMENT, mill -> mill.spin(9));
        dueRefused("too little roving", Check.UNSUPPORTED, mill -> mill.spin(2));
        dueRefused("one piece to splice", Check.INDEX, mill -> mill.splice(0));
        dueRefused("one piece to join", Check.STATE, YarnMill::spliceAll);
        dueRefused("no piece to sell", Check.INDEX, mill -> mill.sell(1));
        dueRefused("no bale at", Check.ELEMENT, mill -> mill.baleAt(1));
        dueRefused("no weight", Check.ELEMENT, mill -> mill.weight(2));
        dueRefused("no rank of bales", Check.ELEMENT, mill -> mill.baleByValue(1));
        dueRefused("no blend to value", Check.ELEMENT, mill -> mill.blendValue(21, 30));
        dueRefused("no blend to search", Check.ELEMENT, mill -> mill.blendValueBySearch(21, 30));
        dueRefused("no bale in a blend", Check.ELEMENT, mill -> mill.isInBlend(2, 1, 10) ? 1 : 0);
        dueRefused("no order at", Check.ELEMENT, mill -> mill.orderAt(3));
        dueRefused("no rank of orders", Check.ELEMENT, mill -> mill.orderByTime(3));
        dueRefused("no piece at", Check.INDEX, mill -> mill.pieceLength(1));
        dueRefused("no rank of pieces", Check.ELEMENT, mill -> mill.pieceByLength(1));
        dueRefused("no order to render", Check.ELEMENT, mill -> mill.renderOrder(0));
        dueRefused("no character", Check.INDEX, mill -> mill.outputAt(2));
        dueRefused("no character to type", Check.ARGUMENT, mill -> mill.type('\t'));
        dueRefused("no error yet", Check.ELEMENT, YarnMill::errorPosition);
        dueRefused("no failure yet", Check.ELEMENT, YarnMill::failedCommand);
    }

    private static YarnMill busyMill() {
        YarnMill mill = Mills.withPieces(9, 7, 12, 3);
        mill.buyBale(20, 30, 3);
        mill.buyBale(30, 40, 2);
        mill.addOrder(8, 1);
        mill.addOrder(5, 9);
        mill.setMachines(2);
        return mill;
    }

    /** What each change, one by one, must leave as it was once it is undone or a snapshot is restored. */
    private static void dueCovered(String what, Consumer<YarnMill> change) {
        YarnMill mill = busyMill();
        mill.save();
        String before = Picture.of(mill);
        change.accept(mill);
        CHECK.due(what + " changes", Picture.of(mill).equals(before), false);
        mill.undo();
        CHECK.due("undone " + what, Picture.of(mill), before);
        change.accept(mill);
        mill.restore();
        CHECK.due("restored behind " + what, Picture.of(mill), before);
        change.accept(mill);
        CHECK.due(what + " again", mill.undo(), 0);
        CHECK.due("undone " + what + " again", Picture.of(mill), before);
    }

    // Undo and the snapshot cover everything.
    private static void coversAllOfTheState() {
        dueCovered("buyBale", mill -> mill.buyBale(10, 20, 3));
        dueCovered("blend of one", mill -> mill.blend(30, 30));
        dueCovered("blend of all", mill -> mill.blend(50, 30));
        dueCovered("addOrder", mill -> mill.addOrder(4, 4));
        dueCovered("cancelOrder of the first", mill -> mill.cancelOrder(3));
        dueCovered("cancelOrder of the last", mill -> mill.cancelOrder(4));
        dueCovered("setMachines", mill -> mill.setMachines(3));
        dueCovered("spin", mill -> mill.spin(3));
        dueCovered("splice", mill -> mill.splice(1));
        dueCovered("spliceAll", YarnMill::spliceAll);
        dueCovered("sell of the first", mill -> mill.sell(0));
        dueCovered("sell of the last", mill -> mill.sell(2));
        dueCovered("runScript",
                mill -> Mills.run(mill, "blend 50 30;order 1 1;spin 3;cancel 4;machines 1;join;sell 0"));
    }

    // Also the ids that are given next.
    private static void coversTheNextIds() {
        YarnMill mill = Mills.withSmallBales(2);
        mill.addOrder(1, 1);
        mill.save();
        CHECK.due("bale", mill.buyBale(1, 10, 1), 2);
        CHECK.due("order", mill.addOrder(1, 1), 1);
        mill.undo();
        mill.undo();
        CHECK.due("bale behind undo", mill.buyBale(1, 10, 1), 2);
        CHECK.due("order behind undo", mill.addOrder(1, 1), 1);
        mill.cancelOrder(1);
        mill.blend(3, 10);
        mill.restore();
        CHECK.due("bale behind restore", mill.buyBale(1, 10, 1), 2);
        CHECK.due("order behind restore", mill.addOrder(1, 1), 1);
        mill.cancelOrder(1);
        mill.undo();
        CHECK.due("order behind an undone cancel", mill.addOrder(1, 1), 2);
    }

    /** Does what makes a state, then undoes and restores: what may not be covered must stay. */
    private static YarnMill undoneAndRestored(boolean isRestored, Consumer<YarnMill> work) {
        YarnMill mill = Mills.withPieces(0, 7, 7, 3);
        mill.save();
        mill.setMachines(2);
        work.accept(mill);
        if (isRestored) {
            mill.restore();
        } else {
            mill.undo();
        }
        CHECK.due("machines", mill.machines(), 1);
        return mill;
    }

    // Except the script buffer.
    private static void leavesTheBufferTyped() {
        for (boolean isRestored : new boolean[] {false, true}) {
            YarnMill mill = undoneAndRestored(isRestored, one -> Mills.type(one, "sell 2;joi"));
            CHECK.due("length", mill.type('n'), 11);
            CHECK.due("commands", mill.runScript(), 2);
            CHECK.due("shelf", Mills.shelf(mill), "13");
            YarnMill full = undoneAndRestored(isRestored, one -> Mills.type(one, "j".repeat(60)));
            CHECK.throwsJust("full buffer", Check.STATE, () -> full.type('j'));
        }
        YarnMill emptied = new YarnMill();
        emptied.save();
        Mills.run(emptied, "machines 2");
        emptied.undo();
        CHECK.due("an undone script is not typed again", emptied.type('j'), 1);
    }

    // Except the error position.
    private static void leavesTheErrorPosition() {
        for (boolean isRestored : new boolean[] {false, true}) {
            YarnMill mill = undoneAndRestored(isRestored,
                    one -> CHECK.throwsJust("error", Check.ARGUMENT, () -> Mills.run(one, "joi#")));
            CHECK.due("error", mill.errorPosition(), 3);
        }
    }

    // Except the index of the failed command.
    private static void leavesTheFailedCommand() {
        for (boolean isRestored : new boolean[] {false, true}) {
            YarnMill mill = undoneAndRestored(isRestored,
                    one -> CHECK.throwsJust("failure", Check.STATE, () -> Mills.run(one, "join;join")));
            CHECK.due("failed", mill.failedCommand(), 1);
        }
    }

    // Except the output text.
    private static void leavesTheOutput() {
        for (boolean isRestored : new boolean[] {false, true}) {
            YarnMill mill = undoneAndRestored(isRestored, YarnMill::renderShelf);
            CHECK.due("output", Picture.output(mill), "7-7-3");
        }
    }

    // Except the snapshot itself.
    private static void leavesTheSnapshot() {
        YarnMill mill = new YarnMill();
        mill.setMachines(2);
        mill.save();
        mill.undo();
        CHECK.due("undone", mill.machines(), 1);
        mill.restore();
        CHECK.due("saved behind the change", mill.machines(), 2);
        YarnMill first = new YarnMill();
        first.save();
        first.setMachines(2);
        first.setMachines(3);
        first.save();
        first.undo();
        first.undo();
        first.restore();
        CHECK.due("the later snapshot", first.machines(), 3);
    }

    // restore throws IllegalStateException if there is no snapshot.
    private static void refusesToRestoreWithoutSnapshot() {
        for (int changes : new int[] {0, 1, 8, 9}) {
            Supplier<YarnMill> maker = () -> withChanges(changes);
            CHECK.refusedWholly("restore behind " + changes, maker, Check.STATE, YarnMill::restore);
        }
    }

    // save and restore return the number of pieces on the shelf.
    private static void savesAndRestoresEmptyAndFullShelves() {
        YarnMill mill = Mills.withRoving(999);
        CHECK.due("no pieces saved", mill.save(), 0);
        for (int piece = 0; piece < 12; piece++) {
            mill.spin(mill.addOrder(1, 1));
        }
        CHECK.due("no pieces restored", mill.restore(), 0);
        CHECK.due("no pieces", mill.pieceCount(), 0);
        CHECK.due("roving", mill.roving(), 999);
        for (int piece = 0; piece < 12; piece++) {
            mill.spin(mill.addOrder(12, 9));
        }
        CHECK.due("twelve pieces saved", mill.save(), 12);
        mill.spliceAll();
        CHECK.due("twelve pieces restored", mill.restore(), 12);
        CHECK.due("shelf", Mills.shelf(mill), "12 12 12 12 12 12 12 12 12 12 12 12");
    }

    // Takes a snapshot, which replaces an earlier one.
    private static void replacesTheSnapshot() {
        YarnMill mill = new YarnMill();
        for (int number = 1; number <= 3; number++) {
            mill.setMachines(number);
            mill.save();
        }
        mill.setMachines(1);
        mill.restore();
        CHECK.due("machines", mill.machines(), 3);
    }

    // Restores the snapshot, which is kept.
    private static void keepsTheSnapshot() {
        YarnMill mill = busyMill();
        mill.save();
        String saved = Picture.of(mill);
        for (int time = 0; time < 3; time++) {
            mill.restore();
            CHECK.due("restored at once", Picture.of(mill), saved);
            mill.spliceAll();
            mill.blend(50, 30);
            mill.cancelOrder(3);
            mill.buyBale(1, 10, 1);
            mill.restore();
            CHECK.due("restored behind changes", Picture.of(mill), saved);
        }
    }

    // Afterwards there is nothing to undo.
    private static void hasNothingToUndoBehindARestore() {
        for (int changes = 0; changes <= 10; changes++) {
            YarnMill mill = new YarnMill();
            mill.save();
            for (int change = 0; change < changes; change++) {
                mill.addOrder(1, 1);
                mill.cancelOrder(change);
            }
            mill.restore();
            CHECK.refused("behind " + changes, mill, Check.ELEMENT, mill::undo);
            mill.setMachines(3);
            CHECK.due("left", mill.undo(), 0);
            CHECK.due("machines", mill.machines(), 1);
            CHECK.refused("again", mill, Check.ELEMENT, mill::undo);
        }
    }

    // An object is used for at most 512 calls.
    private static void answersUpTo512Calls() {
        YarnMill mill = new YarnMill();
        for (int call = 0; call < 503; call++) {
            CHECK.due("previous", mill.setMachines(1 + call % 3), call == 0 ? 1 : 1 + (call - 1) % 3);
        }
        for (int left = 7; left >= 0; left--) {
            CHECK.due("left", mill.undo(), left);
        }
        CHECK.refused("512th", mill, Check.ELEMENT, mill::undo);
        YarnMill orders = new YarnMill();
        for (int order = 0; order < 256; order++) {
            CHECK.due("id", orders.addOrder(40, 9), order);
            CHECK.due("left", orders.cancelOrder(order), 0);
        }
    }
}
