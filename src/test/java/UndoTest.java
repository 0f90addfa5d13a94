import java.util.NoSuchElementException;

/** Promises 57 to 59. */
public final class UndoTest {
    private static final Check CHECK = new Check("UndoTest");

    public static void main(String[] args) {
        undoesEachChange();
        undoesTheLatestEight();
        undoesWhatCameAfterAnUndo();
        countsChangesWithoutEffect();
        countsAScriptOnce();
        countsNoFailedCall();
        leavesWhatUndoDoesNotCover();
        restoresTheSnapshot();
        keepsAndReplacesTheSnapshot();
        forgetsChangesOnRestore();
        leavesWhatTheSnapshotDoesNotCover();
        CHECK.end();
    }

    private interface Change {
        void make(YarnMill mill);
    }

    private static YarnMill busyMill() {
        YarnMill mill = Mills.withPieces(9, 7, 12, 3);
        mill.buyBale(20, 30, 3);
        mill.buyBale(30, 40, 2);
        mill.addOrder(8, 1);
        mill.addOrder(5, 9);
        mill.setMachines(2);
        return mill;
    }

    private static Change[] allChanges() {
        return new Change[] {
            mill -> mill.buyBale(10, 20, 3), mill -> mill.blend(45, 30), mill -> mill.addOrder(4, 4),
            mill -> mill.cancelOrder(3), mill -> mill.setMachines(3), mill -> mill.spin(3), mill -> mill.splice(1),
            YarnMill::spliceAll, mill -> mill.sell(0), mill -> Mills.run(mill, "order 1 1;machines 1;join;sell 0")};
    }

    private static void undoesEachChange() {
        Change[] changes = allChanges();
        for (int index = 0; index < changes.length; index++) {
            YarnMill mill = busyMill();
            String before = Picture.of(mill);
            changes[index].make(mill);
            CHECK.due("change " + index + " changes", Picture.of(mill).equals(before), false);
            CHECK.due("left behind change " + index, mill.undo(), 7);
            CHECK.due("state behind change " + index, Picture.of(mill), before);
            CHECK.due("next bale", mill.buyBale(1, 10, 1), 3);
            CHECK.due("next order", mill.addOrder(1, 1), 5);
        }
    }

    private static void undoesTheLatestEight() {
        YarnMill mill = new YarnMill();
        String[] states = new String[12];
        for (int change = 0; change < 12; change++) {
            states[change] = Picture.of(mill);
            if (change % 2 == 0) {
                mill.addOrder(1 + change, 1);
            } else {
                mill.buyBale(1 + change / 2, 10, 1);
            }
        }
        for (int left = 7; left >= 0; left--) {
            CHECK.due("left", mill.undo(), left);
            CHECK.due("state", Picture.of(mill), states[4 + left]);
        }
        CHECK.refused("ninth undo", mill, NoSuchElementException.class, mill::undo);
        CHECK.due("next bale", mill.buyBale(1, 10, 1), 2);
        CHECK.due("next order", mill.addOrder(1, 1), 2);
    }

    private static void undoesWhatCameAfterAnUndo() {
        YarnMill mill = new YarnMill();
        mill.setMachines(2);
        mill.setMachines(3);
        CHECK.due("left", mill.undo(), 1);
        mill.addOrder(1, 1);
        mill.addOrder(2, 2);
        CHECK.due("left", mill.undo(), 2);
        CHECK.due("orders", mill.orderCount(), 1);
        CHECK.due("left", mill.undo(), 1);
        CHECK.due("machines", mill.machines(), 2);
        CHECK.due("left", mill.undo(), 0);
        CHECK.due("machines", mill.machines(), 1);
        CHECK.refused("nothing left", mill, NoSuchElementException.class, mill::undo);
    }

    private static void countsChangesWithoutEffect() {
        YarnMill mill = new YarnMill();
        mill.setMachines(2);
        mill.setMachines(2);
        CHECK.due("left", mill.undo(), 1);
        CHECK.due("machines", mill.machines(), 2);
        Mills.run(mill, "machines 2");
        CHECK.due("left", mill.undo(), 1);
        CHECK.due("left", mill.undo(), 0);
        CHECK.due("machines", mill.machines(), 1);
    }

    private static void countsAScriptOnce() {
        YarnMill mill = new YarnMill();
        mill.setMachines(3);
        Mills.run(mill, "bale 30 40 2;blend 1 10;order 13 2;order 13 2;spin 0");
        CHECK.due("left", mill.undo(), 1);
        CHECK.due("pieces", mill.pieceCount(), 0);
        CHECK.due("coins", mill.coins(), 1000);
        CHECK.due("machines", mill.machines(), 3);
        CHECK.due("next bale", mill.buyBale(1, 10, 1), 0);
        CHECK.due("next order", mill.addOrder(1, 1), 0);
    }

    private static void countsNoFailedCall() {
        YarnMill mill = new YarnMill();
        mill.setMachines(3);
        CHECK.refused("machines", mill, IllegalArgumentException.class, () -> mill.setMachines(4));
        CHECK.refused("bale", mill, IllegalArgumentException.class, () -> mill.buyBale(0, 0, 0));
        CHECK.refused("blend", mill, UnsupportedOperationException.class, () -> mill.blend(1, 10));
        CHECK.refused("order", mill, IllegalArgumentException.class, () -> mill.addOrder(0, 0));
        CHECK.refused("cancel", mill, NoSuchElementException.class, () -> mill.cancelOrder(0));
        CHECK.refused("spin", mill, NoSuchElementException.class, () -> mill.spin(0));
        CHECK.refused("splice", mill, IndexOutOfBoundsException.class, () -> mill.splice(0));
        CHECK.refused("splice all", mill, IllegalStateException.class, mill::spliceAll);
        CHECK.refused("sell", mill, IndexOutOfBoundsException.class, () -> mill.sell(0));
        CHECK.throwsJust("script", IllegalStateException.class, () -> Mills.run(mill, "machines 2;join"));
        CHECK.throwsJust("form", IllegalArgumentException.class, () -> Mills.run(mill, "machines"));
        mill.renderShelf();
        mill.save();
        CHECK.due("machines", mill.machines(), 3);
        CHECK.due("left", mill.undo(), 0);
        CHECK.due("machines", mill.machines(), 1);
    }

    private static void leavesWhatUndoDoesNotCover() {
        YarnMill mill = Mills.withPieces(0, 7, 7, 3);
        mill.setMachines(2);
        mill.renderShelf();
        CHECK.throwsJust("form", IllegalArgumentException.class, () -> Mills.run(mill, "jo"));
        CHECK.throwsJust("failure", IllegalStateException.class, () -> Mills.run(mill, "join;join"));
        mill.save();
        Mills.type(mill, "joi");
        mill.undo();
        mill.undo();
        CHECK.due("output", Picture.output(mill), "7-7-3");
        CHECK.due("error", mill.errorPosition(), 2);
        CHECK.due("failed", mill.failedCommand(), 1);
        CHECK.due("buffer", mill.type('n'), 4);
        CHECK.due("script", mill.runScript(), 1);
        CHECK.due("snapshot", mill.restore(), 3);
    }

    private static void restoresTheSnapshot() {
        YarnMill mill = busyMill();
        CHECK.due("pieces saved", mill.save(), 3);
        String saved = Picture.of(mill);
        for (Change change : new Change[] {other -> other.buyBale(10, 20, 3), other -> other.addOrder(3, 3),
            other -> other.blend(45, 30), other -> other.spin(3), other -> other.setMachines(1),
            other -> other.sell(0), YarnMill::spliceAll, other -> other.cancelOrder(4)}) {
            change.make(mill);
        }
        CHECK.due("pieces restored", mill.restore(), 3);
        CHECK.due("state", Picture.of(mill), saved);
        CHECK.due("next bale", mill.buyBale(1, 10, 1), 3);
        CHECK.due("next order", mill.addOrder(1, 1), 5);
    }

    private static void keepsAndReplacesTheSnapshot() {
        YarnMill mill = new YarnMill();
        mill.save();
        mill.setMachines(2);
        mill.restore();
        mill.setMachines(3);
        mill.restore();
        CHECK.due("kept", mill.machines(), 1);
        mill.setMachines(2);
        CHECK.due("no pieces", mill.save(), 0);
        mill.setMachines(3);
        mill.undo();
        mill.undo();
        CHECK.due("undone", mill.machines(), 1);
        mill.restore();
        CHECK.due("replaced", mill.machines(), 2);
        YarnMill none = new YarnMill();
        none.setMachines(2);
        CHECK.refused("no snapshot", none, IllegalStateException.class, none::restore);
        CHECK.due("undo is left", none.undo(), 0);
    }

    private static void forgetsChangesOnRestore() {
        YarnMill mill = new YarnMill();
        mill.setMachines(2);
        mill.save();
        CHECK.due("save forgets nothing", mill.undo(), 0);
        mill.setMachines(3);
        mill.setMachines(3);
        mill.restore();
        CHECK.refused("nothing to undo", mill, NoSuchElementException.class, mill::undo);
        mill.setMachines(1);
        CHECK.due("left", mill.undo(), 0);
        CHECK.due("machines", mill.machines(), 2);
    }

    private static void leavesWhatTheSnapshotDoesNotCover() {
        YarnMill mill = Mills.withPieces(0, 7, 7, 3);
        mill.save();
        CHECK.throwsJust("form", IllegalArgumentException.class, () -> Mills.run(mill, "joi"));
        CHECK.throwsJust("failure", IllegalStateException.class, () -> Mills.run(mill, "join;join"));
        mill.renderShelf();
        Mills.type(mill, "jo");
        mill.restore();
        CHECK.due("output", Picture.output(mill), "7-7-3");
        CHECK.due("error", mill.errorPosition(), 3);
        CHECK.due("failed", mill.failedCommand(), 1);
        CHECK.due("buffer", mill.type('i'), 3);
    }
}
