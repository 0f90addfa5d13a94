import java.util.NoSuchElementException;

/** Promise 1, and what every other call answers on a new mill. */
public final class NewMillTest {
    private static final Check CHECK = new Check("NewMillTest");

    public static void main(String[] args) {
        startsWithCoinsAndOneMachine();
        startsEmpty();
        refusesWhatNeedsSomething();
        isApartFromOtherMills();
        CHECK.end();
    }

    private static void startsWithCoinsAndOneMachine() {
        YarnMill mill = new YarnMill();
        CHECK.due("coins", mill.coins(), 1000);
        CHECK.due("coins by accounts", mill.coinsByAccounts(), 1000);
        CHECK.due("machines", mill.machines(), 1);
        CHECK.due("first bale", mill.buyBale(1, 10, 1), 0);
        CHECK.due("first order", mill.addOrder(1, 1), 0);
    }

    private static void startsEmpty() {
        YarnMill mill = new YarnMill();
        CHECK.due("roving", mill.roving(), 0);
        CHECK.due("clock", mill.clock(), 0);
        CHECK.due("bales", mill.baleCount(), 0);
        CHECK.due("orders", mill.orderCount(), 0);
        CHECK.due("pieces", mill.pieceCount(), 0);
        CHECK.due("kinds", mill.kinds(), 0);
        CHECK.due("shortest time", mill.shortestTime(), 0);
        CHECK.due("shortest time by search", mill.shortestTimeBySearch(), 0);
        CHECK.due("splice cost", mill.spliceCost(), 0);
        CHECK.due("splice cost by memory", mill.spliceCostByMemory(), 0);
        CHECK.due("spun", mill.spunTotal(), 0);
        CHECK.due("waste", mill.wasteTotal(), 0);
        CHECK.due("sold", mill.soldTotal(), 0);
        CHECK.due("shelf length", mill.shelfLength(), 0);
        CHECK.due("shelf length by accounts", mill.shelfLengthByAccounts(), 0);
        CHECK.due("consistent", mill.isConsistent(), true);
        CHECK.due("rendered shelf", mill.renderShelf(), 0);
        CHECK.due("output", Picture.output(mill), "");
    }

    private static void refusesWhatNeedsSomething() {
        YarnMill mill = new YarnMill();
        CHECK.refused("undo", mill, NoSuchElementException.class, mill::undo);
        CHECK.refused("restore", mill, IllegalStateException.class, mill::restore);
        CHECK.refused("errorPosition", mill, NoSuchElementException.class, mill::errorPosition);
        CHECK.refused("failedCommand", mill, NoSuchElementException.class, mill::failedCommand);
        CHECK.refused("outputAt", mill, IndexOutOfBoundsException.class, () -> mill.outputAt(0));
        CHECK.refused("longestPiece", mill, NoSuchElementException.class, mill::longestPiece);
        CHECK.refusedReal("meanLength", mill, ArithmeticException.class, mill::meanLength);
        CHECK.refusedReal("longShare", mill, ArithmeticException.class, mill::longShare);
    }

    private static void isApartFromOtherMills() {
        YarnMill one = new YarnMill();
        YarnMill other = new YarnMill();
        one.buyBale(10, 30, 2);
        one.setMachines(3);
        one.save();
        CHECK.due("bales of the other", other.baleCount(), 0);
        CHECK.due("coins of the other", other.coins(), 1000);
        CHECK.due("machines of the other", other.machines(), 1);
        CHECK.refused("undo of the other", other, NoSuchElementException.class, other::undo);
        CHECK.refused("restore of the other", other, IllegalStateException.class, other::restore);
    }
}
