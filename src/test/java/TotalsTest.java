/** Promises 37 to 49. */
public final class TotalsTest {
    private static final Check CHECK = new Check("TotalsTest");

    public static void main(String[] args) {
        accountsForCoins();
        accountsForLengths();
        keepsTotalsWhenPiecesGo();
        tellsTheMean();
        tellsTheLongShare();
        isConsistentAllAlong();
        CHECK.end();
    }

    private static void dueCoins(YarnMill mill, int due) {
        CHECK.due("coins", mill.coins(), due);
        CHECK.due("coins by accounts", mill.coinsByAccounts(), due);
    }

    private static void accountsForCoins() {
        YarnMill mill = new YarnMill();
        mill.buyBale(20, 30, 5);
        dueCoins(mill, 900);
        mill.buyBale(7, 30, 3);
        dueCoins(mill, 879);
        mill.blend(20, 30);
        dueCoins(mill, 879);
        mill.spin(mill.addOrder(20, 7));
        dueCoins(mill, 879);
        mill.sell(1);
        dueCoins(mill, 929);
        mill.sell(0);
        dueCoins(mill, 979);
        mill.undo();
        dueCoins(mill, 929);
    }

    private static void dueLengths(YarnMill mill, int shelf, int spun, int waste, int sold) {
        CHECK.due("shelf length", mill.shelfLength(), shelf);
        CHECK.due("shelf length by accounts", mill.shelfLengthByAccounts(), shelf);
        CHECK.due("spun", mill.spunTotal(), spun);
        CHECK.due("waste", mill.wasteTotal(), waste);
        CHECK.due("sold", mill.soldTotal(), sold);
    }

    private static void accountsForLengths() {
        YarnMill mill = Mills.withRoving(50);
        CHECK.due("roving", mill.roving(), 50);
        mill.addOrder(30, 4);
        dueLengths(mill, 0, 0, 0, 0);
        mill.spin(0);
        dueLengths(mill, 30, 30, 0, 0);
        CHECK.due("roving", mill.roving(), 20);
        CHECK.due("clock", mill.clock(), 120);
        mill.splice(0);
        dueLengths(mill, 29, 30, 1, 0);
        CHECK.due("clock", mill.clock(), 134);
        mill.sell(0);
        dueLengths(mill, 16, 30, 1, 13);
        CHECK.due("clock", mill.clock(), 134);
        mill.spin(mill.addOrder(5, 9));
        dueLengths(mill, 21, 35, 1, 13);
        mill.spliceAll();
        dueLengths(mill, 18, 35, 4, 13);
        mill.undo();
        dueLengths(mill, 21, 35, 1, 13);
    }

    private static void keepsTotalsWhenPiecesGo() {
        YarnMill mill = Mills.withPieces(0, 12, 12);
        mill.splice(0);
        mill.sell(0);
        dueLengths(mill, 0, 24, 1, 23);
        dueCoins(mill, 1000 - 24 + 115);
    }

    private static void tellsTheMean() {
        CHECK.due("mean", Mills.withPieces(0, 7, 4, 12).meanLength(), 23.0 / 3.0);
        CHECK.due("mean", Mills.withPieces(0, 1, 2).meanLength(), 1.5);
        CHECK.due("mean of one", Mills.withPieces(0, 9).meanLength(), 9.0);
        YarnMill mill = Mills.withPieces(0, 9);
        mill.sell(0);
        CHECK.refusedReal("mean of none", mill, ArithmeticException.class, mill::meanLength);
    }

    private static void tellsTheLongShare() {
        CHECK.due("none is long", Mills.withPieces(0, 9, 1).longShare(), 0.0f);
        CHECK.due("all are long", Mills.withPieces(0, 10, 11, 12).longShare(), 1.0f);
        CHECK.due("one of three", Mills.withPieces(0, 9, 10, 8).longShare(), 1.0f / 3.0f);
        CHECK.due("two of three", Mills.withPieces(0, 10, 9, 12).longShare(), 2.0f / 3.0f);
        YarnMill mill = Mills.withPieces(0, 10);
        mill.sell(0);
        CHECK.refusedReal("share of none", mill, ArithmeticException.class, mill::longShare);
    }

    private static void isConsistentAllAlong() {
        YarnMill mill = Mills.withPieces(20, 12, 3, 7, 7, 9);
        CHECK.due("pieces", mill.isConsistent(), true);
        mill.buyBale(20, 30, 2);
        mill.buyBale(40, 60, 3);
        CHECK.due("bales", mill.isConsistent(), true);
        mill.buyBale(10, 10, 1);
        mill.setMachines(3);
        for (int order = 1; order <= 8; order++) {
            mill.addOrder(3 * order, 1 + order);
        }
        CHECK.due("orders", mill.isConsistent(), true);
        mill.sell(0);
        mill.splice(1);
        CHECK.due("sold and wasted", mill.isConsistent(), true);
        mill.spliceAll();
        CHECK.due("one piece", mill.isConsistent(), true);
    }
}
