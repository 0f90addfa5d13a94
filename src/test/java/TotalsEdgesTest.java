/** Boundary cases of the totals and checks: promises 1 and 37 to 49. Each test stands under its sentence. */
public final class TotalsEdgesTest {
    private static final Check CHECK = new Check("TotalsEdgesTest");

    public static void main(String[] args) {
        startsAtNothing();
        reachesTheMostRoving();
        spendsAllCoins();
        earnsMoreThanTheFirstCoins();
        countsUndoneCoinsNoMore();
        countsLengthsDownToNothing();
        countsUndoneLengthsNoMore();
        tellsTheMeanOfOneToTwelve();
        refusesTheMeanOfNone();
        tellsTheShareAtTheThreshold();
        dividesTheShareInFloat();
        refusesTheShareOfNone();
        isConsistentWhereNoBlendIs();
        isConsistentWhereBlendsAre();
        isConsistentWhenFull();
        CHECK.end();
    }

    private static void dueAccounts(YarnMill mill, int coins, int spun, int waste, int sold) {
        CHECK.due("coins", mill.coins(), coins);
        CHECK.due("coins by accounts", mill.coinsByAccounts(), coins);
        CHECK.due("spun", mill.spunTotal(), spun);
        CHECK.due("waste", mill.wasteTotal(), waste);
        CHECK.due("sold", mill.soldTotal(), sold);
        CHECK.due("shelf length", mill.shelfLength(), spun - waste - sold);
        CHECK.due("shelf length by accounts", mill.shelfLengthByAccounts(), spun - waste - sold);
        CHECK.due("consistent", mill.isConsistent(), true);
    }

    // Creates a mill with 1000 coins and one machine. The mill has no roving initially; the clock is 0 initially.
    private static void startsAtNothing() {
        YarnMill mill = new YarnMill();
        dueAccounts(mill, 1000, 0, 0, 0);
        CHECK.due("machines", mill.machines(), 1);
        CHECK.due("roving", mill.roving(), 0);
        CHECK.due("clock", mill.clock(), 0);
    }

    private static void reachesTheMostRoving() {
        YarnMill mill = Mills.withRoving(999);
        CHECK.due("roving", mill.roving(), 999);
        dueAccounts(mill, 1, 0, 0, 0);
        mill.spin(mill.addOrder(1, 1));
        CHECK.due("roving", mill.roving(), 998);
        dueAccounts(mill, 1, 1, 0, 0);
    }

    private static void spendsAllCoins() {
        YarnMill mill = Mills.withBales(new int[] {50, 30, 20});
        dueAccounts(mill, 0, 0, 0, 0);
        CHECK.throwsJust("another bale", Check.UNSUPPORTED, () -> mill.buyBale(1, 10, 1));
        dueAccounts(mill, 0, 0, 0, 0);
        mill.blend(50, 30);
        mill.spin(mill.addOrder(1, 1));
        mill.sell(0);
        dueAccounts(mill, 2, 1, 0, 1);
    }

    private static void earnsMoreThanTheFirstCoins() {
        YarnMill mill = Mills.withPieces(0, Mills.pieces(12, 12));
        for (int sold = 1; sold <= 12; sold++) {
            mill.sell(0);
            dueAccounts(mill, 1000 - 144 + 60 * sold, 144, 0, 12 * sold);
        }
    }

    private static void countsUndoneCoinsNoMore() {
        YarnMill mill = Mills.withPieces(0, 10);
        mill.sell(0);
        mill.buyBale(7, 30, 3);
        dueAccounts(mill, 1000 - 10 + 50 - 21, 10, 0, 10);
        mill.undo();
        dueAccounts(mill, 1000 - 10 + 50, 10, 0, 10);
        mill.save();
        mill.undo();
        dueAccounts(mill, 1000 - 10, 10, 0, 0);
        mill.restore();
        dueAccounts(mill, 1000 - 10 + 50, 10, 0, 10);
        CHECK.throwsJust("failed", Check.STATE, () -> Mills.run(mill, "bale 1 30 1;sell 0"));
        dueAccounts(mill, 1000 - 10 + 50, 10, 0, 10);
    }

    private static void countsLengthsDownToNothing() {
        YarnMill mill = Mills.withPieces(0, 1, 1, 1);
        dueAccounts(mill, 997, 3, 0, 0);
        mill.splice(1);
        dueAccounts(mill, 997, 3, 1, 0);
        mill.splice(0);
        dueAccounts(mill, 997, 3, 2, 0);
        mill.sell(0);
        dueAccounts(mill, 999, 3, 2, 1);
    }

    private static void countsUndoneLengthsNoMore() {
        YarnMill mill = Mills.withPieces(0, 12, 12, 12);
        mill.spliceAll();
        mill.sell(0);
        dueAccounts(mill, 964 + 170, 36, 2, 34);
        mill.undo();
        dueAccounts(mill, 964, 36, 2, 0);
        mill.undo();
        dueAccounts(mill, 964, 36, 0, 0);
        mill.undo();
        dueAccounts(mill, 964, 24, 0, 0);
    }

    // The sum divided by their number, both converted to double.
    private static void tellsTheMeanOfOneToTwelve() {
        CHECK.due("least mean", Mills.withPieces(0, 1).meanLength(), 1.0);
        CHECK.due("mean of twelve", Mills.withPieces(0, Mills.pieces(12, 12)).meanLength(), 12.0);
        CHECK.due("mean of 1 and 2", Mills.withPieces(0, 1, 2).meanLength(), 1.5);
        CHECK.due("mean of 1, 1 and 2", Mills.withPieces(0, 1, 1, 2).meanLength(), 4.0 / 3.0);
        CHECK.due("mean behind eleven of 1", Mills.withPieces(0, 1, 1, 1, 1, 1, 1, 1, 1, 1, 1, 1, 2).meanLength(),
                13.0 / 12.0);
    }

    // meanLength throws ArithmeticException if there are no pieces.
    private static void refusesTheMeanOfNone() {
        CHECK.refusedWholly("new mill", YarnMill::new, Check.ARITHMETIC, mill -> (long) mill.meanLength());
        YarnMill mill = Mills.withPieces(0, 9, 9);
        mill.sell(0);
        CHECK.due("one is left", mill.meanLength(), 9.0);
        mill.sell(0);
        CHECK.refusedReal("all are sold", mill, Check.ARITHMETIC, mill::meanLength);
    }

    // The share of the pieces on the shelf that have at least 10 kilometres.
    private static void tellsTheShareAtTheThreshold() {
        CHECK.due("9", Mills.withPieces(0, 9).longShare(), 0.0f);
        CHECK.due("10", Mills.withPieces(0, 10).longShare(), 1.0f);
        CHECK.due("11", Mills.withPieces(0, 11).longShare(), 1.0f);
        CHECK.due("twelve of 9", Mills.withPieces(0, Mills.pieces(12, 9)).longShare(), 0.0f);
        CHECK.due("twelve of 10", Mills.withPieces(0, Mills.pieces(12, 10)).longShare(), 1.0f);
        YarnMill mill = Mills.withPieces(0, 5, 6);
        CHECK.due("5 and 6", mill.longShare(), 0.0f);
        mill.splice(0);
        CHECK.due("5 and 6 spliced", mill.longShare(), 1.0f);
    }

    // Both numbers converted to float.
    private static void dividesTheShareInFloat() {
        for (int count = 1; count <= 12; count++) {
            int[] pieces = Mills.pieces(count, 9);
            for (int longs = 0; longs <= count; longs++) {
                float due = (float) longs / (float) count;
                CHECK.due(longs + " of " + count, Mills.withPieces(0, pieces).longShare(), due);
                if (longs < count) {
                    pieces[longs] = 10;
                }
            }
        }
    }

    // longShare throws ArithmeticException if there are no pieces.
    private static void refusesTheShareOfNone() {
        CHECK.refusedWholly("new mill", YarnMill::new, Check.ARITHMETIC, mill -> (long) mill.longShare());
        YarnMill mill = Mills.withPieces(0, 10);
        mill.sell(0);
        CHECK.refusedReal("all are sold", mill, Check.ARITHMETIC, mill::longShare);
    }

    // Or there is no blend for both: for the need 1 with the staple 10, for 20 with 30, and for 60 with 45.
    private static void isConsistentWhereNoBlendIs() {
        CHECK.due("no bale", new YarnMill().isConsistent(), true);
        CHECK.due("the first alone", Mills.withBales(new int[] {1, 10, 1}).isConsistent(), true);
        CHECK.due("the first, 19 kilograms", Mills.withBales(new int[] {19, 30, 1}).isConsistent(), true);
        CHECK.due("the first, staple 29", Mills.withBales(new int[] {20, 29, 1}).isConsistent(), true);
        CHECK.due("the first and second", Mills.withBales(new int[] {20, 30, 1}).isConsistent(), true);
        CHECK.due("59 kilograms", Mills.withBales(new int[] {29, 45, 1}, new int[] {30, 45, 1}).isConsistent(), true);
        CHECK.due("staple 44", Mills.withBales(new int[] {30, 44, 1}, new int[] {30, 45, 1}).isConsistent(), true);
    }

    private static void isConsistentWhereBlendsAre() {
        CHECK.due("all three", Mills.withBales(new int[] {30, 45, 1}, new int[] {30, 45, 1}).isConsistent(), true);
        CHECK.due("one takes all", Mills.withBales(new int[] {50, 60, 1}, new int[] {50, 60, 2}).isConsistent(), true);
        CHECK.due("ten alike", Mills.withSmallBales(10).isConsistent(), true);
    }

    private static void isConsistentWhenFull() {
        YarnMill mill = Mills.withPieces(200, 12, 1, 11, 2, 10, 3, 9, 4, 8, 5, 7, 6);
        for (int bale = 1; bale <= 10; bale++) {
            mill.buyBale(3 * bale, 10 + 5 * bale, 1 + bale % 3);
        }
        for (int order = 1; order <= 8; order++) {
            mill.addOrder(41 - order * order % 40, order);
        }
        for (int machines = 1; machines <= 3; machines++) {
            mill.setMachines(machines);
            CHECK.due("full with " + machines, mill.isConsistent(), true);
        }
        mill.blend(60, 45);
        CHECK.due("behind a blend", mill.isConsistent(), true);
        mill.spliceAll();
        CHECK.due("behind a join", mill.isConsistent(), true);
    }
}
