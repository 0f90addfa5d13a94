import java.util.NoSuchElementException;

/** Promises 7 to 10 and 30 to 36. */
public final class ShelfTest {
    private static final Check CHECK = new Check("ShelfTest");

    public static void main(String[] args) {
        breaksTheYarn();
        spins();
        refusesToSpin();
        splices();
        refusesToSplice();
        splicesAll();
        sells();
        answersByPosition();
        findsTheLongest();
        ranksByLength();
        findsTheCheapestSplicing();
        CHECK.end();
    }

    private static void breaksTheYarn() {
        int[][] orders = {{1, 1}, {4, 1}, {5, 1}, {40, 1}, {24, 9}, {25, 9}, {40, 9}, {12, 3}, {13, 2}, {5, 2}};
        String[] shelves = {"1", "4", "4 1", "4 4 4 4 4 4 4 4 4 4", "12 12", "12 12 1", "12 12 12 4", "6 6", "5 5 3",
            "5"};
        for (int index = 0; index < orders.length; index++) {
            String what = "order " + orders[index][0] + " " + orders[index][1];
            YarnMill mill = Mills.withRoving(40);
            int order = mill.addOrder(orders[index][0], orders[index][1]);
            CHECK.due("pieces of " + what, mill.spin(order), shelves[index].split(" ").length);
            CHECK.due("shelf of " + what, Mills.shelf(mill), shelves[index]);
            CHECK.due("clock of " + what, mill.clock(), orders[index][0] * orders[index][1]);
            CHECK.due("roving of " + what, mill.roving(), 40 - orders[index][0]);
            CHECK.due("spun by " + what, mill.spunTotal(), orders[index][0]);
        }
    }

    private static void spins() {
        YarnMill mill = Mills.withRoving(60);
        mill.addOrder(13, 2);
        mill.addOrder(9, 3);
        mill.addOrder(30, 8);
        CHECK.due("pieces", mill.spin(1), 2);
        CHECK.due("orders", mill.orderCount(), 2);
        CHECK.due("order at 1", mill.orderAt(1), 2);
        CHECK.due("pieces", mill.spin(0), 3);
        CHECK.due("shelf", Mills.shelf(mill), "6 3 5 5 3");
        CHECK.due("clock", mill.clock(), 27 + 26);
        CHECK.due("roving", mill.roving(), 60 - 22);
        CHECK.due("coins", mill.coins(), 1000 - 60);
        CHECK.due("next order", mill.addOrder(1, 1), 3);
    }

    private static void refusesToSpin() {
        YarnMill mill = Mills.withRoving(44);
        int big = mill.addOrder(40, 1);
        int one = mill.addOrder(1, 9);
        mill.spin(mill.addOrder(9, 1));
        for (int order : new int[] {2, 3, -1, Integer.MIN_VALUE, Integer.MAX_VALUE}) {
            CHECK.refused("spin " + order, mill, NoSuchElementException.class, () -> mill.spin(order));
        }
        CHECK.refused("roving and shelf", mill, UnsupportedOperationException.class, () -> mill.spin(big));
        mill.buyBale(5, 30, 1);
        mill.blend(5, 10);
        CHECK.refused("shelf", mill, IllegalStateException.class, () -> mill.spin(big));
        mill.sell(0);
        CHECK.due("12 pieces", mill.spin(big), 10);
        CHECK.due("count", mill.pieceCount(), 12);
        CHECK.due("roving", mill.roving(), 0);
        CHECK.refused("no roving, full shelf", mill, UnsupportedOperationException.class, () -> mill.spin(one));
        mill.buyBale(1, 30, 1);
        mill.blend(1, 10);
        CHECK.refused("full shelf", mill, IllegalStateException.class, () -> mill.spin(one));
        CHECK.refused("no order, full shelf", mill, NoSuchElementException.class, () -> mill.spin(big));
    }

    private static void splices() {
        YarnMill mill = Mills.withPieces(5, 7, 4, 12, 1, 1);
        int clock = mill.clock();
        CHECK.due("splice 1", mill.splice(1), 15);
        CHECK.due("shelf", Mills.shelf(mill), "7 15 1 1");
        CHECK.due("clock", mill.clock(), clock + 16);
        CHECK.due("waste", mill.wasteTotal(), 1);
        CHECK.due("splice 2", mill.splice(2), 1);
        CHECK.due("shelf", Mills.shelf(mill), "7 15 1");
        CHECK.due("splice 0", mill.splice(0), 21);
        CHECK.due("splice 0", mill.splice(0), 21);
        CHECK.due("shelf", Mills.shelf(mill), "21");
        CHECK.due("clock", mill.clock(), clock + 16 + 2 + 22 + 22);
        CHECK.due("waste", mill.wasteTotal(), 4);
        CHECK.due("roving", mill.roving(), 5);
        CHECK.due("spun", mill.spunTotal(), 25);
    }

    private static void refusesToSplice() {
        YarnMill mill = Mills.withPieces(0, 7, 4, 12);
        for (int position : new int[] {2, 3, -1, Integer.MIN_VALUE, Integer.MAX_VALUE}) {
            CHECK.refused("splice " + position, mill, IndexOutOfBoundsException.class, () -> mill.splice(position));
        }
        YarnMill one = Mills.withPieces(0, 7);
        CHECK.refused("splice of one", one, IndexOutOfBoundsException.class, () -> one.splice(0));
        YarnMill none = new YarnMill();
        CHECK.refused("splice of none", none, IndexOutOfBoundsException.class, () -> none.splice(0));
    }

    private static void splicesAll() {
        YarnMill mill = Mills.withPieces(3, 12, 1, 1, 12);
        int clock = mill.clock();
        // 1+1, then 12+1 or 1+12, then what they are with the other 12.
        CHECK.due("cost", mill.spliceCost(), 2 + 13 + 24);
        CHECK.due("length", mill.spliceAll(), 23);
        CHECK.due("shelf", Mills.shelf(mill), "23");
        CHECK.due("clock", mill.clock(), clock + 39);
        CHECK.due("waste", mill.wasteTotal(), 3);
        CHECK.refused("one piece", mill, IllegalStateException.class, mill::spliceAll);
        mill.sell(0);
        CHECK.refused("no piece", mill, IllegalStateException.class, mill::spliceAll);
        YarnMill two = Mills.withPieces(0, 5, 6);
        clock = two.clock();
        CHECK.due("length of two", two.spliceAll(), 10);
        CHECK.due("clock of two", two.clock(), clock + 11);
    }

    private static void sells() {
        YarnMill mill = Mills.withPieces(0, 9, 10, 1, 12);
        int coins = mill.coins();
        int clock = mill.clock();
        CHECK.due("sell 10", mill.sell(1), 50);
        CHECK.due("shelf", Mills.shelf(mill), "9 1 12");
        CHECK.due("sell 9", mill.sell(0), 18);
        CHECK.due("sell 12", mill.sell(1), 60);
        CHECK.due("shelf", Mills.shelf(mill), "1");
        CHECK.due("coins", mill.coins(), coins + 128);
        CHECK.due("sold", mill.soldTotal(), 31);
        CHECK.due("clock", mill.clock(), clock);
        for (int position : new int[] {1, -1, Integer.MIN_VALUE, Integer.MAX_VALUE}) {
            CHECK.refused("sell " + position, mill, IndexOutOfBoundsException.class, () -> mill.sell(position));
        }
        CHECK.due("sell 1", mill.sell(0), 2);
        CHECK.due("none", mill.pieceCount(), 0);
        CHECK.refused("sell of none", mill, IndexOutOfBoundsException.class, () -> mill.sell(0));
    }

    private static void answersByPosition() {
        YarnMill mill = Mills.withPieces(0, 9, 10, 4);
        CHECK.due("count", mill.pieceCount(), 3);
        CHECK.due("length of 0", mill.pieceLength(0), 9);
        CHECK.due("length of 2", mill.pieceLength(2), 4);
        CHECK.due("worth of 0", mill.worthOf(0), 18);
        CHECK.due("worth of 1", mill.worthOf(1), 50);
        CHECK.due("worth of 2", mill.worthOf(2), 8);
        for (int position : new int[] {3, -1, Integer.MIN_VALUE, Integer.MAX_VALUE}) {
            CHECK.refused("length " + position, mill, IndexOutOfBoundsException.class,
                    () -> mill.pieceLength(position));
            CHECK.refused("worth " + position, mill, IndexOutOfBoundsException.class, () -> mill.worthOf(position));
        }
    }

    private static void findsTheLongest() {
        CHECK.due("longest of one", Mills.withPieces(0, 1).longestPiece(), 0);
        CHECK.due("lowest of two", Mills.withPieces(0, 4, 9, 8, 9).longestPiece(), 1);
        CHECK.due("last", Mills.withPieces(0, 4, 9, 8, 10).longestPiece(), 3);
        YarnMill sold = Mills.withPieces(0, 4, 5, 9);
        sold.sell(2);
        CHECK.due("longest behind a sale", sold.longestPiece(), 1);
        YarnMill mill = Mills.withPieces(0, 3);
        mill.sell(0);
        CHECK.refused("longest of none", mill, NoSuchElementException.class, mill::longestPiece);
    }

    private static void ranksByLength() {
        YarnMill mill = Mills.withPieces(0, 7, 3, 12, 3, 7, 1);
        int[] due = {5, 1, 3, 0, 4, 2};
        for (int rank = 0; rank < due.length; rank++) {
            CHECK.due("piece at rank " + rank, mill.pieceByLength(rank), due[rank]);
        }
        for (int rank : new int[] {6, -1, Integer.MIN_VALUE, Integer.MAX_VALUE}) {
            CHECK.refused("rank " + rank, mill, NoSuchElementException.class, () -> mill.pieceByLength(rank));
        }
    }

    private static void dueCost(YarnMill mill, int due) {
        CHECK.due("cost of " + Mills.shelf(mill), mill.spliceCost(), due);
        CHECK.due("cost by memory of " + Mills.shelf(mill), mill.spliceCostByMemory(), due);
    }

    private static void findsTheCheapestSplicing() {
        dueCost(new YarnMill(), 0);
        dueCost(Mills.withPieces(0, 12), 0);
        dueCost(Mills.withPieces(0, 12, 5), 17);
        dueCost(Mills.withPieces(0, 2, 3, 12), 5 + 16);
        dueCost(Mills.withPieces(0, 12, 3, 2), 5 + 16);
        // One after the other would cost 8 + 11 + 14.
        dueCost(Mills.withPieces(0, 4, 4, 4, 4), 8 + 8 + 14);
        dueCost(Mills.withPieces(0, 1, 1, 1, 1, 1, 1, 1, 1, 1, 1, 1, 1), 22);
    }
}
