/** Boundary cases of the shelf: "Spinning", "Splicing and selling", promises 7 to 10 and 30 to 36. */
public final class ShelfEdgesTest {
    private static final Check CHECK = new Check("ShelfEdgesTest");
    private static final int LEAST = Integer.MIN_VALUE;
    private static final int MOST = Integer.MAX_VALUE;

    public static void main(String[] args) {
        breaksAtEveryTwist();
        breaksTheShortestAndTheLongest();
        needsItsRoving();
        holdsTwelvePieces();
        throwsTheFirst();
        putsPiecesAtTheEnd();
        advancesTheClockByItsTime();
        closesTheOrder();
        splicesTheShortestPieces();
        splicesAtTheEnds();
        refusesSplicePositions();
        splicesAllOfTwo();
        splicesAllOfTwelve();
        addsUpTheWasteOfAllSplices();
        refusesToSpliceAll();
        sellsAtTheThreshold();
        sellsAtTheEnds();
        refusesSellPositions();
        countsPieces();
        refusesReadPositions();
        findsTheLongest();
        ranksByLength();
        refusesRanks();
        costsNothingBelowTwoPieces();
        costsOfTwoToTwelvePieces();
        CHECK.end();
    }

    private static void duePieces(int length, int twist, String due) {
        YarnMill mill = Mills.withRoving(40);
        String what = "order " + length + " " + twist;
        CHECK.due("pieces of " + what, mill.spin(mill.addOrder(length, twist)), due.split(" ").length);
        CHECK.due("shelf of " + what, Mills.shelf(mill), due);
        CHECK.due("clock of " + what, mill.clock(), length * twist);
        CHECK.due("roving of " + what, mill.roving(), 40 - length);
    }

    // The yarn breaks after every 3 + t kilometres; the last piece has what is left and is not empty.
    private static void breaksAtEveryTwist() {
        for (int twist = 1; twist <= 9; twist++) {
            int step = 3 + twist;
            duePieces(step - 1, twist, "" + (step - 1));
            duePieces(step, twist, "" + step);
            duePieces(step + 1, twist, step + " 1");
            duePieces(2 * step - 1, twist, step + " " + (step - 1));
            duePieces(2 * step, twist, step + " " + step);
            duePieces(2 * step + 1, twist, step + " " + step + " 1");
        }
    }

    private static void breaksTheShortestAndTheLongest() {
        duePieces(1, 1, "1");
        duePieces(1, 9, "1");
        duePieces(40, 1, "4 4 4 4 4 4 4 4 4 4");
        duePieces(40, 2, "5 5 5 5 5 5 5 5");
        duePieces(40, 3, "6 6 6 6 6 6 4");
        duePieces(40, 5, "8 8 8 8 8");
        duePieces(40, 7, "10 10 10 10");
        duePieces(40, 9, "12 12 12 4");
    }

    private static YarnMill withRovingAndOrder(int roving, int length, int twist) {
        YarnMill mill = Mills.withRoving(roving);
        mill.addOrder(length, twist);
        return mill;
    }

    // A kilometre needs 1 kilogram. Throws UnsupportedOperationException if there is less roving than it needs.
    private static void needsItsRoving() {
        for (int length : new int[] {1, 12, 39, 40}) {
            CHECK.refusedWholly(length + " of " + (length - 1), () -> withRovingAndOrder(length - 1, length, 9),
                    Check.UNSUPPORTED, mill -> mill.spin(0));
            YarnMill mill = withRovingAndOrder(length, length, 9);
            mill.spin(0);
            CHECK.due("roving behind " + length + " of " + length, mill.roving(), 0);
        }
        YarnMill most = withRovingAndOrder(999, 40, 9);
        most.spin(0);
        CHECK.due("roving behind 40 of 999", most.roving(), 959);
    }

    private static YarnMill withPiecesAndOrder(int pieces, int length, int twist) {
        YarnMill mill = Mills.withPieces(length, Mills.pieces(pieces, 2));
        mill.addOrder(length, twist);
        return mill;
    }

    // The shelf holds at most 12 pieces. Throws IllegalStateException if there would be more than 12 pieces.
    private static void holdsTwelvePieces() {
        int[][] orders = {{1, 9}, {12, 9}, {13, 9}, {40, 9}, {40, 1}, {36, 1}, {37, 1}};
        int[] counts = {1, 1, 2, 4, 10, 9, 10};
        for (int index = 0; index < orders.length; index++) {
            int length = orders[index][0];
            int twist = orders[index][1];
            int count = counts[index];
            YarnMill mill = withPiecesAndOrder(12 - count, length, twist);
            CHECK.due("pieces of " + length + " " + twist, mill.spin(12 - count), count);
            CHECK.due("a full shelf", mill.pieceCount(), 12);
            CHECK.due("last position", mill.pieceLength(11), length - (count - 1) * (3 + twist));
            CHECK.refusedWholly("one piece too many of " + length + " " + twist,
                    () -> withPiecesAndOrder(13 - count, length, twist), Check.STATE, one -> one.spin(13 - count));
        }
        CHECK.refusedWholly("10 to 12", () -> withPiecesAndOrder(12, 40, 1), Check.STATE, mill -> mill.spin(12));
        YarnMill mill = withPiecesAndOrder(12, 1, 1);
        mill.splice(0);
        CHECK.due("behind a splice", mill.spin(12), 1);
        YarnMill sold = withPiecesAndOrder(12, 1, 1);
        sold.sell(0);
        CHECK.due("behind a sale", sold.spin(12), 1);
    }

    private static YarnMill fullWithoutRoving() {
        YarnMill mill = Mills.withPieces(0, Mills.pieces(12, 1));
        mill.addOrder(40, 1);
        return mill;
    }

    // If several exceptions apply, the one that is listed first is thrown.
    private static void throwsTheFirst() {
        CHECK.refusedWholly("order, roving, shelf", ShelfEdgesTest::fullWithoutRoving, Check.ELEMENT,
                mill -> mill.spin(11));
        CHECK.refusedWholly("roving, shelf", ShelfEdgesTest::fullWithoutRoving, Check.UNSUPPORTED,
                mill -> mill.spin(12));
        CHECK.refusedWholly("order, roving", YarnMill::new, Check.ELEMENT, mill -> mill.spin(0));
    }

    // They are put at the end of the shelf one after the other.
    private static void putsPiecesAtTheEnd() {
        YarnMill mill = Mills.withPieces(20, 9, 3);
        mill.spin(mill.addOrder(9, 1));
        CHECK.due("shelf", Mills.shelf(mill), "9 3 4 4 1");
        mill.sell(0);
        mill.spin(mill.addOrder(6, 2));
        CHECK.due("shelf", Mills.shelf(mill), "3 4 4 1 5 1");
    }

    // The clock, which is 0 initially, goes on by its time.
    private static void advancesTheClockByItsTime() {
        YarnMill mill = Mills.withRoving(43);
        CHECK.due("clock initially", mill.clock(), 0);
        mill.spin(mill.addOrder(1, 1));
        CHECK.due("clock behind 1", mill.clock(), 1);
        mill.spin(mill.addOrder(40, 9));
        CHECK.due("clock behind 360", mill.clock(), 361);
        mill.spin(mill.addOrder(2, 9));
        CHECK.due("clock behind 18", mill.clock(), 379);
    }

    // The order is not open any more.
    private static void closesTheOrder() {
        YarnMill mill = withRovingAndOrder(50, 5, 9);
        mill.spin(0);
        CHECK.due("orders", mill.orderCount(), 0);
        CHECK.refused("again", mill, Check.ELEMENT, () -> mill.spin(0));
        CHECK.due("next id", mill.addOrder(1, 1), 1);
    }

    // They become one piece at the lower position, which is 1 kilometre shorter than both together.
    private static void splicesTheShortestPieces() {
        YarnMill mill = Mills.withPieces(0, 1, 1);
        int clock = mill.clock();
        CHECK.due("1 and 1", mill.splice(0), 1);
        CHECK.due("shelf", Mills.shelf(mill), "1");
        CHECK.due("clock", mill.clock(), clock + 2);
        CHECK.due("waste", mill.wasteTotal(), 1);
        CHECK.refused("one piece", mill, Check.INDEX, () -> mill.splice(0));
    }

    private static void splicesAtTheEnds() {
        YarnMill mill = Mills.withPieces(0, 1, 2, 3, 4, 5, 6, 7, 8, 9, 10, 11, 12);
        int clock = mill.clock();
        CHECK.due("last pair", mill.splice(10), 22);
        CHECK.due("shelf", Mills.shelf(mill), "1 2 3 4 5 6 7 8 9 10 22");
        CHECK.due("clock", mill.clock(), clock + 23);
        CHECK.due("first pair", mill.splice(0), 2);
        CHECK.due("shelf", Mills.shelf(mill), "2 3 4 5 6 7 8 9 10 22");
        CHECK.due("clock", mill.clock(), clock + 26);
        CHECK.due("waste", mill.wasteTotal(), 2);
    }

    // Throws IndexOutOfBoundsException if there is no such position, or there is no position behind it.
    private static void refusesSplicePositions() {
        for (int count : new int[] {0, 1, 2, 11, 12}) {
            for (int position : new int[] {LEAST, -2, -1, count - 1, count, count + 1, MOST - 1, MOST}) {
                CHECK.refusedWholly("splice " + position + " of " + count,
                        () -> Mills.withPieces(0, Mills.pieces(count, 3)), Check.INDEX, mill -> mill.splice(position));
            }
            for (int position = 0; position < count - 1; position++) {
                CHECK.due("splice", Mills.withPieces(0, Mills.pieces(count, 3)).splice(position), 5);
            }
        }
    }

    // Splicing all pieces means to splice neighbouring pieces until there is one piece.
    private static void splicesAllOfTwo() {
        YarnMill mill = Mills.withPieces(0, 1, 1);
        int clock = mill.clock();
        CHECK.due("length", mill.spliceAll(), 1);
        CHECK.due("clock", mill.clock(), clock + 2);
        CHECK.due("waste", mill.wasteTotal(), 1);
        CHECK.due("pieces", mill.pieceCount(), 1);
    }

    private static void splicesAllOfTwelve() {
        YarnMill mill = Mills.withPieces(0, Mills.pieces(12, 12));
        int clock = mill.clock();
        int cost = mill.spliceCost();
        CHECK.due("length", mill.spliceAll(), 144 - 11);
        CHECK.due("shelf", Mills.shelf(mill), "133");
        CHECK.due("clock", mill.clock(), clock + cost);
        CHECK.due("waste", mill.wasteTotal(), 11);
        CHECK.due("worth", mill.sell(0), 665);
    }

    private static void addsUpTheWasteOfAllSplices() {
        YarnMill mill = Mills.withPieces(12, 12, 12, 12, 12);
        mill.splice(2);
        mill.spliceAll();
        CHECK.due("waste of four pieces", mill.wasteTotal(), 3);
        mill.spin(mill.addOrder(12, 9));
        mill.spliceAll();
        CHECK.due("waste of five pieces", mill.wasteTotal(), 4);
        CHECK.due("shelf", Mills.shelf(mill), "56");
    }

    // Throws IllegalStateException if there are fewer than 2 pieces.
    private static void refusesToSpliceAll() {
        CHECK.refusedWholly("no piece", YarnMill::new, Check.STATE, YarnMill::spliceAll);
        CHECK.refusedWholly("one piece", () -> Mills.withPieces(0, 12), Check.STATE, YarnMill::spliceAll);
        CHECK.refusedWholly("one spliced piece", () -> {
            YarnMill mill = Mills.withPieces(0, 12, 12);
            mill.spliceAll();
            return mill;
        }, Check.STATE, YarnMill::spliceAll);
    }

    // A piece of at least 10 kilometres is sold for 5 coins a kilometre, a shorter one for 2 coins a kilometre.
    private static void sellsAtTheThreshold() {
        int[] lengths = {1, 2, 9, 10, 11, 12};
        int[] worths = {2, 4, 18, 50, 55, 60};
        for (int index = 0; index < lengths.length; index++) {
            YarnMill mill = Mills.withPieces(0, lengths[index]);
            int coins = mill.coins();
            CHECK.due("worth of " + lengths[index], mill.worthOf(0), worths[index]);
            CHECK.due("sale of " + lengths[index], mill.sell(0), worths[index]);
            CHECK.due("coins behind " + lengths[index], mill.coins(), coins + worths[index]);
            CHECK.due("sold", mill.soldTotal(), lengths[index]);
        }
        YarnMill nine = Mills.withPieces(0, 5, 5);
        nine.splice(0);
        CHECK.due("5 and 5 are 9", nine.sell(0), 18);
        YarnMill ten = Mills.withPieces(0, 5, 6);
        ten.splice(0);
        CHECK.due("5 and 6 are 10", ten.sell(0), 50);
    }

    // The positions of the pieces behind it decrease by 1.
    private static void sellsAtTheEnds() {
        YarnMill mill = Mills.withPieces(0, 1, 2, 3, 4, 5, 6, 7, 8, 9, 10, 11, 12);
        mill.sell(0);
        CHECK.due("behind the first", Mills.shelf(mill), "2 3 4 5 6 7 8 9 10 11 12");
        mill.sell(10);
        CHECK.due("behind the last", Mills.shelf(mill), "2 3 4 5 6 7 8 9 10 11");
        mill.sell(5);
        CHECK.due("behind one between", Mills.shelf(mill), "2 3 4 5 6 8 9 10 11");
    }

    // sell throws IndexOutOfBoundsException if there is no such position on the shelf.
    private static void refusesSellPositions() {
        for (int count : new int[] {0, 1, 11, 12}) {
            for (int position : new int[] {LEAST, -1, count, count + 1, MOST}) {
                CHECK.refusedWholly("sell " + position + " of " + count,
                        () -> Mills.withPieces(0, Mills.pieces(count, 3)), Check.INDEX, mill -> mill.sell(position));
            }
        }
    }

    private static void countsPieces() {
        for (int count = 0; count <= 12; count++) {
            CHECK.due("count", Mills.withPieces(0, Mills.pieces(count, 1)).pieceCount(), count);
        }
    }

    // pieceLength and worthOf throw IndexOutOfBoundsException if there is no such position on the shelf.
    private static void refusesReadPositions() {
        for (int count : new int[] {0, 1, 11, 12}) {
            YarnMill mill = Mills.withPieces(0, Mills.pieces(count, 10));
            for (int position = 0; position < count; position++) {
                CHECK.due("length of " + position, mill.pieceLength(position), 10);
                CHECK.due("worth of " + position, mill.worthOf(position), 50);
            }
            for (int position : new int[] {LEAST, -1, count, count + 1, MOST}) {
                CHECK.refused("length of " + position, mill, Check.INDEX, () -> mill.pieceLength(position));
                CHECK.refused("worth of " + position, mill, Check.INDEX, () -> mill.worthOf(position));
            }
        }
        YarnMill mill = Mills.withPieces(0, 10, 10, 10);
        mill.splice(1);
        CHECK.refused("length behind a splice", mill, Check.INDEX, () -> mill.pieceLength(2));
        CHECK.refused("worth behind a splice", mill, Check.INDEX, () -> mill.worthOf(2));
    }

    // The lowest one of several. Throws NoSuchElementException if there are no pieces.
    private static void findsTheLongest() {
        CHECK.refusedWholly("new mill", YarnMill::new, Check.ELEMENT, YarnMill::longestPiece);
        YarnMill mill = Mills.withPieces(0, 12);
        CHECK.due("one", mill.longestPiece(), 0);
        mill.sell(0);
        CHECK.refused("all are sold", mill, Check.ELEMENT, mill::longestPiece);
        CHECK.due("twelve alike", Mills.withPieces(0, Mills.pieces(12, 5)).longestPiece(), 0);
        CHECK.due("first", Mills.withPieces(0, 9, 8, 8).longestPiece(), 0);
        CHECK.due("last of twelve", Mills.withPieces(0, 5, 5, 5, 5, 5, 5, 5, 5, 5, 5, 5, 6).longestPiece(), 11);
        CHECK.due("lower of two", Mills.withPieces(0, 5, 7, 7, 6).longestPiece(), 1);
    }

    private static void dueRanks(YarnMill mill, int... due) {
        for (int rank = 0; rank < due.length; rank++) {
            CHECK.due("piece at rank " + rank, mill.pieceByLength(rank), due[rank]);
        }
    }

    // Sorted by length in ascending order, then by position in ascending order.
    private static void ranksByLength() {
        dueRanks(Mills.withPieces(0, 1), 0);
        dueRanks(Mills.withPieces(0, 12, 1), 1, 0);
        dueRanks(Mills.withPieces(0, Mills.pieces(12, 4)), 0, 1, 2, 3, 4, 5, 6, 7, 8, 9, 10, 11);
        dueRanks(Mills.withPieces(0, 12, 11, 10, 9, 8, 7, 6, 5, 4, 3, 2, 1), 11, 10, 9, 8, 7, 6, 5, 4, 3, 2, 1, 0);
        dueRanks(Mills.withPieces(0, 3, 2, 3, 2), 1, 3, 0, 2);
    }

    // pieceByLength throws NoSuchElementException if there is no such rank.
    private static void refusesRanks() {
        for (int count : new int[] {0, 1, 11, 12}) {
            YarnMill mill = Mills.withPieces(0, Mills.pieces(count, 1));
            for (int rank : new int[] {LEAST, -1, count, count + 1, MOST}) {
                CHECK.refused("rank " + rank + " of " + count, mill, Check.ELEMENT, () -> mill.pieceByLength(rank));
            }
        }
    }

    private static void dueCost(YarnMill mill, int due) {
        CHECK.due("cost of " + Mills.shelf(mill), mill.spliceCost(), due);
        CHECK.due("cost by memory of " + Mills.shelf(mill), mill.spliceCostByMemory(), due);
        if (mill.pieceCount() > 1) {
            int clock = mill.clock();
            mill.spliceAll();
            CHECK.due("clock", mill.clock(), clock + due);
        }
    }

    // Returns the cost in minutes, 0 with fewer than 2 pieces.
    private static void costsNothingBelowTwoPieces() {
        dueCost(new YarnMill(), 0);
        dueCost(Mills.withPieces(0, 1), 0);
        dueCost(Mills.withPieces(0, 12), 0);
        YarnMill mill = Mills.withPieces(0, 12, 12);
        mill.splice(0);
        dueCost(mill, 0);
        mill.sell(0);
        dueCost(mill, 0);
    }

    private static void costsOfTwoToTwelvePieces() {
        dueCost(Mills.withPieces(0, 1, 1), 2);
        dueCost(Mills.withPieces(0, 12, 12), 24);
        // 1 and 1 are 1 again: every splice takes 2 minutes.
        dueCost(Mills.withPieces(0, Mills.pieces(12, 1)), 22);
        // Pair by pair: the last splice is that of 23 and 23.
        dueCost(Mills.withPieces(0, 12, 12, 12, 12), 24 + 24 + 46);
        // The short pieces first, though the long one stands between them.
        dueCost(Mills.withPieces(0, 1, 12, 1), 13 + 13);
        dueCost(Mills.withPieces(0, 1, 1, 12), 2 + 13);
        dueCost(Mills.withPieces(0, 12, 1, 1), 2 + 13);
    }
}
