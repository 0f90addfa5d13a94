/** Boundary cases of bales: "Bales and roving", promises 2 and 11 to 16. Each test stands under its sentence. */
public final class BaleEdgesTest {
    private static final Check CHECK = new Check("BaleEdgesTest");
    private static final int LEAST = Integer.MIN_VALUE;
    private static final int MOST = Integer.MAX_VALUE;

    public static void main(String[] args) {
        holdsTenBales();
        hasRoomAgain();
        countsIdsOn();
        testsWeights();
        testsStaples();
        testsPrices();
        testsArgumentsBeforeTheyAreMultiplied();
        paysTheValue();
        paysToTheLastCoin();
        throwsTheFirst();
        countsBales();
        answersPositions();
        answersPositionsAroundGaps();
        knowsNoOtherBale();
        ranksByValue();
        ranksEqualValues();
        ranksAroundGaps();
        refusesRanks();
        CHECK.end();
    }

    // At most 10 bales are in the mill at a time. Throws IllegalStateException if there are 10 bales.
    private static void holdsTenBales() {
        for (int count = 0; count < 10; count++) {
            CHECK.due("bale behind " + count, Mills.withSmallBales(count).buyBale(50, 60, 19), count);
        }
        CHECK.refusedWholly("bale behind 10", () -> Mills.withSmallBales(10), Check.STATE,
                mill -> mill.buyBale(1, 10, 1));
        YarnMill mill = Mills.withSmallBales(9);
        CHECK.due("tenth bale of a script", Mills.run(mill, "bale 1 10 1"), 1);
        CHECK.throwsJust("eleventh bale of a script", Check.STATE, () -> Mills.run(mill, "bale 1 10 1"));
        CHECK.due("bales", mill.baleCount(), 10);
    }

    private static void hasRoomAgain() {
        YarnMill blended = Mills.withSmallBales(10);
        blended.blend(1, 10);
        CHECK.due("behind a blend", blended.buyBale(1, 10, 1), 10);
        CHECK.refused("full again", blended, Check.STATE, () -> blended.buyBale(1, 10, 1));
        YarnMill undone = Mills.withSmallBales(10);
        undone.undo();
        CHECK.due("behind an undo", undone.buyBale(1, 10, 1), 9);
        YarnMill restored = Mills.withSmallBales(9);
        restored.save();
        restored.buyBale(1, 10, 1);
        restored.restore();
        CHECK.due("behind a restore", restored.buyBale(1, 10, 1), 9);
        CHECK.refused("full behind a restore", restored, Check.STATE, () -> restored.buyBale(1, 10, 1));
    }

    // The first one has the id 0, and each further one has the id of the one before plus 1.
    private static void countsIdsOn() {
        YarnMill mill = new YarnMill();
        CHECK.due("first", mill.buyBale(1, 10, 1), 0);
        CHECK.throwsJust("refused", Check.ARGUMENT, () -> mill.buyBale(0, 10, 1));
        CHECK.due("behind a refused one", mill.buyBale(1, 10, 1), 1);
        mill.blend(2, 10);
        CHECK.due("behind a blend of all", mill.buyBale(1, 10, 1), 2);
        mill.buyBale(1, 60, 1);
        mill.blend(1, 60);
        CHECK.due("behind a blend of the latest", mill.buyBale(1, 10, 1), 4);
        CHECK.throwsJust("failed", Check.STATE, () -> Mills.run(mill, "bale 1 10 1;join"));
        CHECK.due("behind a failed script", mill.buyBale(1, 10, 1), 5);
        for (int bale = 6; bale < 110; bale++) {
            mill.blend(1, 10);
            CHECK.due("bale " + bale, mill.buyBale(1, 10, 1), bale);
        }
    }

    // A weight from 1 to 50 kilograms. Throws IllegalArgumentException if the weight is not between 1 and 50.
    private static void testsWeights() {
        CHECK.due("weight 1", Mills.withBales(new int[] {1, 30, 5}).weight(0), 1);
        CHECK.due("weight 50", Mills.withBales(new int[] {50, 30, 5}).weight(0), 50);
        for (int weight : new int[] {LEAST, -50, -1, 0, 51, MOST}) {
            CHECK.refusedWholly("weight " + weight, YarnMill::new, Check.ARGUMENT, mill -> mill.buyBale(weight, 30, 5));
        }
    }

    // A staple from 10 to 60 millimetres. Throws IllegalArgumentException if the staple is not between 10 and 60.
    private static void testsStaples() {
        CHECK.due("staple 10", Mills.withBales(new int[] {7, 10, 5}).staple(0), 10);
        CHECK.due("staple 60", Mills.withBales(new int[] {7, 60, 5}).staple(0), 60);
        for (int staple : new int[] {LEAST, -10, 0, 9, 61, MOST}) {
            CHECK.refusedWholly("staple " + staple, YarnMill::new, Check.ARGUMENT, mill -> mill.buyBale(7, staple, 5));
        }
    }

    // A price from 1 to 20 coins. Throws IllegalArgumentException if the price is not between 1 and 20.
    private static void testsPrices() {
        CHECK.due("price 1", Mills.withBales(new int[] {7, 30, 1}).price(0), 1);
        CHECK.due("price 20", Mills.withBales(new int[] {7, 30, 20}).price(0), 20);
        for (int price : new int[] {LEAST, -1, 0, 21, MOST}) {
            CHECK.refusedWholly("price " + price, YarnMill::new, Check.ARGUMENT, mill -> mill.buyBale(7, 30, price));
        }
    }

    private static void testsArgumentsBeforeTheyAreMultiplied() {
        // The products wrap around to 0 and 1.
        CHECK.refusedWholly("65536 x 65536", YarnMill::new, Check.ARGUMENT, mill -> mill.buyBale(65536, 30, 65536));
        CHECK.refusedWholly("-1 x -1", YarnMill::new, Check.ARGUMENT, mill -> mill.buyBale(-1, 30, -1));
        CHECK.refusedWholly("all wrong", YarnMill::new, Check.ARGUMENT, mill -> mill.buyBale(LEAST, MOST, LEAST));
    }

    // Its value is its weight multiplied by its price, which is paid when it is bought.
    private static void paysTheValue() {
        CHECK.due("least value", Mills.withBales(new int[] {1, 60, 1}).coins(), 999);
        CHECK.due("largest value", Mills.withBales(new int[] {50, 60, 20}).coins(), 0);
        CHECK.due("staple is not paid", Mills.withBales(new int[] {50, 60, 1}).coins(), 950);
    }

    // Throws UnsupportedOperationException if the mill has fewer coins than its value.
    private static void paysToTheLastCoin() {
        int[] dear = {49, 30, 20};
        CHECK.due("20 of 20 coins", Mills.withBales(dear, new int[] {1, 30, 20}).coins(), 0);
        CHECK.refusedWholly("21 of 20 coins", () -> Mills.withBales(dear), Check.UNSUPPORTED,
                mill -> mill.buyBale(7, 30, 3));
        CHECK.refusedWholly("1000 of 20 coins", () -> Mills.withBales(dear), Check.UNSUPPORTED,
                mill -> mill.buyBale(50, 30, 20));
        CHECK.refusedWholly("1 of 0 coins", () -> Mills.withBales(new int[] {50, 30, 20}), Check.UNSUPPORTED,
                mill -> mill.buyBale(1, 10, 1));
        YarnMill mill = Mills.withPieces(0, 10);
        mill.buyBale(50, 30, 19);
        CHECK.throwsJust("41 of 40 coins", Check.UNSUPPORTED, () -> mill.buyBale(41, 30, 1));
        mill.sell(0);
        CHECK.throwsJust("91 of 90 coins", Check.UNSUPPORTED, () -> mill.buyBale(13, 30, 7));
        CHECK.due("90 of 90 coins", mill.buyBale(9, 30, 10), 2);
        CHECK.due("coins", mill.coins(), 0);
    }

    /** Ten bales and ten coins. */
    private static YarnMill fullAndPoor() {
        YarnMill mill = new YarnMill();
        mill.buyBale(49, 60, 20);
        mill.buyBale(2, 30, 1);
        for (int bale = 2; bale < 10; bale++) {
            mill.buyBale(1, 30, 1);
        }
        return mill;
    }

    // If several exceptions apply, the one that is listed first is thrown.
    private static void throwsTheFirst() {
        CHECK.refusedWholly("range, ten, coins", BaleEdgesTest::fullAndPoor, Check.ARGUMENT,
                mill -> mill.buyBale(51, 30, 20));
        CHECK.refusedWholly("range, ten", BaleEdgesTest::fullAndPoor, Check.ARGUMENT, mill -> mill.buyBale(1, 9, 1));
        CHECK.refusedWholly("ten, coins", BaleEdgesTest::fullAndPoor, Check.STATE, mill -> mill.buyBale(50, 30, 20));
        CHECK.refusedWholly("ten", BaleEdgesTest::fullAndPoor, Check.STATE, mill -> mill.buyBale(1, 30, 1));
        CHECK.refusedWholly("range, coins", () -> Mills.withBales(new int[] {50, 30, 20}), Check.ARGUMENT,
                mill -> mill.buyBale(50, 30, 21));
    }

    private static void countsBales() {
        for (int count = 0; count <= 10; count++) {
            CHECK.due("count", Mills.withSmallBales(count).baleCount(), count);
        }
        YarnMill mill = Mills.withSmallBales(10);
        mill.blend(10, 10);
        CHECK.due("none is left", mill.baleCount(), 0);
    }

    // baleAt throws NoSuchElementException if there is no such position.
    private static void answersPositions() {
        for (int count = 0; count <= 10; count++) {
            YarnMill mill = Mills.withSmallBales(count);
            for (int position = 0; position < count; position++) {
                CHECK.due("at " + position + " of " + count, mill.baleAt(position), position);
            }
            for (int position : new int[] {LEAST, -1, count, count + 1, MOST}) {
                CHECK.refused("at " + position + " of " + count, mill, Check.ELEMENT, () -> mill.baleAt(position));
            }
        }
    }

    private static void answersPositionsAroundGaps() {
        YarnMill mill = Mills.withBales(new int[] {1, 60, 1}, new int[] {1, 20, 1}, new int[] {1, 60, 1},
                new int[] {1, 20, 1}, new int[] {1, 60, 1});
        mill.blend(3, 60);
        CHECK.due("at 0", mill.baleAt(0), 1);
        CHECK.due("at 1", mill.baleAt(1), 3);
        CHECK.refused("at 2", mill, Check.ELEMENT, () -> mill.baleAt(2));
    }

    // weight, staple and price throw NoSuchElementException if there is no such bale.
    private static void knowsNoOtherBale() {
        YarnMill mill = Mills.withBales(new int[] {5, 60, 1}, new int[] {6, 20, 2}, new int[] {7, 60, 1});
        mill.blend(12, 60);
        mill.buyBale(8, 30, 3);
        mill.undo();
        CHECK.due("weight of 1", mill.weight(1), 6);
        CHECK.due("staple of 1", mill.staple(1), 20);
        CHECK.due("price of 1", mill.price(1), 2);
        for (int bale : new int[] {LEAST, -1, 0, 2, 3, 4, MOST}) {
            CHECK.refused("weight of " + bale, mill, Check.ELEMENT, () -> mill.weight(bale));
            CHECK.refused("staple of " + bale, mill, Check.ELEMENT, () -> mill.staple(bale));
            CHECK.refused("price of " + bale, mill, Check.ELEMENT, () -> mill.price(bale));
        }
        YarnMill empty = new YarnMill();
        CHECK.refused("weight in an empty mill", empty, Check.ELEMENT, () -> empty.weight(0));
        CHECK.refused("staple in an empty mill", empty, Check.ELEMENT, () -> empty.staple(0));
        CHECK.refused("price in an empty mill", empty, Check.ELEMENT, () -> empty.price(0));
    }

    private static void dueRanks(YarnMill mill, int... due) {
        for (int rank = 0; rank < due.length; rank++) {
            CHECK.due("bale at rank " + rank, mill.baleByValue(rank), due[rank]);
        }
    }

    // Sorted by value in descending order, then by staple in descending order, then by id in ascending order.
    private static void ranksByValue() {
        dueRanks(Mills.withBales(new int[] {1, 60, 1}), 0);
        // A value that is larger by 1 goes before any staple.
        dueRanks(Mills.withBales(new int[] {1, 60, 1}, new int[] {2, 10, 1}), 1, 0);
        dueRanks(Mills.withBales(new int[] {2, 10, 1}, new int[] {1, 60, 1}), 0, 1);
        dueRanks(Mills.withBales(new int[] {50, 60, 9}, new int[] {41, 10, 11}), 1, 0);
    }

    private static void ranksEqualValues() {
        dueRanks(Mills.withBales(new int[] {6, 30, 2}, new int[] {4, 31, 3}, new int[] {3, 60, 4}), 2, 1, 0);
        dueRanks(Mills.withBales(new int[] {6, 30, 2}, new int[] {2, 30, 6}, new int[] {12, 30, 1}), 0, 1, 2);
        dueRanks(Mills.withSmallBales(10), 0, 1, 2, 3, 4, 5, 6, 7, 8, 9);
    }

    private static void ranksAroundGaps() {
        YarnMill mill = Mills.withBales(new int[] {10, 60, 1}, new int[] {10, 20, 2}, new int[] {10, 60, 1},
                new int[] {10, 20, 3}, new int[] {10, 20, 5});
        mill.blend(20, 60);
        dueRanks(mill, 4, 3, 1);
        CHECK.refused("rank 3", mill, Check.ELEMENT, () -> mill.baleByValue(3));
    }

    // baleByValue throws NoSuchElementException if there is no such rank.
    private static void refusesRanks() {
        for (int count : new int[] {0, 1, 9, 10}) {
            YarnMill mill = Mills.withSmallBales(count);
            for (int rank : new int[] {LEAST, -1, count, count + 1, MOST}) {
                CHECK.refused("rank " + rank + " of " + count, mill, Check.ELEMENT, () -> mill.baleByValue(rank));
            }
        }
    }
}
