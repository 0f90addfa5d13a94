import java.util.NoSuchElementException;

/** Promises 2 and 11 to 16. */
public final class BalesTest {
    private static final Check CHECK = new Check("BalesTest");

    public static void main(String[] args) {
        buysBales();
        testsTheRanges();
        refusesAnEleventhBale();
        refusesWhatIsTooDear();
        throwsTheFirstOfSeveral();
        answersByPosition();
        answersById();
        ranksByValue();
        CHECK.end();
    }

    private static void buysBales() {
        YarnMill mill = new YarnMill();
        CHECK.due("first id", mill.buyBale(20, 30, 3), 0);
        CHECK.due("coins", mill.coins(), 940);
        CHECK.due("second id", mill.buyBale(50, 60, 18), 1);
        CHECK.due("coins", mill.coins(), 40);
        CHECK.due("third id", mill.buyBale(2, 10, 20), 2);
        CHECK.due("all coins are spent", mill.coins(), 0);
        CHECK.due("count", mill.baleCount(), 3);
        CHECK.due("roving", mill.roving(), 0);
    }

    private static void testsTheRanges() {
        int[][] good = {{1, 10, 1}, {50, 10, 1}, {1, 60, 1}, {1, 10, 20}, {50, 60, 20}};
        for (int[] bale : good) {
            YarnMill mill = new YarnMill();
            boolean isAffordable = bale[0] * bale[2] <= 1000;
            CHECK.due("edge can be bought", isAffordable && mill.buyBale(bale[0], bale[1], bale[2]) == 0, true);
            CHECK.due("weight", mill.weight(0), bale[0]);
            CHECK.due("staple", mill.staple(0), bale[1]);
            CHECK.due("price", mill.price(0), bale[2]);
        }
        int[][] bad = {{0, 30, 5}, {51, 30, 5}, {-1, 30, 5}, {20, 9, 5}, {20, 61, 5}, {20, 30, 0}, {20, 30, 21},
            {Integer.MIN_VALUE, 30, 5}, {Integer.MAX_VALUE, 30, 5}, {20, Integer.MAX_VALUE, 5},
            {20, 30, Integer.MIN_VALUE}, {20, 30, Integer.MAX_VALUE}};
        YarnMill mill = new YarnMill();
        for (int[] bale : bad) {
            CHECK.refused("bale " + bale[0] + " " + bale[1] + " " + bale[2], mill, IllegalArgumentException.class,
                    () -> mill.buyBale(bale[0], bale[1], bale[2]));
        }
        CHECK.due("refused bales take no id", mill.buyBale(1, 10, 1), 0);
    }

    private static YarnMill withBales(int count) {
        YarnMill mill = new YarnMill();
        for (int bale = 0; bale < count; bale++) {
            mill.buyBale(1 + bale, 30, 1);
        }
        return mill;
    }

    private static void refusesAnEleventhBale() {
        YarnMill mill = withBales(9);
        CHECK.due("tenth bale", mill.buyBale(1, 30, 1), 9);
        CHECK.refused("eleventh bale", mill, IllegalStateException.class, () -> mill.buyBale(1, 30, 1));
        mill.blend(1, 10);
        CHECK.due("next id after a blend", mill.buyBale(1, 30, 1), 10);
    }

    private static void refusesWhatIsTooDear() {
        YarnMill mill = new YarnMill();
        mill.buyBale(50, 60, 19);
        CHECK.due("coins", mill.coins(), 50);
        CHECK.refused("one coin is missing", mill, UnsupportedOperationException.class, () -> mill.buyBale(17, 60, 3));
        CHECK.due("all coins", mill.buyBale(10, 60, 5), 1);
        CHECK.refused("no coins", mill, UnsupportedOperationException.class, () -> mill.buyBale(1, 10, 1));
    }

    private static void throwsTheFirstOfSeveral() {
        YarnMill mill = new YarnMill();
        mill.buyBale(50, 30, 19);
        mill.buyBale(41, 30, 1);
        for (int bale = 0; bale < 8; bale++) {
            mill.buyBale(1, 30, 1);
        }
        CHECK.refused("range, number and coins", mill, IllegalArgumentException.class, () -> mill.buyBale(51, 30, 20));
        CHECK.refused("number and coins", mill, IllegalStateException.class, () -> mill.buyBale(50, 30, 20));
        mill.blend(1, 10);
        CHECK.refused("coins alone", mill, UnsupportedOperationException.class, () -> mill.buyBale(50, 30, 20));
        CHECK.refused("range and coins", mill, IllegalArgumentException.class, () -> mill.buyBale(50, 61, 20));
    }

    private static void answersByPosition() {
        YarnMill mill = withBales(3);
        CHECK.due("at 2", mill.baleAt(2), 2);
        CHECK.refused("at 3", mill, NoSuchElementException.class, () -> mill.baleAt(3));
        CHECK.refused("at -1", mill, NoSuchElementException.class, () -> mill.baleAt(-1));
        CHECK.refused("at the least number", mill, NoSuchElementException.class, () -> mill.baleAt(Integer.MIN_VALUE));
        mill.blend(2, 30);
        CHECK.due("count", mill.baleCount(), 2);
        CHECK.due("at 0", mill.baleAt(0), 0);
        CHECK.due("at 1", mill.baleAt(1), 2);
        CHECK.refused("at 2", mill, NoSuchElementException.class, () -> mill.baleAt(2));
    }

    private static void answersById() {
        YarnMill mill = new YarnMill();
        mill.buyBale(11, 21, 1);
        mill.buyBale(2, 60, 3);
        mill.buyBale(13, 23, 5);
        CHECK.due("blend of bale 1", mill.blend(2, 60), 2);
        CHECK.due("weight of 2", mill.weight(2), 13);
        CHECK.due("staple of 2", mill.staple(2), 23);
        CHECK.due("price of 2", mill.price(2), 5);
        CHECK.due("weight of 0", mill.weight(0), 11);
        for (int bale : new int[] {1, 3, -1, Integer.MIN_VALUE, Integer.MAX_VALUE}) {
            CHECK.refused("weight of " + bale, mill, NoSuchElementException.class, () -> mill.weight(bale));
            CHECK.refused("staple of " + bale, mill, NoSuchElementException.class, () -> mill.staple(bale));
            CHECK.refused("price of " + bale, mill, NoSuchElementException.class, () -> mill.price(bale));
        }
    }

    private static void ranksByValue() {
        YarnMill mill = new YarnMill();
        int[][] bales = {{10, 30, 2}, {4, 40, 5}, {7, 10, 3}, {20, 30, 1}, {1, 60, 19}, {5, 40, 4}};
        for (int[] bale : bales) {
            mill.buyBale(bale[0], bale[1], bale[2]);
        }
        int[] due = {2, 1, 5, 0, 3, 4};
        for (int rank = 0; rank < due.length; rank++) {
            CHECK.due("bale at rank " + rank, mill.baleByValue(rank), due[rank]);
        }
        CHECK.refused("rank 6", mill, NoSuchElementException.class, () -> mill.baleByValue(6));
        CHECK.refused("rank -1", mill, NoSuchElementException.class, () -> mill.baleByValue(-1));
        CHECK.refused("empty", new YarnMill(), NoSuchElementException.class, () -> new YarnMill().baleByValue(0));
    }
}
