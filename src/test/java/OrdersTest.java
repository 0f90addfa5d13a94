import java.util.NoSuchElementException;

/** Promises 4 to 6 and 20 to 29. */
public final class OrdersTest {
    private static final Check CHECK = new Check("OrdersTest");

    public static void main(String[] args) {
        opensOrders();
        testsTheRanges();
        refusesANinthOrder();
        cancelsOrders();
        setsMachines();
        answersByPosition();
        answersById();
        tellsWhetherAnOrderCanBeSpun();
        countsKinds();
        ranksByTime();
        findsTheShortestTime();
        CHECK.end();
    }

    private static YarnMill withOrders(int[]... orders) {
        YarnMill mill = new YarnMill();
        for (int[] order : orders) {
            mill.addOrder(order[0], order[1]);
        }
        return mill;
    }

    private static void opensOrders() {
        YarnMill mill = new YarnMill();
        CHECK.due("first id", mill.addOrder(20, 4), 0);
        CHECK.due("second id", mill.addOrder(20, 4), 1);
        CHECK.due("count", mill.orderCount(), 2);
        CHECK.due("coins", mill.coins(), 1000);
        CHECK.due("ids of bales are apart", mill.buyBale(1, 10, 1), 0);
    }

    private static void testsTheRanges() {
        YarnMill mill = withOrders(new int[] {1, 1}, new int[] {40, 1}, new int[] {1, 9}, new int[] {40, 9});
        CHECK.due("four orders", mill.orderCount(), 4);
        int[][] bad = {{0, 5}, {41, 5}, {5, 0}, {5, 10}, {-1, 5}, {5, -1}, {Integer.MIN_VALUE, 5},
            {Integer.MAX_VALUE, 5}, {5, Integer.MIN_VALUE}, {5, Integer.MAX_VALUE}};
        for (int[] order : bad) {
            CHECK.refused("order " + order[0] + " " + order[1], mill, IllegalArgumentException.class,
                    () -> mill.addOrder(order[0], order[1]));
        }
        CHECK.due("refused orders take no id", mill.addOrder(5, 5), 4);
    }

    private static void refusesANinthOrder() {
        YarnMill mill = new YarnMill();
        for (int order = 0; order < 7; order++) {
            mill.addOrder(1, 1);
        }
        CHECK.due("eighth order", mill.addOrder(1, 1), 7);
        CHECK.refused("ninth order", mill, IllegalStateException.class, () -> mill.addOrder(1, 1));
        CHECK.refused("range and number", mill, IllegalArgumentException.class, () -> mill.addOrder(41, 1));
        mill.cancelOrder(3);
        CHECK.due("next id", mill.addOrder(1, 1), 8);
    }

    private static void cancelsOrders() {
        YarnMill mill = withOrders(new int[] {11, 1}, new int[] {12, 2}, new int[] {13, 3});
        CHECK.due("left", mill.cancelOrder(1), 2);
        CHECK.due("count", mill.orderCount(), 2);
        CHECK.due("length of 2", mill.lengthOf(2), 13);
        CHECK.due("twist of 2", mill.twistOf(2), 3);
        CHECK.due("time of 2", mill.minutesOf(2), 39);
        for (int order : new int[] {1, 3, -1, Integer.MIN_VALUE, Integer.MAX_VALUE}) {
            CHECK.refused("cancel " + order, mill, NoSuchElementException.class, () -> mill.cancelOrder(order));
        }
        CHECK.due("left", mill.cancelOrder(2), 1);
        CHECK.due("none left", mill.cancelOrder(0), 0);
        CHECK.due("clock", mill.clock(), 0);
        CHECK.due("next id", mill.addOrder(1, 1), 3);
    }

    private static void setsMachines() {
        YarnMill mill = new YarnMill();
        CHECK.due("previous", mill.setMachines(3), 1);
        CHECK.due("machines", mill.machines(), 3);
        CHECK.due("previous", mill.setMachines(2), 3);
        CHECK.due("previous", mill.setMachines(2), 2);
        CHECK.due("machines", mill.machines(), 2);
        for (int number : new int[] {0, 4, -1, Integer.MIN_VALUE, Integer.MAX_VALUE}) {
            CHECK.refused(number + " machines", mill, IllegalArgumentException.class, () -> mill.setMachines(number));
        }
        CHECK.due("previous", mill.setMachines(1), 2);
    }

    private static void answersByPosition() {
        YarnMill mill = withOrders(new int[] {1, 1}, new int[] {1, 1}, new int[] {1, 1});
        mill.cancelOrder(1);
        CHECK.due("at 0", mill.orderAt(0), 0);
        CHECK.due("at 1", mill.orderAt(1), 2);
        for (int position : new int[] {2, -1, Integer.MIN_VALUE, Integer.MAX_VALUE}) {
            CHECK.refused("at " + position, mill, NoSuchElementException.class, () -> mill.orderAt(position));
        }
    }

    private static void answersById() {
        YarnMill mill = withOrders(new int[] {40, 9}, new int[] {7, 5});
        CHECK.due("length of 0", mill.lengthOf(0), 40);
        CHECK.due("twist of 0", mill.twistOf(0), 9);
        CHECK.due("time of 0", mill.minutesOf(0), 360);
        CHECK.due("length of 1", mill.lengthOf(1), 7);
        CHECK.due("twist of 1", mill.twistOf(1), 5);
        CHECK.due("time of 1", mill.minutesOf(1), 35);
        mill.cancelOrder(0);
        for (int order : new int[] {0, 2, -1, Integer.MIN_VALUE, Integer.MAX_VALUE}) {
            CHECK.refused("length of " + order, mill, NoSuchElementException.class, () -> mill.lengthOf(order));
            CHECK.refused("twist of " + order, mill, NoSuchElementException.class, () -> mill.twistOf(order));
            CHECK.refused("time of " + order, mill, NoSuchElementException.class, () -> mill.minutesOf(order));
            CHECK.refused("spin " + order, mill, NoSuchElementException.class, () -> mill.canSpin(order) ? 1 : 0);
        }
    }

    private static void tellsWhetherAnOrderCanBeSpun() {
        YarnMill mill = Mills.withRoving(50);
        int tight = mill.addOrder(40, 2);
        int broken = mill.addOrder(40, 1);
        CHECK.due("8 pieces", mill.canSpin(tight), true);
        CHECK.due("10 pieces", mill.canSpin(broken), true);
        mill.spin(mill.addOrder(10, 2));
        CHECK.due("40 of 40 kilograms, 10 of 12 pieces", mill.canSpin(tight), true);
        CHECK.due("40 of 40 kilograms, 12 of 12 pieces", mill.canSpin(broken), true);
        mill.buyBale(1, 30, 1);
        mill.blend(1, 10);
        mill.spin(mill.addOrder(1, 9));
        CHECK.due("11 of 12 pieces", mill.canSpin(tight), true);
        CHECK.due("13 of 12 pieces", mill.canSpin(broken), false);
        mill.sell(0);
        CHECK.due("12 of 12 pieces", mill.canSpin(broken), true);
        mill.spin(mill.addOrder(1, 9));
        CHECK.due("39 of 40 kilograms", mill.canSpin(tight), false);
        CHECK.due("39 of 39 kilograms", mill.canSpin(mill.addOrder(39, 9)), true);
    }

    private static void countsKinds() {
        YarnMill mill = withOrders(new int[] {12, 3}, new int[] {12, 3}, new int[] {3, 9}, new int[] {9, 3},
                new int[] {12, 4}, new int[] {3, 9});
        CHECK.due("kinds", mill.kinds(), 4);
        mill.cancelOrder(0);
        CHECK.due("kinds", mill.kinds(), 4);
        mill.cancelOrder(1);
        CHECK.due("kinds", mill.kinds(), 3);
        mill.addOrder(1, 1);
        CHECK.due("kinds", mill.kinds(), 4);
    }

    private static void ranksByTime() {
        YarnMill mill = withOrders(new int[] {6, 2}, new int[] {40, 1}, new int[] {12, 1}, new int[] {5, 8},
                new int[] {1, 1}, new int[] {3, 4});
        int[] due = {1, 3, 0, 2, 5, 4};
        for (int rank = 0; rank < due.length; rank++) {
            CHECK.due("order at rank " + rank, mill.orderByTime(rank), due[rank]);
        }
        mill.cancelOrder(3);
        CHECK.due("order at rank 1", mill.orderByTime(1), 0);
        for (int rank : new int[] {5, -1, Integer.MIN_VALUE, Integer.MAX_VALUE}) {
            CHECK.refused("rank " + rank, mill, NoSuchElementException.class, () -> mill.orderByTime(rank));
        }
    }

    private static void dueTime(YarnMill mill, int due) {
        CHECK.due("shortest time", mill.shortestTime(), due);
        CHECK.due("shortest time by search", mill.shortestTimeBySearch(), due);
    }

    private static void findsTheShortestTime() {
        // Giving the longest order to the idlest machine would take 7 minutes on two machines.
        YarnMill mill = withOrders(new int[] {3, 1}, new int[] {3, 1}, new int[] {2, 1}, new int[] {2, 1},
                new int[] {2, 1});
        dueTime(mill, 12);
        mill.setMachines(2);
        dueTime(mill, 6);
        mill.setMachines(3);
        dueTime(mill, 5);
        for (int order = 0; order < 5; order++) {
            mill.cancelOrder(order);
        }
        dueTime(mill, 0);
        mill.addOrder(40, 9);
        dueTime(mill, 360);
        mill.addOrder(1, 1);
        dueTime(mill, 360);
        YarnMill eight = withOrders(new int[] {31, 1}, new int[] {37, 1}, new int[] {29, 1}, new int[] {23, 1},
                new int[] {19, 1}, new int[] {17, 1}, new int[] {13, 1}, new int[] {11, 1});
        dueTime(eight, 180);
        eight.setMachines(2);
        dueTime(eight, 90);
        eight.setMachines(3);
        dueTime(eight, 60);
    }
}
