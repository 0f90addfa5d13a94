/** Boundary cases of orders and machines: promises 4 to 6 and 20 to 29. Each test stands under its sentence. */
public final class OrderEdgesTest {
    private static final Check CHECK = new Check("OrderEdgesTest");
    private static final int LEAST = Integer.MIN_VALUE;
    private static final int MOST = Integer.MAX_VALUE;

    public static void main(String[] args) {
        opensEightOrders();
        hasRoomAgain();
        countsIdsOnTheirOwn();
        testsLengths();
        testsTwists();
        tellsTimes();
        throwsTheFirst();
        cancelsFirstAndLast();
        knowsNoOtherOrder();
        testsMachines();
        setsTheSameNumber();
        countsOrders();
        answersPositions();
        comparesRovingExactly();
        comparesTheShelfExactly();
        countsKinds();
        ranksByTime();
        refusesRanks();
        takesNoTimeWithoutOrders();
        takesTheLongestOrder();
        sharesOrdersOut();
        CHECK.end();
    }

    private static YarnMill withEqualOrders(int count, int length, int twist) {
        YarnMill mill = new YarnMill();
        for (int order = 0; order < count; order++) {
            mill.addOrder(length, twist);
        }
        return mill;
    }

    // At most 8 orders are open at a time. Throws IllegalStateException if 8 orders are open.
    private static void opensEightOrders() {
        for (int count = 0; count < 8; count++) {
            CHECK.due("order behind " + count, withEqualOrders(count, 1, 1).addOrder(40, 9), count);
        }
        CHECK.refusedWholly("order behind 8", () -> withEqualOrders(8, 1, 1), Check.STATE, mill -> mill.addOrder(1, 1));
        YarnMill mill = withEqualOrders(7, 1, 1);
        CHECK.due("eighth order of a script", Mills.run(mill, "order 1 1"), 1);
        CHECK.throwsJust("ninth order of a script", Check.STATE, () -> Mills.run(mill, "order 1 1"));
        CHECK.due("orders", mill.orderCount(), 8);
    }

    private static void hasRoomAgain() {
        YarnMill cancelled = withEqualOrders(8, 1, 1);
        cancelled.cancelOrder(7);
        CHECK.due("behind a cancel", cancelled.addOrder(1, 1), 8);
        CHECK.refused("full again", cancelled, Check.STATE, () -> cancelled.addOrder(1, 1));
        YarnMill spun = Mills.withRoving(1);
        for (int order = 0; order < 8; order++) {
            spun.addOrder(1, 1);
        }
        spun.spin(0);
        CHECK.due("behind a spin", spun.addOrder(1, 1), 8);
        YarnMill undone = withEqualOrders(8, 1, 1);
        undone.undo();
        CHECK.due("behind an undo", undone.addOrder(1, 1), 7);
    }

    // They get ids in the same way, counted on their own.
    private static void countsIdsOnTheirOwn() {
        YarnMill mill = Mills.withSmallBales(3);
        CHECK.due("first", mill.addOrder(1, 1), 0);
        CHECK.throwsJust("refused", Check.ARGUMENT, () -> mill.addOrder(0, 1));
        CHECK.due("behind a refused one", mill.addOrder(1, 1), 1);
        CHECK.due("a bale between", mill.buyBale(1, 10, 1), 3);
        mill.cancelOrder(1);
        CHECK.due("behind a cancel of the latest", mill.addOrder(1, 1), 2);
        CHECK.throwsJust("failed", Check.STATE, () -> Mills.run(mill, "order 1 1;join"));
        CHECK.due("behind a failed script", mill.addOrder(1, 1), 3);
        for (int order = 4; order < 110; order++) {
            mill.cancelOrder(order - 1);
            CHECK.due("order " + order, mill.addOrder(1, 1), order);
        }
    }

    // A length from 1 to 40 kilometres. Throws IllegalArgumentException if the length is not between 1 and 40.
    private static void testsLengths() {
        CHECK.due("length 1", withEqualOrders(1, 1, 5).lengthOf(0), 1);
        CHECK.due("length 40", withEqualOrders(1, 40, 5).lengthOf(0), 40);
        for (int length : new int[] {LEAST, -1, 0, 41, MOST}) {
            CHECK.refusedWholly("length " + length, YarnMill::new, Check.ARGUMENT, mill -> mill.addOrder(length, 5));
        }
    }

    // A twist from 1 to 9. Throws IllegalArgumentException if the twist is not between 1 and 9.
    private static void testsTwists() {
        CHECK.due("twist 1", withEqualOrders(1, 5, 1).twistOf(0), 1);
        CHECK.due("twist 9", withEqualOrders(1, 5, 9).twistOf(0), 9);
        for (int twist : new int[] {LEAST, -1, 0, 10, MOST}) {
            CHECK.refusedWholly("twist " + twist, YarnMill::new, Check.ARGUMENT, mill -> mill.addOrder(5, twist));
        }
    }

    // Its time is the product of both in minutes.
    private static void tellsTimes() {
        CHECK.due("least time", withEqualOrders(1, 1, 1).minutesOf(0), 1);
        CHECK.due("largest time", withEqualOrders(1, 40, 9).minutesOf(0), 360);
        CHECK.due("time of 40 and 1", withEqualOrders(1, 40, 1).minutesOf(0), 40);
        CHECK.due("time of 1 and 9", withEqualOrders(1, 1, 9).minutesOf(0), 9);
    }

    // If several exceptions apply, the one that is listed first is thrown.
    private static void throwsTheFirst() {
        for (int[] order : new int[][] {{0, 1}, {41, 1}, {1, 0}, {1, 10}, {LEAST, MOST}}) {
            CHECK.refusedWholly("range, eight", () -> withEqualOrders(8, 1, 1), Check.ARGUMENT,
                    mill -> mill.addOrder(order[0], order[1]));
        }
    }

    // Returns the number of open orders.
    private static void cancelsFirstAndLast() {
        YarnMill mill = withEqualOrders(8, 1, 1);
        CHECK.due("first", mill.cancelOrder(0), 7);
        CHECK.due("last", mill.cancelOrder(7), 6);
        for (int order = 1; order <= 6; order++) {
            CHECK.due("left behind " + order, mill.cancelOrder(order), 6 - order);
        }
        CHECK.refused("none is left", mill, Check.ELEMENT, () -> mill.cancelOrder(6));
    }

    // Throws NoSuchElementException if there is no such open order.
    private static void knowsNoOtherOrder() {
        YarnMill mill = Mills.withRoving(50);
        for (int order = 0; order < 4; order++) {
            mill.addOrder(2, 3);
        }
        mill.cancelOrder(0);
        mill.spin(2);
        mill.addOrder(1, 1);
        mill.undo();
        for (int order : new int[] {LEAST, -1, 0, 2, 4, 5, MOST}) {
            CHECK.refused("cancel " + order, mill, Check.ELEMENT, () -> mill.cancelOrder(order));
            CHECK.refused("spin " + order, mill, Check.ELEMENT, () -> mill.spin(order));
            CHECK.refused("length of " + order, mill, Check.ELEMENT, () -> mill.lengthOf(order));
            CHECK.refused("twist of " + order, mill, Check.ELEMENT, () -> mill.twistOf(order));
            CHECK.refused("minutes of " + order, mill, Check.ELEMENT, () -> mill.minutesOf(order));
            CHECK.refused("can spin " + order, mill, Check.ELEMENT, () -> mill.canSpin(order) ? 1 : 0);
            CHECK.refused("render " + order, mill, Check.ELEMENT, () -> mill.renderOrder(order));
        }
        CHECK.due("order 1", mill.canSpin(1), true);
        CHECK.due("order 3", mill.lengthOf(3), 2);
        CHECK.refusedWholly("cancel in a new mill", YarnMill::new, Check.ELEMENT, one -> one.cancelOrder(0));
    }

    // The mill has from 1 to 3 machines, initially 1. Throws IllegalArgumentException if not between 1 and 3.
    private static void testsMachines() {
        YarnMill mill = new YarnMill();
        CHECK.due("initially", mill.machines(), 1);
        CHECK.due("previous", mill.setMachines(3), 1);
        CHECK.due("most", mill.machines(), 3);
        CHECK.due("previous", mill.setMachines(1), 3);
        CHECK.due("least", mill.machines(), 1);
        for (int number : new int[] {LEAST, -1, 0, 4, MOST}) {
            CHECK.refusedWholly(number + " machines", YarnMill::new, Check.ARGUMENT, one -> one.setMachines(number));
        }
    }

    private static void setsTheSameNumber() {
        for (int number = 1; number <= 3; number++) {
            YarnMill mill = new YarnMill();
            mill.setMachines(number);
            CHECK.due("previous", mill.setMachines(number), number);
            CHECK.due("machines", mill.machines(), number);
        }
    }

    private static void countsOrders() {
        for (int count = 0; count <= 8; count++) {
            CHECK.due("count", withEqualOrders(count, 1, 1).orderCount(), count);
        }
    }

    // orderAt throws NoSuchElementException if there is no such position.
    private static void answersPositions() {
        for (int count = 0; count <= 8; count++) {
            YarnMill mill = withEqualOrders(count, 1, 1);
            for (int position = 0; position < count; position++) {
                CHECK.due("at " + position + " of " + count, mill.orderAt(position), position);
            }
            for (int position : new int[] {LEAST, -1, count, count + 1, MOST}) {
                CHECK.refused("at " + position + " of " + count, mill, Check.ELEMENT, () -> mill.orderAt(position));
            }
        }
        YarnMill mill = withEqualOrders(4, 1, 1);
        mill.cancelOrder(0);
        mill.cancelOrder(2);
        CHECK.due("at 0 around gaps", mill.orderAt(0), 1);
        CHECK.due("at 1 around gaps", mill.orderAt(1), 3);
    }

    // Returns whether an order can be spun now: there is no less roving than it needs.
    private static void comparesRovingExactly() {
        for (int roving : new int[] {0, 1, 39, 40}) {
            YarnMill mill = Mills.withRoving(roving);
            CHECK.due("1 of " + roving, mill.canSpin(mill.addOrder(1, 9)), roving >= 1);
            CHECK.due("40 of " + roving, mill.canSpin(mill.addOrder(40, 9)), roving >= 40);
        }
    }

    // And there would not be more than 12 pieces on the shelf.
    private static void comparesTheShelfExactly() {
        for (int pieces = 0; pieces <= 12; pieces++) {
            YarnMill mill = Mills.withPieces(40, Mills.pieces(pieces, 1));
            CHECK.due("1 piece to " + pieces, mill.canSpin(mill.addOrder(12, 9)), pieces <= 11);
            CHECK.due("2 pieces to " + pieces, mill.canSpin(mill.addOrder(13, 9)), pieces <= 10);
            CHECK.due("10 pieces to " + pieces, mill.canSpin(mill.addOrder(40, 1)), pieces <= 2);
        }
    }

    // Returns how many different pairs of length and twist the open orders have.
    private static void countsKinds() {
        CHECK.due("none", new YarnMill().kinds(), 0);
        CHECK.due("one", withEqualOrders(1, 1, 1).kinds(), 1);
        CHECK.due("eight equal ones", withEqualOrders(8, 3, 3).kinds(), 1);
        CHECK.due("turned round", Mills.withOrders(new int[] {3, 9}, new int[] {9, 3}).kinds(), 2);
        CHECK.due("one length", Mills.withOrders(new int[] {3, 9}, new int[] {3, 8}).kinds(), 2);
        CHECK.due("one twist", Mills.withOrders(new int[] {4, 9}, new int[] {3, 9}).kinds(), 2);
        YarnMill eight = new YarnMill();
        for (int order = 1; order <= 8; order++) {
            eight.addOrder(order, order);
        }
        CHECK.due("eight different ones", eight.kinds(), 8);
        eight.cancelOrder(7);
        eight.addOrder(1, 1);
        CHECK.due("first and last alike", eight.kinds(), 7);
    }

    private static void dueRanks(YarnMill mill, int... due) {
        for (int rank = 0; rank < due.length; rank++) {
            CHECK.due("order at rank " + rank, mill.orderByTime(rank), due[rank]);
        }
    }

    // Sorted by time in descending order, then by id in ascending order.
    private static void ranksByTime() {
        dueRanks(withEqualOrders(1, 1, 1), 0);
        dueRanks(withEqualOrders(8, 2, 2), 0, 1, 2, 3, 4, 5, 6, 7);
        dueRanks(Mills.withOrders(new int[] {1, 1}, new int[] {40, 9}), 1, 0);
        dueRanks(Mills.withOrders(new int[] {8, 1}, new int[] {1, 9}, new int[] {2, 4}, new int[] {3, 3}), 1, 3, 0, 2);
        YarnMill gaps = withEqualOrders(4, 2, 2);
        gaps.cancelOrder(1);
        dueRanks(gaps, 0, 2, 3);
    }

    // orderByTime throws NoSuchElementException if there is no such rank.
    private static void refusesRanks() {
        for (int count : new int[] {0, 1, 7, 8}) {
            YarnMill mill = withEqualOrders(count, 1, 1);
            for (int rank : new int[] {LEAST, -1, count, count + 1, MOST}) {
                CHECK.refused("rank " + rank + " of " + count, mill, Check.ELEMENT, () -> mill.orderByTime(rank));
            }
        }
    }

    private static void dueTimes(YarnMill mill, int... due) {
        for (int machines = 1; machines <= 3; machines++) {
            mill.setMachines(machines);
            CHECK.due("time with " + machines, mill.shortestTime(), due[machines - 1]);
            CHECK.due("time by search with " + machines, mill.shortestTimeBySearch(), due[machines - 1]);
        }
    }

    // Returns the time in minutes, 0 without orders.
    private static void takesNoTimeWithoutOrders() {
        dueTimes(new YarnMill(), 0, 0, 0);
        YarnMill mill = withEqualOrders(2, 40, 9);
        mill.cancelOrder(0);
        mill.cancelOrder(1);
        dueTimes(mill, 0, 0, 0);
    }

    private static void takesTheLongestOrder() {
        dueTimes(withEqualOrders(1, 1, 1), 1, 1, 1);
        dueTimes(withEqualOrders(1, 40, 9), 360, 360, 360);
        dueTimes(withEqualOrders(2, 40, 9), 720, 360, 360);
        dueTimes(withEqualOrders(3, 40, 9), 1080, 720, 360);
        dueTimes(Mills.withOrders(new int[] {40, 9}, new int[] {1, 1}, new int[] {1, 1}, new int[] {2, 1}),
                364, 360, 360);
    }

    private static void sharesOrdersOut() {
        dueTimes(withEqualOrders(8, 40, 9), 2880, 1440, 1080);
        dueTimes(withEqualOrders(7, 1, 1), 7, 4, 3);
        dueTimes(Mills.withOrders(new int[] {5, 1}, new int[] {5, 1}, new int[] {4, 1}, new int[] {4, 1},
                new int[] {3, 1}, new int[] {3, 1}, new int[] {3, 1}), 27, 14, 9);
        // One order is not shared between machines.
        dueTimes(Mills.withOrders(new int[] {10, 1}, new int[] {3, 1}, new int[] {3, 1}), 16, 10, 10);
    }
}
