import java.util.Arrays;

/** Mills in a state that a test needs. */
final class Mills {
    private Mills() {
    }

    /** A mill with as much roving, of which each kilogram has cost one coin. */
    static YarnMill withRoving(int roving) {
        YarnMill mill = new YarnMill();
        for (int left = roving; left > 0; left -= 50) {
            mill.buyBale(Math.min(left, 50), 30, 1);
            mill.blend(1, 10);
        }
        return mill;
    }

    /** A mill whose shelf holds pieces of these lengths, each from 1 to 12, and that has as much roving besides. */
    static YarnMill withPieces(int roving, int... lengths) {
        YarnMill mill = withRoving(roving + Arrays.stream(lengths).sum());
        for (int length : lengths) {
            mill.spin(mill.addOrder(length, 9));
        }
        return mill;
    }

    /** A mill with as many bales, each of 1 kilogram for 1 coin. */
    static YarnMill withSmallBales(int count) {
        YarnMill mill = new YarnMill();
        for (int bale = 0; bale < count; bale++) {
            mill.buyBale(1, 30, 1);
        }
        return mill;
    }

    /** A mill with bales of these weights, staples and prices. */
    static YarnMill withBales(int[]... bales) {
        YarnMill mill = new YarnMill();
        for (int[] bale : bales) {
            mill.buyBale(bale[0], bale[1], bale[2]);
        }
        return mill;
    }

    /** A mill with orders of these lengths and twists. */
    static YarnMill withOrders(int[]... orders) {
        YarnMill mill = new YarnMill();
        for (int[] order : orders) {
            mill.addOrder(order[0], order[1]);
        }
        return mill;
    }

    /** Equal pieces for withPieces. */
    static int[] pieces(int count, int length) {
        int[] pieces = new int[count];
        Arrays.fill(pieces, length);
        return pieces;
    }

    static String shelf(YarnMill mill) {
        StringBuilder shelf = new StringBuilder();
        for (int position = 0; position < mill.pieceCount(); position++) {
            shelf.append(position == 0 ? "" : " ").append(mill.pieceLength(position));
        }
        return shelf.toString();
    }

    static void type(YarnMill mill, String script) {
        for (int index = 0; index < script.length(); index++) {
            mill.type(script.charAt(index));
        }
    }

    static int run(YarnMill mill, String script) {
        type(mill, script);
        return mill.runScript();
    }
}
