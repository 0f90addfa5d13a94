import java.util.Arrays;

/** Mills in a state that a test needs. */
final class Mills {
    private Mills() {
    }

    /** A mill with as much roving, of which each kilogram has cost one coin. */
    static YarnMill withRoving(int roving) {
        YarnMill mill = new YarnMill();
        for (int left = roving; left > 0; left -= 50) {
            mill.buyBale(Math.min(left, 50), 30, 1);
            mill.blend(1, 10);
        }
        return mill;
    }

    /** A mill whose shelf holds pieces of these lengths, each from 1 to 12, and that has as much roving besides. */
    static YarnMill withPieces(int roving, int... lengths) {
        YarnMill mill = withRoving(roving + Arrays.stream(lengths).sum());
        for (int length : lengths) {
            mill.spin(mill.addOrder(length, 9));
        }
        return mill;
    }

    static String shelf(YarnMill mill) {
        StringBuilder shelf = new StringBuilder();
        for (int position = 0; position < mill.pieceCount(); position++) {
            shelf.append(position == 0 ? "" : " ").append(mill.pieceLength(position));
        }
        return shelf.toString();
    }

    static void type(YarnMill mill, String script) {
        for (int index = 0; index < script.length(); index++) {
            mill.type(script.charAt(index));
        }
    }

    static int run(YarnMill mill, String script) {
        type(mill, script);
        return mill.runScript();
    }
}
