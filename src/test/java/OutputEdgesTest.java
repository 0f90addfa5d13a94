/** Boundary cases of the output text: promises 50 to 52. Each test stands under its sentence. */
public final class OutputEdgesTest {
    private static final Check CHECK = new Check("OutputEdgesTest");
    private static final int LEAST = Integer.MIN_VALUE;
    private static final int MOST = Integer.MAX_VALUE;

    public static void main(String[] args) {
        isEmptyInitially();
        isEmptyWithoutPieces();
        putsNoLineAroundOnePiece();
        putsLinesBetweenTwo();
        rendersTheFullShelf();
        rendersLongPieces();
        rendersShortAndLongOrders();
        marksTooLittleRoving();
        marksTooLittleRoom();
        rendersLaterIds();
        refusesOtherOrders();
        refusesOtherIndexes();
        replacesTheText();
        keepsTheText();
        CHECK.end();
    }

    private static void dueText(String what, YarnMill mill, int length, String due) {
        CHECK.due("length of " + what, length, due.length());
        CHECK.due(what, Picture.output(mill), due);
        for (int index : new int[] {LEAST, -1, due.length(), due.length() + 1, MOST}) {
            CHECK.refused("character " + index + " of " + what, mill, Check.INDEX, () -> mill.outputAt(index));
        }
    }

    // The output text is empty initially.
    private static void isEmptyInitially() {
        dueText("text of a new mill", new YarnMill(), 0, "");
    }

    // The text is empty without pieces.
    private static void isEmptyWithoutPieces() {
        YarnMill mill = new YarnMill();
        dueText("empty shelf", mill, mill.renderShelf(), "");
        YarnMill sold = Mills.withPieces(0, 12);
        sold.renderShelf();
        sold.sell(0);
        dueText("sold shelf", sold, sold.renderShelf(), "");
    }

    // With "-" between two.
    private static void putsNoLineAroundOnePiece() {
        YarnMill mill = Mills.withPieces(0, 1);
        dueText("one piece", mill, mill.renderShelf(), "1");
    }

    private static void putsLinesBetweenTwo() {
        YarnMill mill = Mills.withPieces(0, 10, 9);
        dueText("two pieces", mill, mill.renderShelf(), "10-9");
        YarnMill three = Mills.withPieces(0, 7, 7, 3);
        dueText("three pieces", three, three.renderShelf(), "7-7-3");
    }

    private static void rendersTheFullShelf() {
        YarnMill mill = Mills.withPieces(0, Mills.pieces(12, 12));
        dueText("full shelf", mill, mill.renderShelf(), "12-12-12-12-12-12-12-12-12-12-12-12");
        CHECK.due("first", mill.outputAt(0), '1');
        CHECK.due("last", mill.outputAt(34), '2');
    }

    private static void rendersLongPieces() {
        YarnMill mill = Mills.withPieces(50, Mills.pieces(12, 12));
        mill.spliceAll();
        mill.spin(mill.addOrder(1, 1));
        dueText("three digits", mill, mill.renderShelf(), "133-1");
        mill.splice(0);
        dueText("three digits alone", mill, mill.renderShelf(), "133");
    }

    private static void dueOrder(YarnMill mill, int length, int twist, String due) {
        dueText("order " + due, mill, mill.renderOrder(mill.addOrder(length, twist)), due);
    }

    // Its id, ":", its length, "km", "t" and its twist.
    private static void rendersShortAndLongOrders() {
        YarnMill mill = Mills.withRoving(40);
        dueOrder(mill, 1, 1, "0:1kmt1");
        dueOrder(mill, 40, 9, "1:40kmt9");
        dueOrder(mill, 20, 4, "2:20kmt4");
    }

    // And "!" if it cannot be spun now.
    private static void marksTooLittleRoving() {
        YarnMill mill = Mills.withRoving(20);
        dueOrder(mill, 20, 4, "0:20kmt4");
        dueOrder(mill, 21, 4, "1:21kmt4!");
        dueOrder(new YarnMill(), 1, 1, "0:1kmt1!");
        mill.spin(0);
        dueText("order 1 without roving", mill, mill.renderOrder(1), "1:21kmt4!");
    }

    private static void marksTooLittleRoom() {
        YarnMill mill = Mills.withPieces(80, Mills.pieces(10, 1));
        dueOrder(mill, 8, 1, "10:8kmt1");
        dueOrder(mill, 9, 1, "11:9kmt1!");
        YarnMill full = Mills.withPieces(80, Mills.pieces(12, 1));
        dueOrder(full, 1, 9, "12:1kmt9!");
        full.sell(0);
        dueText("order 12 with room", full, full.renderOrder(12), "12:1kmt9");
    }

    private static void rendersLaterIds() {
        YarnMill mill = new YarnMill();
        for (int order = 0; order < 120; order++) {
            mill.addOrder(40, 9);
            if (order == 9 || order == 10 || order == 99 || order == 100) {
                dueText("order " + order, mill, mill.renderOrder(order), order + ":40kmt9!");
            }
            mill.cancelOrder(order);
        }
    }

    // Throws NoSuchElementException if there is no such open order; it changes nothing then.
    private static void refusesOtherOrders() {
        for (int order : new int[] {LEAST, -1, 0, 2, MOST}) {
            CHECK.refusedWholly("order " + order, () -> {
                YarnMill mill = Mills.withOrders(new int[] {1, 1}, new int[] {2, 2});
                mill.renderOrder(0);
                mill.cancelOrder(0);
                return mill;
            }, Check.ELEMENT, mill -> mill.renderOrder(order));
        }
        CHECK.refusedWholly("new mill", YarnMill::new, Check.ELEMENT, mill -> mill.renderOrder(0));
    }

    // outputAt throws IndexOutOfBoundsException if there is no such index.
    private static void refusesOtherIndexes() {
        YarnMill mill = Mills.withPieces(0, 5);
        mill.renderShelf();
        CHECK.due("index 0", mill.outputAt(0), '5');
        for (int index : new int[] {LEAST, -1, 1, 2, MOST}) {
            CHECK.refused("index " + index, mill, Check.INDEX, () -> mill.outputAt(index));
        }
    }

    // Replaces the output text.
    private static void replacesTheText() {
        YarnMill mill = Mills.withPieces(1, 10, 10);
        mill.addOrder(1, 1);
        dueText("shelf", mill, mill.renderShelf(), "10-10");
        dueText("order behind the shelf", mill, mill.renderOrder(2), "2:1kmt1");
        dueText("shelf behind the order", mill, mill.renderShelf(), "10-10");
        mill.sell(0);
        dueText("a shorter one", mill, mill.renderShelf(), "10");
    }

    private static void keepsTheText() {
        YarnMill mill = Mills.withPieces(0, 10, 10);
        mill.renderShelf();
        mill.splice(0);
        mill.sell(0);
        dueText("text behind changes", mill, 5, "10-10");
    }
}
