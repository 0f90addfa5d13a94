import java.util.NoSuchElementException;

/** Promises 50 to 52. */
public final class OutputTest {
    private static final Check CHECK = new Check("OutputTest");

    public static void main(String[] args) {
        rendersTheShelf();
        rendersOrders();
        answersCharacters();
        CHECK.end();
    }

    private static void dueShelf(YarnMill mill, String due) {
        CHECK.due("length of " + due, mill.renderShelf(), due.length());
        CHECK.due("output", Picture.output(mill), due);
    }

    private static void rendersTheShelf() {
        YarnMill mill = Mills.withPieces(50, 7, 7, 3);
        dueShelf(mill, "7-7-3");
        mill.sell(1);
        CHECK.due("output stays", Picture.output(mill), "7-7-3");
        mill.splice(0);
        dueShelf(mill, "9");
        mill.spin(mill.addOrder(40, 9));
        dueShelf(mill, "9-12-12-12-4");
        mill.spliceAll();
        dueShelf(mill, "45");
        mill.sell(0);
        dueShelf(mill, "");
        YarnMill full = Mills.withPieces(0, 12, 12, 12, 12, 12, 12, 12, 12, 12, 12, 12, 12);
        dueShelf(full, "12-12-12-12-12-12-12-12-12-12-12-12");
    }

    private static void dueOrder(YarnMill mill, int order, String due) {
        CHECK.due("length of " + due, mill.renderOrder(order), due.length());
        CHECK.due("output", Picture.output(mill), due);
    }

    private static void rendersOrders() {
        YarnMill mill = Mills.withPieces(20, 1);
        mill.addOrder(20, 4);
        mill.addOrder(21, 9);
        mill.addOrder(1, 1);
        dueOrder(mill, 1, "1:20kmt4");
        dueOrder(mill, 2, "2:21kmt9!");
        dueOrder(mill, 3, "3:1kmt1");
        mill.spin(3);
        dueOrder(mill, 1, "1:20kmt4!");
        for (int order : new int[] {3, 0, -1, Integer.MIN_VALUE, Integer.MAX_VALUE}) {
            CHECK.refused("order " + order, mill, NoSuchElementException.class, () -> mill.renderOrder(order));
        }
        CHECK.due("output stays", Picture.output(mill), "1:20kmt4!");
        YarnMill full = Mills.withPieces(1, 1, 1, 1, 1, 1, 1, 1, 1, 1, 1, 1, 1);
        int order = full.addOrder(1, 9);
        dueOrder(full, order, "12:1kmt9!");
        full.sell(0);
        dueOrder(full, order, "12:1kmt9");
    }

    private static void answersCharacters() {
        YarnMill mill = Mills.withPieces(0, 10, 2);
        mill.renderShelf();
        CHECK.due("character 0", mill.outputAt(0), '1');
        CHECK.due("character 2", mill.outputAt(2), '-');
        CHECK.due("character 3", mill.outputAt(3), '2');
        for (int index : new int[] {4, -1, Integer.MIN_VALUE, Integer.MAX_VALUE}) {
            CHECK.refused("character " + index, mill, IndexOutOfBoundsException.class, () -> mill.outputAt(index));
        }
        mill.sell(0);
        mill.renderShelf();
        CHECK.due("output", Picture.output(mill), "2");
        CHECK.refused("character 1", mill, IndexOutOfBoundsException.class, () -> mill.outputAt(1));
    }
}
