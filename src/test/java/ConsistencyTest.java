import java.lang.reflect.Field;

/**
 * Promise 49: isConsistent sees each thing that does not agree. No call brings such a state about, so the test sets
 * the private fields of the program; where those get other names, it needs the same.
 */
public final class ConsistencyTest {
    private static final Check CHECK = new Check("ConsistencyTest");

    public static void main(String[] args) throws ReflectiveOperationException {
        seesCoins();
        seesLengths();
        seesTimes();
        seesTheFirstBlend();
        seesTheSecondBlend();
        seesTheThirdBlend();
        CHECK.end();
    }

    private static Object inside(Object object, String... names) throws ReflectiveOperationException {
        Object found = object;
        for (String name : names) {
            Field field = found.getClass().getDeclaredField(name);
            field.setAccessible(true);
            found = field.get(found);
        }
        return found;
    }

    private static void seesCoins() throws ReflectiveOperationException {
        YarnMill mill = Mills.withPieces(0, 12, 12);
        mill.sell(0);
        CHECK.due("consistent before", mill.isConsistent(), true);
        Object stock = inside(mill, "stock");
        Field coins = stock.getClass().getDeclaredField("coins");
        coins.setAccessible(true);
        coins.setInt(stock, mill.coins() + 1);
        CHECK.due("a coin too many", mill.isConsistent(), false);
        coins.setInt(stock, mill.coins() - 2);
        CHECK.due("a coin too few", mill.isConsistent(), false);
    }

    private static void seesLengths() throws ReflectiveOperationException {
        YarnMill mill = Mills.withPieces(0, 12, 12);
        mill.splice(0);
        CHECK.due("consistent before", mill.isConsistent(), true);
        int[] lengths = (int[]) inside(mill, "stock", "pieces", "cells");
        lengths[0]++;
        CHECK.due("a kilometre too many", mill.isConsistent(), false);
        lengths[0] -= 2;
        CHECK.due("a kilometre too few", mill.isConsistent(), false);
    }

    private static void seesTimes() throws ReflectiveOperationException {
        YarnMill mill = Mills.withOrders(new int[] {1, 1});
        CHECK.due("consistent before", mill.isConsistent(), true);
        // The sets then find less than no time, and the search does not.
        ((int[]) inside(mill, "stock", "orders", "minutes", "cells"))[0] = -5;
        CHECK.due("times that differ", mill.isConsistent(), false);
    }

    /**
     * A mill with bales of these weights, staples and values. The search does not look for another bale once it has
     * a blend, so that it does not find what a value below zero makes better.
     */
    private static void dueBlends(String what, boolean due, int[]... bales) throws ReflectiveOperationException {
        YarnMill mill = new YarnMill();
        for (int[] bale : bales) {
            mill.buyBale(bale[0], 60, 1);
        }
        for (int position = 0; position < bales.length; position++) {
            ((int[]) inside(mill, "stock", "bales", "staples", "cells"))[position] = bales[position][1];
            ((int[]) inside(mill, "stock", "bales", "values", "cells"))[position] = bales[position][2];
        }
        CHECK.due(what, mill.isConsistent(), due);
    }

    // For the need 1 with the staple 10, or there is no blend for both.
    private static void seesTheFirstBlend() throws ReflectiveOperationException {
        dueBlends("1 with 10", false, new int[] {1, 10, -3}, new int[] {1, 10, -3});
        dueBlends("1 with 9", true, new int[] {1, 9, -3}, new int[] {1, 9, -3});
    }

    // For 20 with 30.
    private static void seesTheSecondBlend() throws ReflectiveOperationException {
        dueBlends("20 with 30", false, new int[] {20, 30, 10}, new int[] {1, 30, -5});
        dueBlends("19 with 30", true, new int[] {19, 30, 10}, new int[] {1, 30, -5});
        dueBlends("20 with 29", true, new int[] {20, 29, 10}, new int[] {1, 29, -5});
    }

    // And for 60 with 45: the last bale lets both ways agree for 20 with 30.
    private static void seesTheThirdBlend() throws ReflectiveOperationException {
        int[] last = {20, 30, 0};
        dueBlends("60 with 45", false, new int[] {50, 45, 10}, new int[] {10, 45, 10}, new int[] {1, 45, -5}, last);
        dueBlends("59 with 45", true, new int[] {49, 45, 10}, new int[] {10, 45, 10}, new int[] {1, 45, -5}, last);
        dueBlends("60 with 44", true, new int[] {50, 44, 10}, new int[] {10, 44, 10}, new int[] {1, 44, -5}, last);
    }
}
