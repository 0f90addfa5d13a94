import java.util.NoSuchElementException;

/** Promises 3 and 17 to 19. */
public final class BlendsTest {
    private static final Check CHECK = new Check("BlendsTest");

    public static void main(String[] args) {
        findsTheCheapest();
        comparesTheMeanUnrounded();
        prefersTheSmallerWeight();
        prefersTheLowestId();
        makesTheBlend();
        refusesTooMuchRoving();
        testsTheRanges();
        throwsTheFirstOfSeveral();
        findsBlendsOfTenBales();
        CHECK.end();
    }

    private static YarnMill withBales(int[]... bales) {
        YarnMill mill = new YarnMill();
        for (int[] bale : bales) {
            mill.buyBale(bale[0], bale[1], bale[2]);
        }
        return mill;
    }

    private static void dueBlend(YarnMill mill, int need, int staple, int value, int... bales) {
        String what = "blend for " + need + " with " + staple;
        CHECK.due("value of the " + what, mill.blendValue(need, staple), value);
        CHECK.due("value by search of the " + what, mill.blendValueBySearch(need, staple), value);
        for (int position = 0; position < mill.baleCount(); position++) {
            int bale = mill.baleAt(position);
            boolean due = false;
            for (int one : bales) {
                due |= one == bale;
            }
            CHECK.due("bale " + bale + " in the " + what, mill.isInBlend(bale, need, staple), due);
        }
    }

    private static void dueNoBlend(YarnMill mill, int need, int staple) {
        String what = " for " + need + " with " + staple;
        CHECK.refused("value" + what, mill, NoSuchElementException.class, () -> mill.blendValue(need, staple));
        CHECK.refused("search" + what, mill, NoSuchElementException.class, 
                () -> mill.blendValueBySearch(need, staple));
        CHECK.refused("blend" + what, mill, UnsupportedOperationException.class, () -> mill.blend(need, staple));
        if (mill.baleCount() > 0) {
            int bale = mill.baleAt(0);
            CHECK.refused("bale" + what, mill, UnsupportedOperationException.class,
                    () -> mill.isInBlend(bale, need, staple) ? 1 : 0);
        }
    }

    private static void findsTheCheapest() {
        YarnMill mill = withBales(new int[] {20, 20, 3}, new int[] {10, 50, 6}, new int[] {30, 30, 2});
        dueBlend(mill, 20, 30, 60, 2);
        dueBlend(mill, 30, 30, 60, 2);
        dueBlend(mill, 31, 30, 120, 1, 2);
        dueBlend(mill, 60, 10, 180, 0, 1, 2);
        dueBlend(mill, 1, 31, 60, 1);
        dueNoBlend(mill, 61, 10);
        dueNoBlend(mill, 60, 31);
        dueNoBlend(mill, 1, 51);
        dueNoBlend(new YarnMill(), 1, 10);
        YarnMill far = withBales(new int[] {40, 20, 1}, new int[] {30, 40, 2}, new int[] {5, 60, 20});
        dueBlend(far, 35, 30, 160, 1, 2);
        dueBlend(far, 36, 30, 200, 0, 1, 2);
    }

    private static void comparesTheMeanUnrounded() {
        YarnMill mill = withBales(new int[] {2, 30, 1}, new int[] {1, 31, 1});
        dueBlend(mill, 3, 30, 3, 0, 1);
        dueNoBlend(mill, 3, 31);
        dueNoBlend(withBales(new int[] {1, 30, 1}, new int[] {1, 31, 1}), 2, 31);
        YarnMill exact = withBales(new int[] {3, 20, 1}, new int[] {1, 60, 1});
        dueBlend(exact, 4, 30, 4, 0, 1);
        dueNoBlend(exact, 4, 31);
    }

    private static void prefersTheSmallerWeight() {
        YarnMill mill = withBales(new int[] {20, 30, 1}, new int[] {10, 30, 2}, new int[] {12, 30, 5});
        dueBlend(mill, 5, 30, 20, 1);
        CHECK.due("roving", mill.blend(5, 30), 10);
    }

    private static void prefersTheLowestId() {
        YarnMill mill = withBales(new int[] {5, 30, 2}, new int[] {5, 30, 2}, new int[] {5, 30, 2},
                new int[] {5, 30, 2});
        dueBlend(mill, 5, 30, 10, 0);
        dueBlend(mill, 10, 30, 20, 0, 1);
        mill.blend(5, 30);
        CHECK.due("bale 0 has gone", mill.baleAt(0), 1);
        dueBlend(mill, 10, 30, 20, 1, 2);
        // Both pairs weigh and cost the same: the pair with bale 0 is the best one, whatever the other bales are.
        YarnMill pairs = withBales(new int[] {6, 30, 2}, new int[] {5, 30, 2}, new int[] {5, 30, 2},
                new int[] {4, 30, 2});
        dueBlend(pairs, 10, 30, 20, 0, 3);
    }

    private static void makesTheBlend() {
        YarnMill mill = withBales(new int[] {20, 20, 3}, new int[] {10, 50, 6}, new int[] {30, 30, 2},
                new int[] {9, 10, 1});
        CHECK.due("roving of the first", mill.blend(31, 30), 40);
        CHECK.due("bales left", mill.baleCount(), 2);
        CHECK.due("first left", mill.baleAt(0), 0);
        CHECK.due("second left", mill.baleAt(1), 3);
        CHECK.due("its weight", mill.weight(3), 9);
        CHECK.due("its staple", mill.staple(3), 10);
        CHECK.due("its price", mill.price(3), 1);
        CHECK.due("coins stay", mill.coins(), 1000 - 60 - 60 - 60 - 9);
        CHECK.due("roving of both", mill.blend(29, 10), 69);
        CHECK.due("no bales", mill.baleCount(), 0);
        CHECK.due("next id", mill.buyBale(1, 10, 1), 4);
    }

    private static void fill(YarnMill mill, int bales) {
        for (int bale = 0; bale < bales; bale++) {
            mill.buyBale(50, 30, 1);
        }
    }

    private static void refusesTooMuchRoving() {
        YarnMill mill = new YarnMill();
        fill(mill, 10);
        CHECK.due("500", mill.blend(500, 30), 500);
        fill(mill, 9);
        mill.buyBale(49, 30, 1);
        CHECK.due("999", mill.blend(499, 30), 999);
        mill.buyBale(1, 60, 1);
        CHECK.refused("1000", mill, IllegalStateException.class, () -> mill.blend(1, 60));
        CHECK.due("found all the same", mill.blendValue(1, 60), 1);
        CHECK.due("in it all the same", mill.isInBlend(20, 1, 60), true);
        CHECK.refused("none and too much", mill, UnsupportedOperationException.class, () -> mill.blend(2, 60));
        CHECK.refused("range and too much", mill, IllegalArgumentException.class, () -> mill.blend(501, 60));
    }

    private static void testsTheRanges() {
        YarnMill mill = new YarnMill();
        fill(mill, 10);
        CHECK.due("need 1", mill.blendValue(1, 10), 50);
        CHECK.due("need 500", mill.blendValueBySearch(500, 30), 500);
        int[][] bad = {{0, 10}, {501, 10}, {-1, 10}, {1, 9}, {1, 61}, {Integer.MIN_VALUE, 10},
            {Integer.MAX_VALUE, 10}, {1, Integer.MIN_VALUE}, {1, Integer.MAX_VALUE}};
        for (int[] one : bad) {
            int need = one[0];
            int staple = one[1];
            String what = " " + need + " " + staple;
            CHECK.refused("blend" + what, mill, IllegalArgumentException.class, () -> mill.blend(need, staple));
            CHECK.refused("value" + what, mill, IllegalArgumentException.class, () -> mill.blendValue(need, staple));
            CHECK.refused("search" + what, mill, IllegalArgumentException.class,
                    () -> mill.blendValueBySearch(need, staple));
            CHECK.refused("in blend" + what, mill, IllegalArgumentException.class,
                    () -> mill.isInBlend(0, need, staple) ? 1 : 0);
        }
        YarnMill fine = withBales(new int[] {1, 60, 1}, new int[] {1, 10, 1});
        dueBlend(fine, 1, 60, 1, 0);
        dueBlend(fine, 2, 10, 2, 0, 1);
    }

    private static void throwsTheFirstOfSeveral() {
        YarnMill mill = withBales(new int[] {5, 30, 2});
        CHECK.refused("no bale and range", mill, NoSuchElementException.class, () -> mill.isInBlend(1, 0, 0) ? 1 : 0);
        CHECK.refused("no bale, no blend", mill, NoSuchElementException.class, () -> mill.isInBlend(-1, 9, 30) ? 1 : 0);
        CHECK.refused("range and no blend", mill, IllegalArgumentException.class,
                () -> mill.isInBlend(0, 501, 30) ? 1 : 0);
        CHECK.refused("value: range and no blend", mill, IllegalArgumentException.class,
                () -> mill.blendValue(501, 60));
        CHECK.refused("search: range and no blend", mill, IllegalArgumentException.class,
                () -> mill.blendValueBySearch(501, 60));
        CHECK.refused("blend: range and no blend", mill, IllegalArgumentException.class, () -> mill.blend(6, 61));
    }

    private static void findsBlendsOfTenBales() {
        YarnMill mill = withBales(new int[] {9, 12, 1}, new int[] {8, 14, 2}, new int[] {7, 18, 3},
                new int[] {6, 22, 4}, new int[] {5, 26, 5}, new int[] {4, 30, 6},
                new int[] {3, 40, 7}, new int[] {2, 50, 8}, new int[] {1, 58, 9}, new int[] {1, 60, 10});
        dueBlend(mill, 46, 10, 175, 0, 1, 2, 3, 4, 5, 6, 7, 8, 9);
        dueBlend(mill, 2, 59, 19, 8, 9);
        dueBlend(mill, 1, 60, 10, 9);
        dueNoBlend(mill, 2, 60);
        dueNoBlend(mill, 47, 10);
    }
}
