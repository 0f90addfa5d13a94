import java.util.function.Supplier;

/** Boundary cases of blends: "Blends", promises 3 and 17 to 19. Each test stands under its sentence. */
public final class BlendEdgesTest {
    private static final Check CHECK = new Check("BlendEdgesTest");
    private static final int LEAST = Integer.MIN_VALUE;
    private static final int MOST = Integer.MAX_VALUE;

    public static void main(String[] args) {
        reachesTheNeedExactly();
        reachesTheStapleExactly();
        doesNotRoundTheMean();
        takesMoreToReachTheStaple();
        takesTheSmallestValue();
        takesTheSmallestWeight();
        takesTheLowestId();
        takesOneBale();
        takesAllBales();
        findsBlendsAroundGaps();
        hasNoBlendWithoutBales();
        testsNeeds();
        testsStaples();
        holdsRovingUpTo999();
        refusesToPassRoving999();
        throwsTheFirst();
        knowsNoOtherBale();
        CHECK.end();
    }

    private static void dueBlend(YarnMill mill, int need, int staple, int value, int... bales) {
        String what = "blend for " + need + " with " + staple;
        CHECK.due("value of the " + what, mill.blendValue(need, staple), value);
        CHECK.due("value by search of the " + what, mill.blendValueBySearch(need, staple), value);
        int roving = mill.roving();
        for (int position = 0; position < mill.baleCount(); position++) {
            int bale = mill.baleAt(position);
            boolean due = false;
            for (int one : bales) {
                due |= one == bale;
            }
            CHECK.due("bale " + bale + " in the " + what, mill.isInBlend(bale, need, staple), due);
        }
        for (int bale : bales) {
            roving += mill.weight(bale);
        }
        int left = mill.baleCount() - bales.length;
        CHECK.due("roving of the " + what, mill.blend(need, staple), roving);
        CHECK.due("roving behind the " + what, mill.roving(), roving);
        CHECK.due("bales left by the " + what, mill.baleCount(), left);
        for (int bale : bales) {
            CHECK.throwsJust("bale " + bale + " behind the " + what, Check.ELEMENT, () -> mill.weight(bale));
        }
        mill.undo();
    }

    private static void dueNoBlend(Supplier<YarnMill> maker, int need, int staple) {
        String what = " for " + need + " with " + staple;
        CHECK.refusedWholly("blend" + what, maker, Check.UNSUPPORTED, mill -> mill.blend(need, staple));
        CHECK.refusedWholly("value" + what, maker, Check.ELEMENT, mill -> mill.blendValue(need, staple));
        CHECK.refusedWholly("search" + what, maker, Check.ELEMENT, mill -> mill.blendValueBySearch(need, staple));
        YarnMill mill = maker.get();
        for (int position = 0; position < mill.baleCount(); position++) {
            int bale = mill.baleAt(position);
            CHECK.refused("bale " + bale + what, mill, Check.UNSUPPORTED,
                    () -> mill.isInBlend(bale, need, staple) ? 1 : 0);
        }
    }

    private static void dueWrong(Supplier<YarnMill> maker, int need, int staple) {
        String what = " for " + need + " with " + staple;
        CHECK.refusedWholly("blend" + what, maker, Check.ARGUMENT, mill -> mill.blend(need, staple));
        CHECK.refusedWholly("value" + what, maker, Check.ARGUMENT, mill -> mill.blendValue(need, staple));
        CHECK.refusedWholly("search" + what, maker, Check.ARGUMENT, mill -> mill.blendValueBySearch(need, staple));
        if (maker.get().baleCount() > 0) {
            CHECK.refusedWholly("bale" + what, maker, Check.ARGUMENT, mill -> mill.isInBlend(0, need, staple) ? 1 : 0);
        }
    }

    // Bales whose weights add up to at least the need.
    private static void reachesTheNeedExactly() {
        Supplier<YarnMill> maker = () -> Mills.withBales(new int[] {20, 30, 2}, new int[] {17, 30, 3});
        dueBlend(maker.get(), 20, 30, 40, 0);
        dueBlend(maker.get(), 21, 30, 91, 0, 1);
        dueBlend(maker.get(), 37, 30, 91, 0, 1);
        dueNoBlend(maker, 38, 30);
    }

    // Bales whose mean staple is at least the staple.
    private static void reachesTheStapleExactly() {
        Supplier<YarnMill> maker = () -> Mills.withBales(new int[] {20, 20, 1}, new int[] {10, 50, 1});
        dueBlend(maker.get(), 30, 30, 30, 0, 1);
        dueNoBlend(maker, 30, 31);
        dueBlend(maker.get(), 10, 50, 10, 1);
        dueNoBlend(maker, 10, 51);
        dueNoBlend(maker, 11, 50);
    }

    // The mean staple is the sum of the products divided by the sum of the weights, not rounded.
    private static void doesNotRoundTheMean() {
        // The means are 29.98, 29.5 and 30.98.
        dueNoBlend(() -> Mills.withBales(new int[] {49, 30, 1}, new int[] {1, 29, 1}), 50, 30);
        dueNoBlend(() -> Mills.withBales(new int[] {1, 30, 1}, new int[] {1, 29, 1}), 2, 30);
        Supplier<YarnMill> nearly = () -> Mills.withBales(new int[] {49, 31, 1}, new int[] {1, 30, 1});
        dueNoBlend(nearly, 50, 31);
        dueBlend(nearly.get(), 50, 30, 50, 0, 1);
    }

    private static void takesMoreToReachTheStaple() {
        // The first bale alone would do for the need, and only both together have the mean.
        dueBlend(Mills.withBales(new int[] {10, 20, 1}, new int[] {5, 50, 4}), 10, 30, 30, 0, 1);
        dueBlend(Mills.withBales(new int[] {10, 20, 1}, new int[] {9, 50, 4}), 9, 10, 10, 0);
    }

    // The best blend has the smallest sum of values.
    private static void takesTheSmallestValue() {
        dueBlend(Mills.withBales(new int[] {4, 30, 5}, new int[] {19, 30, 1}), 4, 30, 19, 1);
        dueBlend(Mills.withBales(new int[] {19, 30, 1}, new int[] {4, 30, 5}), 4, 30, 19, 0);
        dueBlend(Mills.withBales(new int[] {10, 30, 3}, new int[] {6, 30, 2}, new int[] {17, 30, 1}), 10, 30, 17, 2);
        dueBlend(Mills.withBales(new int[] {10, 30, 3}, new int[] {6, 30, 2}, new int[] {4, 30, 4}), 10, 30, 28, 1, 2);
    }

    // Of several, the smallest sum of weights.
    private static void takesTheSmallestWeight() {
        dueBlend(Mills.withBales(new int[] {20, 30, 1}, new int[] {10, 30, 2}), 10, 30, 20, 1);
        dueBlend(Mills.withBales(new int[] {10, 30, 2}, new int[] {20, 30, 1}), 10, 30, 20, 0);
        dueBlend(Mills.withBales(new int[] {12, 30, 1}, new int[] {3, 30, 1}, new int[] {3, 30, 3}), 6, 30, 12, 1, 2);
    }

    // It is the one that contains the bale with the lowest id of those that only one of both blends contains.
    private static void takesTheLowestId() {
        dueBlend(Mills.withBales(new int[] {5, 30, 2}, new int[] {2, 30, 2}, new int[] {3, 30, 2}), 5, 30, 10, 0);
        dueBlend(Mills.withBales(new int[] {2, 30, 2}, new int[] {5, 30, 2}, new int[] {3, 30, 2}), 5, 30, 10, 0, 2);
        // Only with bale 0 is the mean 35: the lowest id of those that differ is 1.
        dueBlend(Mills.withBales(new int[] {1, 60, 1}, new int[] {5, 30, 2}, new int[] {2, 30, 2},
                new int[] {3, 30, 2}), 5, 35, 11, 0, 1);
        dueBlend(Mills.withBales(new int[] {1, 60, 1}, new int[] {2, 30, 2}, new int[] {5, 30, 2},
                new int[] {3, 30, 2}), 5, 35, 11, 0, 1, 3);
        dueBlend(Mills.withSmallBales(10), 5, 30, 5, 0, 1, 2, 3, 4);
        YarnMill later = Mills.withSmallBales(10);
        later.blend(3, 30);
        later.buyBale(1, 30, 1);
        dueBlend(later, 3, 30, 3, 3, 4, 5);
        // Bales 1 and 2 would do as well, but bale 0 has the lowest id.
        dueBlend(Mills.withBales(new int[] {4, 30, 1}, new int[] {3, 30, 1}, new int[] {3, 30, 1},
                new int[] {2, 30, 1}), 6, 30, 6, 0, 3);
    }

    private static void takesOneBale() {
        dueBlend(Mills.withBales(new int[] {1, 10, 1}), 1, 10, 1, 0);
        dueBlend(Mills.withBales(new int[] {50, 60, 20}), 50, 60, 1000, 0);
        YarnMill last = Mills.withSmallBales(9);
        last.buyBale(1, 60, 20);
        dueBlend(last, 1, 60, 20, 9);
    }

    // When a blend is made, its bales are not in the mill any more.
    private static void takesAllBales() {
        YarnMill mill = Mills.withSmallBales(10);
        dueBlend(mill, 10, 30, 10, 0, 1, 2, 3, 4, 5, 6, 7, 8, 9);
        mill.blend(10, 30);
        CHECK.refused("blend of none", mill, Check.UNSUPPORTED, () -> mill.blend(1, 10));
        CHECK.due("roving", mill.roving(), 10);
    }

    private static void findsBlendsAroundGaps() {
        YarnMill mill = Mills.withBales(new int[] {10, 60, 1}, new int[] {10, 20, 2}, new int[] {10, 60, 1},
                new int[] {11, 20, 1}, new int[] {12, 20, 3});
        mill.blend(20, 60);
        dueBlend(mill, 10, 10, 11, 3);
        dueBlend(mill, 12, 10, 31, 1, 3);
        dueBlend(mill, 33, 20, 67, 1, 3, 4);
    }

    // Throws UnsupportedOperationException if there is no such blend. Throws NoSuchElementException if there is none.
    private static void hasNoBlendWithoutBales() {
        dueNoBlend(YarnMill::new, 1, 10);
        dueNoBlend(YarnMill::new, 500, 60);
    }

    private static YarnMill withHeavyBales(int staple) {
        YarnMill mill = new YarnMill();
        for (int bale = 0; bale < 10; bale++) {
            mill.buyBale(50, staple, 1);
        }
        return mill;
    }

    // Throws IllegalArgumentException if the need is not between 1 and 500.
    private static void testsNeeds() {
        dueBlend(withHeavyBales(30), 1, 10, 50, 0);
        dueBlend(withHeavyBales(30), 50, 10, 50, 0);
        dueBlend(withHeavyBales(30), 451, 30, 500, 0, 1, 2, 3, 4, 5, 6, 7, 8, 9);
        dueBlend(withHeavyBales(60), 500, 60, 500, 0, 1, 2, 3, 4, 5, 6, 7, 8, 9);
        for (int need : new int[] {LEAST, -1, 0, 501, MOST}) {
            dueWrong(() -> withHeavyBales(30), need, 30);
            dueWrong(YarnMill::new, need, 30);
        }
    }

    // Throws IllegalArgumentException if the staple is not between 10 and 60.
    private static void testsStaples() {
        dueBlend(Mills.withBales(new int[] {1, 10, 1}), 1, 10, 1, 0);
        dueNoBlend(() -> Mills.withBales(new int[] {1, 10, 1}), 1, 11);
        dueBlend(Mills.withBales(new int[] {1, 60, 1}), 1, 60, 1, 0);
        dueNoBlend(() -> Mills.withBales(new int[] {1, 59, 1}), 1, 60);
        for (int staple : new int[] {LEAST, -1, 0, 9, 61, MOST}) {
            dueWrong(() -> withHeavyBales(30), 20, staple);
            dueWrong(YarnMill::new, 20, staple);
        }
    }

    /** As much roving, and another bale of as many kilograms. */
    private static YarnMill withRovingAndBale(int roving, int weight) {
        YarnMill mill = new YarnMill();
        for (int left = roving; left > 0; left -= 50) {
            mill.buyBale(Math.min(left, 50), 30, 1);
            mill.blend(1, 10);
        }
        mill.buyBale(weight, 30, 1);
        return mill;
    }

    // Throws IllegalStateException if there would be more than 999 kilograms of roving.
    private static void holdsRovingUpTo999() {
        CHECK.due("999 of 998 and 1", withRovingAndBale(998, 1).blend(1, 10), 999);
        CHECK.due("999 of 950 and 49", withRovingAndBale(950, 49).blend(1, 10), 999);
        YarnMill mill = withHeavyBales(30);
        mill.blend(500, 30);
        for (int bale = 0; bale < 10; bale++) {
            mill.buyBale(50, 30, 1);
        }
        CHECK.refused("1000 of 500 and 500", mill, Check.STATE, () -> mill.blend(451, 30));
        CHECK.due("950 of 500 and 450", mill.blend(450, 30), 950);
        CHECK.refused("1000 of 950 and 50", mill, Check.STATE, () -> mill.blend(1, 30));
        CHECK.due("bales", mill.baleCount(), 1);
    }

    private static void refusesToPassRoving999() {
        CHECK.refusedWholly("1000 of 999 and 1", () -> withRovingAndBale(999, 1), Check.STATE,
                mill -> mill.blend(1, 10));
        CHECK.refusedWholly("1000 of 950 and 50", () -> withRovingAndBale(950, 50), Check.STATE,
                mill -> mill.blend(1, 10));
        YarnMill mill = withRovingAndBale(950, 50);
        // The reading calls ask for no room.
        CHECK.due("value", mill.blendValue(1, 10), 50);
        CHECK.due("search", mill.blendValueBySearch(1, 10), 50);
        CHECK.due("in it", mill.isInBlend(mill.baleAt(0), 1, 10), true);
        CHECK.throwsJust("script", Check.STATE, () -> Mills.run(mill, "blend 1 10"));
        mill.spin(mill.addOrder(1, 9));
        CHECK.due("999 behind a spin", mill.blend(1, 10), 999);
    }

    // If several exceptions apply, the one that is listed first is thrown.
    private static void throwsTheFirst() {
        CHECK.refusedWholly("blend: range, none", YarnMill::new, Check.ARGUMENT, mill -> mill.blend(0, 10));
        CHECK.refusedWholly("blend: range, too much", () -> withRovingAndBale(999, 1), Check.ARGUMENT,
                mill -> mill.blend(1, 9));
        CHECK.refusedWholly("blend: none, full", () -> withRovingAndBale(999, 1), Check.UNSUPPORTED,
                mill -> mill.blend(2, 10));
        CHECK.refusedWholly("value: range, none", YarnMill::new, Check.ARGUMENT, mill -> mill.blendValue(501, 10));
        CHECK.refusedWholly("search: range, none", YarnMill::new, Check.ARGUMENT,
                mill -> mill.blendValueBySearch(1, 61));
        CHECK.refusedWholly("bale, range, none", YarnMill::new, Check.ELEMENT, mill -> mill.isInBlend(0, 0, 0) ? 1 : 0);
        CHECK.refusedWholly("bale, range", () -> Mills.withSmallBales(1), Check.ELEMENT,
                mill -> mill.isInBlend(1, 501, 10) ? 1 : 0);
        CHECK.refusedWholly("bale, none", () -> Mills.withSmallBales(1), Check.ELEMENT,
                mill -> mill.isInBlend(1, 2, 10) ? 1 : 0);
        CHECK.refusedWholly("range, none", () -> Mills.withSmallBales(1), Check.ARGUMENT,
                mill -> mill.isInBlend(0, 501, 10) ? 1 : 0);
        CHECK.refusedWholly("none", () -> Mills.withSmallBales(1), Check.UNSUPPORTED,
                mill -> mill.isInBlend(0, 2, 10) ? 1 : 0);
    }

    // isInBlend throws NoSuchElementException if there is no such bale.
    private static void knowsNoOtherBale() {
        YarnMill mill = Mills.withSmallBales(3);
        mill.blend(1, 10);
        for (int bale : new int[] {LEAST, -1, 0, 3, 32, 33, 34, MOST}) {
            CHECK.refused("bale " + bale, mill, Check.ELEMENT, () -> mill.isInBlend(bale, 1, 10) ? 1 : 0);
        }
        CHECK.due("bale 1", mill.isInBlend(1, 1, 10), true);
        CHECK.due("bale 2", mill.isInBlend(2, 1, 10), false);
    }
}
