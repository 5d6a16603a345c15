import java.util.Arrays;

/** The edges that the document names for crates, stacks, the crane and digs; RefusalsTest has what is refused. */
public final class YardEdgesTest {
    private static final Check CHECK = new Check();
    private static final int NONE = CraneYard.NONE;
    private static final int DUG = 0;

    public static void main(String[] args) {
        thereAreTheStacks0To5();
        aStackHasAtMost5();
        onAStormDayAtMost3();
        cratesThatAreHigherStay();
        atMost30EverArrive();
        theTopCrateIsNotLighter();
        aCrateIsInAStackOnTheCraneOrGone();
        aLiftTakesTheTopCrate();
        aTopCrateIsDugWithoutAnyPlace();
        aDigTakesOneToFiveLifts();
        aDigChoosesTheFewestCrates();
        aDigChoosesTheLowestNumberOfSeveral();
        aDigPassesOverLowStacksThatCannotTake();
        aDigChoosesAnewForEachCrate();
        aDigNeedsAPlaceEachTime();
        placesGoFrom0To4();
        liftsCountsFrom0();
        CHECK.finish();
    }

    /** The stacks 0 ... 5 with so many crates each, but one with another number. */
    private static int[] heights(int each, int stack, int other) {
        int[] heights = new int[6];
        Arrays.fill(heights, each);
        heights[stack] = other;
        return heights;
    }

    /** The number of the lowest crate of a stack of Yards.high(heights). */
    private static int lowest(int[] heights, int stack) {
        int crate = 0;
        for (int below = 0; below < stack; below++) {
            crate += heights[below];
        }
        return crate;
    }

    /** "There are the stacks 0 to 5" */
    private static void thereAreTheStacks0To5() {
        CraneYard yard = new CraneYard();
        for (int stack = 0; stack < 6; stack++) {
            CHECK.same("arrival on " + stack, yard.arrive(10, 0, stack), stack);
            CHECK.stack(yard, stack, stack);
            CHECK.same("lift from " + stack, yard.lift(stack), stack);
            CHECK.stack(yard, stack);
            CHECK.same("drop onto " + stack, yard.drop(stack), 1);
            CHECK.same("dig in " + stack, yard.dig(stack), 1);
            yard.drop(stack);
            CHECK.stack(yard, stack, stack);
        }
    }

    /** "each with at most 5 crates" */
    private static void aStackHasAtMost5() {
        for (int height = 0; height <= 5; height++) {
            checkPuts(height, height < 5, false);
        }
    }

    /** "on a storm day with at most 3" */
    private static void onAStormDayAtMost3() {
        for (int height = 0; height <= 5; height++) {
            checkPuts(height, height < 3, true);
        }
    }

    /** Whether crates can be put onto so many others: an arrival, a drop, a dig, and the fewest lifts. */
    private static void checkPuts(int height, boolean fits, boolean stormy) {
        String onto = " onto " + height + (stormy ? " in a storm" : "");
        for (int stack = 0; stack < 6; stack++) {
            int target = stack;
            int source = (stack + 1) % 6;
            int number = height;
            CraneYard arrival = beginDay(Yards.high(heights(0, target, height)), stormy);
            CraneYard drop = Yards.high(heights(0, target, height));
            drop.arrive(10, 0, source);
            drop.lift(source);
            beginDay(drop, stormy);
            if (fits) {
                CHECK.same("arrival" + onto, arrival.arrive(10, 0, target), number);
                CHECK.same("drop" + onto, drop.drop(target), height + 1);
            } else {
                CHECK.wrongState("arrival" + onto, () -> arrival.arrive(10, 0, target));
                CHECK.wrongState("drop" + onto, () -> drop.drop(target));
            }
            CHECK.same("height behind an arrival" + onto, arrival.height(target), height + (fits ? 1 : 0));
            CHECK.same("height behind a drop" + onto, drop.height(target), height + (fits ? 1 : 0));
        }
        CraneYard dig = beginDay(Yards.high(heights(height, 0, 2)), stormy);
        CHECK.same("fewestLifts" + onto, dig.fewestLifts(1 << DUG), fits ? 2 : NONE);
        if (fits) {
            CHECK.same("dig" + onto, dig.dig(DUG), 2);
        } else {
            CHECK.wrongState("dig" + onto, () -> dig.dig(DUG));
        }
        CHECK.same("height behind a dig" + onto, dig.height(1), height + (fits ? 1 : 0));
    }

    private static CraneYard beginDay(CraneYard yard, boolean stormy) {
        if (stormy) {
            yard.storm();
        }
        return yard;
    }

    /** "but crates that are higher stay" */
    private static void cratesThatAreHigherStay() {
        CraneYard yard = Yards.with(0, 0, 0, 0);
        yard.arrive(10, 7, 0);
        yard.arrive(10, 8, 1);
        CHECK.same("higher ones", yard.storm(), 2);
        CHECK.stack(yard, 0, 0, 1, 2, 3, 4);
        yard.tell(7, 8, NONE, NONE);
        CHECK.same("the fifth one's letter is on its lid", yard.bonus(), 200);
        CHECK.same("the fifth one is dug out", yard.fewestLifts(1 << 4), 1);
        CHECK.same("the lowest one is dug out", yard.fewestLifts(1 << 0), 5);
        CHECK.same("fees as ever", yard.pass(1), 10);
        CHECK.stack(yard, 0, 0, 1, 2, 3, 4);
    }

    /** "Crates are numbered from 0 as they arrive; at most 30 ever do": what is gone is counted too. */
    private static void atMost30EverArrive() {
        CraneYard yard = new CraneYard();
        for (int crate = 0; crate < 20; crate++) {
            CHECK.same("arrival", yard.arrive(10, 0, 3), crate);
            yard.offer(crate, 0);
            yard.bid(crate, 0, 1);
            yard.give(crate);
            yard.lift(3);
            yard.load();
        }
        for (int crate = 20; crate < 30; crate++) {
            CHECK.same("arrival", yard.arrive(10, 0, crate % 2), crate);
        }
        CHECK.wrongState("the 31st, with four stacks empty", () -> yard.arrive(10, 0, 3));
        CHECK.stack(yard, 1, 21, 23, 25, 27, 29);
    }

    /** "its top crate is not lighter", beside the lowest and the highest weight. */
    private static void theTopCrateIsNotLighter() {
        int[] tops = {1, 2, 50, 99, 100};
        for (int top : tops) {
            for (int weight = Math.max(1, top - 1); weight <= Math.min(100, top + 1); weight++) {
                checkPut(top, weight);
            }
            checkPut(top, 1);
            checkPut(top, 100);
        }
    }

    private static void checkPut(int top, int weight) {
        String onto = " of weight " + weight + " onto " + top;
        CraneYard arrival = new CraneYard();
        arrival.arrive(100, 0, 2);
        arrival.arrive(top, 0, 2);
        CraneYard drop = new CraneYard();
        drop.arrive(top, 0, 2);
        drop.arrive(weight, 0, 3);
        drop.lift(3);
        CraneYard dig = new CraneYard();
        Yards.arrive(dig, 100, 0, DUG);
        Yards.arrive(dig, weight, 0, DUG);
        Yards.arrive(dig, top, 0, 1, 2, 3, 4, 5);
        boolean fits = weight <= top;
        CHECK.same("fewestLifts, a crate" + onto, dig.fewestLifts(1 << DUG), fits ? 2 : NONE);
        if (fits) {
            CHECK.same("arrival" + onto, arrival.arrive(weight, 0, 2), 2);
            CHECK.same("drop" + onto, drop.drop(2), 2);
            CHECK.same("dig, a crate" + onto, dig.dig(DUG), 2);
        } else {
            CHECK.wrongState("arrival" + onto, () -> arrival.arrive(weight, 0, 2));
            CHECK.wrongState("drop" + onto, () -> drop.drop(2));
            CHECK.wrongState("dig, a crate" + onto, () -> dig.dig(DUG));
        }
    }

    /** "It is in a stack, on the crane, which holds at most one, or gone": the first and the last crate. */
    private static void aCrateIsInAStackOnTheCraneOrGone() {
        for (int crate : new int[] {0, 29}) {
            CraneYard yard = Yards.high(5, 5, 5, 5, 5, 5);
            int stack = crate / 5;
            CHECK.same("in a stack", yard.stackOf(crate), stack);
            CHECK.same("the crane is empty", yard.crane(), NONE);
            yard.offer(crate, 0);
            yard.bid(0, 0, 1);
            yard.give(0);
            for (int top = stack * 5 + 4; top > crate; top--) {
                makeRoom(yard, top);
            }
            CHECK.same("lift", yard.lift(stack), crate);
            CHECK.same("on the crane", yard.crane(), crate);
            CHECK.same("and in no stack", yard.stackOf(crate), NONE);
            CHECK.wrongState("the crane holds one", () -> yard.lift((stack + 1) % 6));
            yard.load();
            CHECK.same("the crane is empty", yard.crane(), NONE);
            CHECK.same("gone", yard.stackOf(crate), NONE);
        }
    }

    /** Loads a top crate. */
    private static void makeRoom(CraneYard yard, int top) {
        int haul = yard.offer(top, 0);
        yard.bid(haul, 0, 1);
        yard.give(haul);
        yard.dig(top);
        yard.load();
    }

    /** "A lift is the taking of a top crate onto the crane": from five crates to none. */
    private static void aLiftTakesTheTopCrate() {
        CraneYard yard = Yards.high(0, 0, 5);
        for (int crate = 4; crate >= 0; crate--) {
            CHECK.same("lift", yard.lift(2), crate);
            CHECK.same("height", yard.height(2), crate);
            CHECK.same("lifts", yard.lifts(), 5 - crate);
            CHECK.same("drop", yard.drop(5), 5 - crate);
        }
        CHECK.wrongState("lift from none", () -> yard.lift(2));
        CHECK.stack(yard, 5, 4, 3, 2, 1, 0);
    }

    /** "as long as it is not the top of its stack": a top crate needs no other stack. */
    private static void aTopCrateIsDugWithoutAnyPlace() {
        for (int stack = 0; stack < 6; stack++) {
            CraneYard yard = Yards.high(5, 5, 5, 5, 5, 5);
            int top = stack * 5 + 4;
            CHECK.wrongState("a crate below it", () -> yard.dig(top - 1));
            CHECK.same("a top crate of a full yard", yard.dig(top), 1);
            CHECK.same("crane", yard.crane(), top);
            CHECK.same("height", yard.height(stack), 4);
        }
    }

    private static void aDigTakesOneToFiveLifts() {
        for (int stack = 0; stack < 6; stack++) {
            for (int place = 0; place < 5; place++) {
                CraneYard yard = Yards.high(heights(0, stack, 5));
                CHECK.same("dig at place " + place, yard.dig(place), 5 - place);
                CHECK.same("lifts", yard.lifts(), 5 - place);
                CHECK.same("crane", yard.crane(), place);
                CHECK.same("height", yard.height(stack), place);
            }
        }
    }

    /** "of those onto which it can be put the one with the fewest crates", and "another stack" than its own. */
    private static void aDigChoosesTheFewestCrates() {
        for (int home = 0; home < 6; home++) {
            for (int target = 0; target < 6; target++) {
                for (int most = 1; most <= 5 && target != home; most++) {
                    int[] heights = heights(most, target, most - 1);
                    heights[home] = 2;
                    CraneYard yard = Yards.high(heights);
                    int crate = lowest(heights, home);
                    CHECK.same("dig", yard.dig(crate), 2);
                    CHECK.same("the crate above lies on the lowest stack", yard.stackOf(crate + 1), target);
                    CHECK.same("at its top", yard.at(target, most - 1), crate + 1);
                }
            }
        }
    }

    /** "of several the one with the lowest number" */
    private static void aDigChoosesTheLowestNumberOfSeveral() {
        for (int home = 0; home < 6; home++) {
            for (int low = 0; low < 6; low++) {
                for (int high = low + 1; high < 6 && low != home; high++) {
                    int[] heights = heights(3, low, 2);
                    heights[high] = 2;
                    heights[home] = 2;
                    CraneYard yard = Yards.high(heights);
                    int crate = lowest(heights, home);
                    CHECK.same("dig", yard.dig(crate), 2);
                    CHECK.same("the crate above lies on the lowest number", yard.stackOf(crate + 1), low);
                }
            }
        }
    }

    /** "of those onto which it can be put": neither onto a lighter crate nor onto a full stack. */
    private static void aDigPassesOverLowStacksThatCannotTake() {
        for (int target = 1; target < 6; target++) {
            CraneYard yard = Yards.with(0, 0);
            for (int stack = 1; stack < 6; stack++) {
                if (stack == target) {
                    Yards.arrive(yard, 10, 0, stack, stack, stack, stack);
                } else {
                    Yards.arrive(yard, 9, 0, stack);
                }
            }
            CHECK.same("dig", yard.dig(0), 2);
            CHECK.same("the crate above lies on four", yard.stackOf(1), target);
            CHECK.same("which are five then", yard.height(target), 5);
        }
    }

    private static void aDigChoosesAnewForEachCrate() {
        CraneYard yard = Yards.high(1, 1, 5, 1, 3, 2);
        CHECK.same("dig", yard.dig(2), 5);
        CHECK.stack(yard, 2);
        CHECK.stack(yard, 0, 0, 6, 3);
        CHECK.stack(yard, 1, 1, 5);
        CHECK.stack(yard, 3, 7, 4);
        CHECK.same("height", yard.height(4), 3);
        CHECK.same("height", yard.height(5), 2);
    }

    /** "It cannot be dug out, if there is no such stack at some time": as many places as crates above, and less. */
    private static void aDigNeedsAPlaceEachTime() {
        for (int above = 1; above <= 4; above++) {
            CraneYard enough = Yards.high(above + 1, 5, 5, 5, 5, 5 - above);
            CHECK.same("places for " + above, enough.dig(0), above + 1);
            CHECK.same("the last place is taken", enough.height(5), 5);
            CraneYard less = Yards.high(above + 1, 5, 5, 5, 5, 6 - above);
            CHECK.wrongState("a place less than " + above, () -> less.dig(0));
            CHECK.same("and nothing was moved", less.height(5), 6 - above);
        }
    }

    /** "0 to 4: 0 for the lowest one"; "NONE if it is not so high" */
    private static void placesGoFrom0To4() {
        for (int stack = 0; stack < 6; stack++) {
            for (int height = 0; height <= 5; height++) {
                CraneYard yard = Yards.high(heights(0, stack, height));
                CHECK.same("height", yard.height(stack), height);
                for (int place = 0; place <= 4; place++) {
                    CHECK.same("at", yard.at(stack, place), place < height ? place : NONE);
                }
            }
        }
    }

    private static void liftsCountsFrom0() {
        CraneYard yard = Yards.high(5);
        CHECK.same("no lift yet", yard.lifts(), 0);
        CHECK.wrongState("an empty stack", () -> yard.lift(1));
        CHECK.same("a refused lift is none", yard.lifts(), 0);
        yard.lift(0);
        CHECK.same("one lift", yard.lifts(), 1);
        yard.drop(0);
        CHECK.same("a drop is none", yard.lifts(), 1);
        yard.dig(0);
        CHECK.same("with the five of a dig", yard.lifts(), 6);
        CHECK.wrongState("a crane that is not empty", () -> yard.dig(1));
        CHECK.same("a refused dig is none", yard.lifts(), 6);
    }
}
