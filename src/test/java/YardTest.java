/** Promises 1 to 10: a new object, arrivals, the crane, digs, and what can be asked for the stacks. */
public final class YardTest {
    private static final Check CHECK = new Check();

    public static void main(String[] args) {
        aNewYardIsEmpty();
        arriveNumbersCrates();
        arriveRefusesArgumentsOutOfRange();
        arriveKeepsToWeightsAndHeights();
        arriveTakesThirtyCrates();
        arriveKeepsToTheStormsHeight();
        liftTakesTheTop();
        liftRefuses();
        dropPutsTheCrateDown();
        dropRefuses();
        dropKeepsToTheStormsHeight();
        digMovesWhatLiesAbove();
        digChoosesTheLowestStackOfTheLeastHigh();
        digPassesOverStacksThatCannotTake();
        digRefuses();
        aDigThatFailsHalfwayChangesNothing();
        digKeepsToTheStormsHeight();
        digLeavesTheCratesOwnStackAlone();
        craneTellsItsCrate();
        heightAndAtRefuse();
        stackOfFollowsACrate();
        liftsCountsLiftsOnly();
        CHECK.finish();
    }

    private static void aNewYardIsEmpty() {
        CraneYard yard = new CraneYard();
        for (int stack = 0; stack < 6; stack++) {
            CHECK.stack(yard, stack);
        }
        CHECK.same("crane of a new yard", yard.crane(), CraneYard.NONE);
        CHECK.same("lifts of a new yard", yard.lifts(), 0);
        CHECK.same("bonus of a new yard", yard.bonus(), 0);
        CHECK.same("today of a new yard", yard.today(), 0);
        CHECK.same("balance of a new yard", yard.balance(), 0);
        CHECK.noSuch("the first crate of a new yard", () -> yard.stackOf(0));
        CHECK.noSuch("the first word of a new yard", () -> yard.hasPaid(0));
        CHECK.noSuch("the first haul of a new yard", () -> yard.state(0));
    }

    private static void arriveNumbersCrates() {
        CraneYard yard = new CraneYard();
        CHECK.same("lowest arguments", yard.arrive(1, 0, 0), 0);
        CHECK.same("highest arguments", yard.arrive(100, 25, 5), 1);
        CHECK.same("on another crate", yard.arrive(1, 3, 5), 2);
        CHECK.stack(yard, 0, 0);
        CHECK.stack(yard, 5, 1, 2);
        CHECK.stack(yard, 1);
    }

    private static void arriveRefusesArgumentsOutOfRange() {
        CraneYard yard = new CraneYard();
        int[][] wrong = {
            {0, 0, 0}, {-1, 0, 0}, {101, 0, 0}, {Integer.MIN_VALUE, 0, 0}, {Integer.MAX_VALUE, 0, 0},
            {1, -1, 0}, {1, 26, 0}, {1, Integer.MIN_VALUE, 0}, {1, Integer.MAX_VALUE, 0},
            {1, 0, -1}, {1, 0, 6}, {1, 0, Integer.MIN_VALUE}, {1, 0, Integer.MAX_VALUE},
        };
        for (int[] w : wrong) {
            CHECK.outOfRange("arrive(" + w[0] + ", " + w[1] + ", " + w[2] + ")", () -> yard.arrive(w[0], w[1], w[2]));
        }
        CHECK.same("the first number is still free", yard.arrive(1, 0, 0), 0);
    }

    private static void arriveKeepsToWeightsAndHeights() {
        CraneYard yard = new CraneYard();
        yard.arrive(50, 0, 2);
        CHECK.wrongState("heavier", () -> yard.arrive(51, 0, 2));
        CHECK.same("as heavy", yard.arrive(50, 0, 2), 1);
        CHECK.same("lighter", yard.arrive(49, 0, 2), 2);
        CHECK.wrongState("heavier than the top, not than the lowest", () -> yard.arrive(50, 0, 2));
        yard.arrive(49, 0, 2);
        CHECK.same("the fifth", yard.arrive(49, 0, 2), 4);
        CHECK.wrongState("the sixth", () -> yard.arrive(1, 0, 2));
        CHECK.outOfRange("out of range goes first", () -> yard.arrive(0, 0, 2));
        CHECK.outOfRange("a letter out of range goes first", () -> yard.arrive(1, 26, 2));
        CHECK.stack(yard, 2, 0, 1, 2, 3, 4);
        CHECK.same("what was refused took no number", yard.arrive(1, 0, 3), 5);
    }

    private static void arriveTakesThirtyCrates() {
        CraneYard yard = new CraneYard();
        for (int crate = 0; crate < 30; crate++) {
            CHECK.same("arrival", yard.arrive(10, 0, crate % 6), crate);
        }
        CHECK.same("the last crate", yard.stackOf(29), 5);
        CHECK.same("lifting the last crate", yard.lift(5), 29);
        CHECK.wrongState("a crate more than 30, with room", () -> yard.arrive(10, 0, 5));
        CHECK.outOfRange("out of range goes first", () -> yard.arrive(10, 0, 6));
        CHECK.noSuch("crate 30", () -> yard.stackOf(30));
        CHECK.stack(yard, 5, 5, 11, 17, 23);
    }

    private static void arriveKeepsToTheStormsHeight() {
        CraneYard yard = Yards.with(0, 0);
        yard.storm();
        CHECK.same("the third", yard.arrive(10, 0, 0), 2);
        CHECK.wrongState("the fourth in a storm", () -> yard.arrive(10, 0, 0));
        yard.pass(1);
        CHECK.same("the fourth behind the storm", yard.arrive(10, 0, 0), 3);
        CHECK.same("the fifth behind the storm", yard.arrive(10, 0, 0), 4);
    }

    private static void liftTakesTheTop() {
        CraneYard yard = Yards.with(5, 5, 0);
        CHECK.same("lift", yard.lift(5), 1);
        CHECK.stack(yard, 5, 0);
        CHECK.same("crane", yard.crane(), 1);
        CHECK.same("lifts", yard.lifts(), 1);
        yard.drop(1);
        CHECK.same("lift of the lowest stack", yard.lift(0), 2);
        CHECK.stack(yard, 0);
    }

    private static void liftRefuses() {
        CraneYard yard = Yards.with(0, 1);
        int[] wrong = {-1, 6, Integer.MIN_VALUE, Integer.MAX_VALUE};
        for (int stack : wrong) {
            CHECK.outOfRange("lift(" + stack + ")", () -> yard.lift(stack));
        }
        CHECK.wrongState("an empty stack", () -> yard.lift(2));
        yard.lift(0);
        CHECK.wrongState("a crane that holds one", () -> yard.lift(1));
        CHECK.outOfRange("out of range goes first", () -> yard.lift(6));
        CHECK.same("lifts", yard.lifts(), 1);
        CHECK.same("crane", yard.crane(), 0);
        CHECK.stack(yard, 1, 1);
    }

    private static void dropPutsTheCrateDown() {
        CraneYard yard = Yards.with(0, 0, 1);
        yard.lift(0);
        CHECK.same("drop onto a crate", yard.drop(1), 2);
        CHECK.stack(yard, 1, 2, 1);
        CHECK.same("crane", yard.crane(), CraneYard.NONE);
        yard.lift(1);
        CHECK.same("drop onto an empty stack", yard.drop(5), 1);
        yard.lift(5);
        CHECK.same("drop where another lies", yard.drop(0), 2);
        CHECK.stack(yard, 0, 0, 1);
    }

    private static void dropRefuses() {
        CraneYard yard = Yards.with(0, 0, 0, 0, 0);
        yard.arrive(9, 0, 1);
        yard.arrive(10, 0, 2);
        CHECK.wrongState("an empty crane", () -> yard.drop(3));
        CHECK.outOfRange("out of range goes first", () -> yard.drop(6));
        yard.lift(2);
        int[] wrong = {-1, 6, Integer.MIN_VALUE, Integer.MAX_VALUE};
        for (int stack : wrong) {
            CHECK.outOfRange("drop(" + stack + ")", () -> yard.drop(stack));
        }
        CHECK.wrongState("onto five", () -> yard.drop(0));
        CHECK.wrongState("onto a lighter one", () -> yard.drop(1));
        CHECK.same("crane", yard.crane(), 6);
        CHECK.same("onto none", yard.drop(2), 1);
    }

    private static void dropKeepsToTheStormsHeight() {
        CraneYard yard = Yards.with(0, 0, 0, 0, 1, 1);
        yard.lift(0);
        yard.storm();
        CHECK.wrongState("as the fourth in a storm", () -> yard.drop(0));
        CHECK.same("as the third in a storm", yard.drop(1), 3);
        yard.lift(1);
        yard.pass(1);
        CHECK.same("as the fourth behind the storm", yard.drop(0), 4);
    }

    private static void digMovesWhatLiesAbove() {
        CraneYard yard = Yards.with(0, 0, 0);
        CHECK.same("dig", yard.dig(0), 3);
        CHECK.same("crane", yard.crane(), 0);
        CHECK.same("lifts", yard.lifts(), 3);
        CHECK.stack(yard, 0);
        CHECK.stack(yard, 1, 2);
        CHECK.stack(yard, 2, 1);
        yard.drop(0);
        CHECK.same("dig of a top", yard.dig(2), 1);
        CHECK.stack(yard, 1);
        CHECK.same("lifts of both", yard.lifts(), 4);
    }

    private static void digChoosesTheLowestStackOfTheLeastHigh() {
        CraneYard yard = Yards.with(0, 0, 1, 1, 2, 2, 3, 4, 5, 5);
        CHECK.same("dig", yard.dig(0), 2);
        CHECK.stack(yard, 3, 6, 1);
        CHECK.stack(yard, 4, 7);
        yard.drop(0);
        CHECK.same("dig of what is buried then", yard.dig(6), 2);
        CHECK.stack(yard, 0, 0, 1);
    }

    private static void digPassesOverStacksThatCannotTake() {
        CraneYard yard = Yards.with(0, 0, 1, 1, 3, 3, 4, 4, 5, 5, 5);
        yard.arrive(9, 0, 2);
        yard.arrive(9, 0, 1);
        CHECK.same("dig", yard.dig(0), 2);
        CHECK.stack(yard, 3, 4, 5, 1);
        CHECK.stack(yard, 2, 11);
    }

    private static void digRefuses() {
        CraneYard yard = Yards.with(0, 0, 1);
        int[] wrong = {-1, 3, 30, Integer.MIN_VALUE, Integer.MAX_VALUE};
        for (int crate : wrong) {
            CHECK.noSuch("dig(" + crate + ")", () -> yard.dig(crate));
        }
        yard.offer(2, 0);
        yard.bid(0, 0, 1);
        yard.give(0);
        yard.dig(2);
        CHECK.wrongState("a crane that holds another", () -> yard.dig(0));
        CHECK.wrongState("the crate on the crane", () -> yard.dig(2));
        CHECK.noSuch("no such crate goes first", () -> yard.dig(3));
        yard.load();
        CHECK.wrongState("a crate that is gone", () -> yard.dig(2));
        CHECK.same("lifts", yard.lifts(), 1);
        CHECK.stack(yard, 0, 0, 1);
    }

    private static void aDigThatFailsHalfwayChangesNothing() {
        CraneYard yard = Yards.with(0, 0);
        yard.arrive(5, 0, 0);
        for (int stack = 1; stack < 6; stack++) {
            yard.arrive(5, stack, stack);
        }
        yard.tell(5, 0, -1, -1);
        CHECK.wrongState("the second crate has no place", () -> yard.dig(0));
        CHECK.stack(yard, 0, 0, 1, 2);
        CHECK.stack(yard, 1, 3);
        CHECK.same("lifts", yard.lifts(), 0);
        CHECK.same("crane", yard.crane(), CraneYard.NONE);
        CHECK.same("bonus", yard.bonus(), 0);
        CHECK.same("the first crate has one", yard.dig(1), 2);
        CHECK.stack(yard, 1, 3, 2);
    }

    private static void digKeepsToTheStormsHeight() {
        CraneYard yard = Yards.with(0, 0, 1, 1, 1, 2, 2, 2, 3, 3, 3, 4, 4, 4, 5, 5, 5);
        yard.storm();
        CHECK.wrongState("no room in a storm", () -> yard.dig(0));
        CHECK.same("a top in a storm", yard.dig(1), 1);
        CHECK.same("and back", yard.drop(0), 2);
        yard.pass(1);
        CHECK.same("room behind the storm", yard.dig(0), 2);
        CHECK.stack(yard, 1, 2, 3, 4, 1);
    }

    private static void digLeavesTheCratesOwnStackAlone() {
        CraneYard yard = Yards.with(3, 3, 3, 0, 0, 1, 1, 2, 2, 4, 4, 5, 5);
        CHECK.same("dig", yard.dig(0), 3);
        CHECK.stack(yard, 3);
        CHECK.stack(yard, 0, 3, 4, 2);
        CHECK.stack(yard, 1, 5, 6, 1);
    }

    private static void craneTellsItsCrate() {
        CraneYard yard = Yards.withHaul(0, 7);
        CHECK.same("before a lift", yard.crane(), CraneYard.NONE);
        yard.lift(0);
        CHECK.same("behind a lift", yard.crane(), 0);
        yard.load();
        CHECK.same("behind a load", yard.crane(), CraneYard.NONE);
    }

    private static void heightAndAtRefuse() {
        CraneYard yard = Yards.with(0, 0, 0, 0, 0);
        int[] wrong = {-1, 6, Integer.MIN_VALUE, Integer.MAX_VALUE};
        for (int stack : wrong) {
            CHECK.outOfRange("height(" + stack + ")", () -> yard.height(stack));
            CHECK.outOfRange("at(" + stack + ", 0)", () -> yard.at(stack, 0));
        }
        int[] wrongPlaces = {-1, 5, Integer.MIN_VALUE, Integer.MAX_VALUE};
        for (int place : wrongPlaces) {
            CHECK.outOfRange("at(0, " + place + ")", () -> yard.at(0, place));
        }
        yard.storm();
        CHECK.same("a place above the storm's height", yard.at(0, 4), 4);
    }

    private static void stackOfFollowsACrate() {
        CraneYard yard = Yards.with(4, 4);
        CHECK.same("arrived", yard.stackOf(1), 4);
        yard.lift(4);
        CHECK.same("on the crane", yard.stackOf(1), CraneYard.NONE);
        yard.drop(2);
        CHECK.same("dropped", yard.stackOf(1), 2);
        yard.offer(1, 0);
        yard.bid(0, 2, 9);
        yard.give(0);
        yard.dig(1);
        yard.load();
        CHECK.same("gone", yard.stackOf(1), CraneYard.NONE);
        CHECK.same("the other one", yard.stackOf(0), 4);
        int[] wrong = {-1, 2, 30, Integer.MIN_VALUE, Integer.MAX_VALUE};
        for (int crate : wrong) {
            CHECK.noSuch("stackOf(" + crate + ")", () -> yard.stackOf(crate));
        }
    }

    private static void liftsCountsLiftsOnly() {
        CraneYard yard = Yards.with(0, 0, 0);
        yard.lift(0);
        yard.drop(1);
        CHECK.same("lift and drop", yard.lifts(), 1);
        yard.fewestLifts(1);
        CHECK.same("fewestLifts adds none", yard.lifts(), 1);
        yard.dig(0);
        CHECK.same("with a dig", yard.lifts(), 3);
    }
}
