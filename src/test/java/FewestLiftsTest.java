import java.util.ArrayList;
import java.util.List;

/** Promise 11: the fewest lifts for some crates by all orders. */
public final class FewestLiftsTest {
    private static final Check CHECK = new Check();

    public static void main(String[] args) {
        oneCrateTakesItsDig();
        theBestOrderCounts();
        everyOrderIsTried();
        dugCratesAreGone();
        anOrderThatFailsDoesNotCount();
        noOrderAtAll();
        theStormCounts();
        nothingIsChanged();
        refusesWhatIsNoSet();
        refusesWithACrateOnTheCrane();
        CHECK.finish();
    }

    private static void oneCrateTakesItsDig() {
        CraneYard yard = Yards.with(2, 2, 2, 2, 2);
        for (int crate = 0; crate < 5; crate++) {
            CHECK.same("crate " + crate, yard.fewestLifts(1 << crate), 5 - crate);
        }
    }

    private static void theBestOrderCounts() {
        CraneYard yard = Yards.with(0, 0, 0, 0, 0);
        CHECK.same("from the top down", yard.fewestLifts(0b11110), 4);
        CHECK.same("the two lowest", yard.fewestLifts(0b00011), 5);
        CHECK.same("the lowest and the highest", yard.fewestLifts(0b10001), 5);
        CHECK.same("four without the top", yard.fewestLifts(0b01111), 5);
        CraneYard wide = Yards.with(0, 1, 2, 3);
        CHECK.same("four tops", wide.fewestLifts(0b1111), 4);
    }

    /** Only from the top down do four crates in one stack take four lifts, whatever their numbers. */
    private static void everyOrderIsTried() {
        for (int order = 0; order < 24; order++) {
            CraneYard yard = Yards.with(0, 1, 2, 3);
            List<Integer> left = new ArrayList<>(List.of(0, 1, 2, 3));
            int digits = order;
            for (int size = 4; size > 0; size--) {
                yard.dig(left.remove(digits % size));
                yard.drop(5);
                digits /= size;
            }
            CHECK.same("order " + order, yard.fewestLifts(0b1111), 4);
        }
    }

    private static void dugCratesAreGone() {
        CraneYard yard = new CraneYard();
        yard.arrive(10, 0, 0);
        yard.arrive(10, 0, 0);
        for (int stack = 1; stack < 6; stack++) {
            yard.arrive(5, 0, stack);
        }
        CHECK.same("the lower one alone has no place above it", yard.fewestLifts(0b01), CraneYard.NONE);
        CHECK.same("with the upper one", yard.fewestLifts(0b11), 2);
        CHECK.same("with a light one, whose stack is free then", yard.fewestLifts(0b101), 3);
    }

    /** Dug first, the crate 0 fails: the light crate 2 takes the only stack that could bear the crate 1. */
    private static void anOrderThatFailsDoesNotCount() {
        CraneYard yard = new CraneYard();
        yard.arrive(20, 0, 0);
        yard.arrive(20, 0, 0);
        yard.arrive(5, 0, 0);
        for (int stack = 1; stack < 5; stack++) {
            yard.arrive(4, 0, stack);
        }
        CHECK.same("the top first", yard.fewestLifts(0b101), 3);
        CHECK.same("a place for one only", yard.fewestLifts(0b001), CraneYard.NONE);
        CHECK.same("the middle one first", yard.fewestLifts(0b011), 3);
    }

    private static void noOrderAtAll() {
        CraneYard yard = Yards.with(0, 0, 0, 0, 0);
        for (int stack = 1; stack < 6; stack++) {
            yard.arrive(9, 0, stack);
        }
        CHECK.same("two buried ones", yard.fewestLifts(0b01100), CraneYard.NONE);
        CHECK.same("one of them, and what lies on it", yard.fewestLifts(0b11000), 2);
        CHECK.same("one with a top, one without", yard.fewestLifts(0b10010), CraneYard.NONE);
    }

    private static void theStormCounts() {
        CraneYard yard = Yards.with(0, 0, 1, 1, 1, 2, 2, 2, 3, 3, 3, 4, 4, 4, 5, 5, 5);
        CHECK.same("before the storm", yard.fewestLifts(1), 2);
        yard.storm();
        CHECK.same("in the storm", yard.fewestLifts(1), CraneYard.NONE);
        CHECK.same("in the storm, once another is gone", yard.fewestLifts(1 | 1 << 16), 3);
        yard.pass(1);
        CHECK.same("behind the storm", yard.fewestLifts(1), 2);
    }

    private static void nothingIsChanged() {
        CraneYard yard = Yards.with(0, 0, 0, 1);
        yard.tell(0, 0, 0, -1);
        CHECK.same("fewestLifts", yard.fewestLifts(0b0011), 3);
        CHECK.stack(yard, 0, 0, 1, 2);
        CHECK.stack(yard, 1, 3);
        CHECK.stack(yard, 2);
        CHECK.same("crane", yard.crane(), CraneYard.NONE);
        CHECK.same("lifts", yard.lifts(), 0);
        CHECK.same("bonus", yard.bonus(), 0);
        CHECK.same("again", yard.fewestLifts(0b0011), 3);
    }

    private static void refusesWhatIsNoSet() {
        CraneYard yard = Yards.with(0, 1, 2, 3, 4);
        int[] wrong = {
            0, 0b11111, 1 << 5, 1 | 1 << 5, 1 << 29, 1 << 30, 1 << 31, 1 | 1 << 31, -1, Integer.MAX_VALUE,
        };
        for (int set : wrong) {
            CHECK.outOfRange("fewestLifts(" + set + ")", () -> yard.fewestLifts(set));
        }
        yard.offer(4, 0);
        yard.bid(0, 0, 1);
        yard.give(0);
        yard.lift(4);
        yard.load();
        CHECK.outOfRange("a crate that is gone", () -> yard.fewestLifts(1 << 4));
        yard.lift(0);
        CHECK.outOfRange("the crate 0 on the crane", () -> yard.fewestLifts(0b11));
        CraneYard full = new CraneYard();
        for (int crate = 0; crate < 30; crate++) {
            full.arrive(10, 0, crate % 6);
        }
        CHECK.same("crate 29", full.fewestLifts(1 << 29), 1);
        CHECK.outOfRange("bit 30 of a full yard", () -> full.fewestLifts(1 << 30));
        CHECK.outOfRange("bit 31 of a full yard", () -> full.fewestLifts(1 << 31 | 1));
    }

    private static void refusesWithACrateOnTheCrane() {
        CraneYard yard = Yards.with(0, 1);
        yard.lift(1);
        CHECK.wrongState("a crane that holds one", () -> yard.fewestLifts(1));
        CHECK.outOfRange("the crate on the crane", () -> yard.fewestLifts(2));
        CHECK.outOfRange("out of range goes first", () -> yard.fewestLifts(0));
        yard.drop(1);
        CHECK.same("dropped", yard.fewestLifts(3), 2);
    }
}
