/** The edges of promise 11: which sets are allowed, full and empty yards; RefusalsTest has what is refused. */
public final class FewestLiftsEdgesTest {
    private static final Check CHECK = new Check();
    private static final int NONE = CraneYard.NONE;

    public static void main(String[] args) {
        oneToFourCratesAreASet();
        bitCStandsForCrateC();
        aFullYardHasPlacesOnceCratesAreGone();
        theOrderOfTheNumbersIsOneOfAll();
        fiveLiftsForTheLowestOfFive();
        noneIfNoOrderGoes();
        aStormDaysHeightHolds();
        cratesThatAreHigherAreDugInAStorm();
        nothingIsChanged();
        CHECK.finish();
    }

    private static CraneYard full() {
        return Yards.high(5, 5, 5, 5, 5, 5);
    }

    private static int set(int... crates) {
        int set = 0;
        for (int crate : crates) {
            set |= 1 << crate;
        }
        return set;
    }

    /** "1 to 4 crates" */
    private static void oneToFourCratesAreASet() {
        CraneYard yard = Yards.with(0, 1, 2, 3, 4);
        CHECK.outOfRange("no crate", () -> yard.fewestLifts(0));
        CHECK.same("one", yard.fewestLifts(set(4)), 1);
        CHECK.same("two", yard.fewestLifts(set(0, 4)), 2);
        CHECK.same("three", yard.fewestLifts(set(0, 2, 4)), 3);
        CHECK.same("four", yard.fewestLifts(set(0, 1, 2, 4)), 4);
        CHECK.outOfRange("five", () -> yard.fewestLifts(set(0, 1, 2, 3, 4)));
    }

    /** "bit c stands for the crate c": each of the thirty alone, and no other bit. */
    private static void bitCStandsForCrateC() {
        CraneYard yard = new CraneYard();
        CHECK.outOfRange("a crate of an empty yard", () -> yard.fewestLifts(1));
        for (int crate = 0; crate < 30; crate++) {
            int bit = 1 << crate;
            CHECK.outOfRange("crate " + crate + " before it arrives", () -> yard.fewestLifts(bit));
            yard.arrive(10, 0, crate % 6);
            CHECK.same("crate " + crate, yard.fewestLifts(bit), 1);
        }
        for (int crate = 0; crate < 30; crate++) {
            CHECK.same("crate " + crate + " of 30", yard.fewestLifts(1 << crate), crate < 24 ? NONE : 1);
        }
        CHECK.outOfRange("bit 30", () -> yard.fewestLifts(1 << 30));
        CHECK.outOfRange("bit 31", () -> yard.fewestLifts(1 << 31));
    }

    /** "each being gone behind that" */
    private static void aFullYardHasPlacesOnceCratesAreGone() {
        CHECK.same("four tops", full().fewestLifts(set(4, 9, 24, 29)), 4);
        CHECK.same("the upper four of a stack", full().fewestLifts(set(1, 2, 3, 4)), 4);
        CHECK.same("three tops and the one below", full().fewestLifts(set(4, 3, 14, 29)), 4);
        CHECK.same("a top, and one below another top", full().fewestLifts(set(3, 29)), 3);
        CHECK.same("three places for what lies on the lowest but one", full().fewestLifts(set(1, 9, 14, 29)), 7);
        CHECK.same("a place too few", full().fewestLifts(set(1, 9, 14)), NONE);
        CHECK.same("a crate that is not a top", full().fewestLifts(set(3)), NONE);
    }

    /** The same two crates, one lying free, one buried, numbered either way: only the free one first goes. */
    private static void theOrderOfTheNumbersIsOneOfAll() {
        for (int free = 0; free < 6; free++) {
            for (int buried = 0; buried < 6; buried++) {
                int due = free == buried ? 2 : 3;
                int set = set(free * 5 + 4, buried * 5 + 3);
                CHECK.same("stacks " + free + " and " + buried, full().fewestLifts(set), due);
            }
        }
    }

    private static void fiveLiftsForTheLowestOfFive() {
        for (int stack = 0; stack < 6; stack++) {
            int[] heights = new int[6];
            heights[stack] = 5;
            CraneYard yard = Yards.high(heights);
            CHECK.same("the lowest", yard.fewestLifts(set(0)), 5);
            CHECK.same("the lowest and the top", yard.fewestLifts(set(0, 4)), 5);
            CHECK.same("the lowest four", yard.fewestLifts(set(0, 1, 2, 3)), 5);
        }
    }

    /** "NONE if it cannot be done in any order": also if only one of four can't be dug out. */
    private static void noneIfNoOrderGoes() {
        CraneYard yard = Yards.with(0, 0);
        Yards.arrive(yard, 9, 0, 1, 2, 3, 4, 5, 5);
        CHECK.same("the buried one", yard.fewestLifts(set(0)), NONE);
        CHECK.same("with one of two light ones on a stack", yard.fewestLifts(set(0, 7)), NONE);
        CHECK.same("with both, the stack being empty then", yard.fewestLifts(set(0, 6, 7)), 4);
        CHECK.same("with three light ones", yard.fewestLifts(set(0, 2, 3, 4)), 5);
        CHECK.same("with what lies on it", yard.fewestLifts(set(0, 1)), 2);
    }

    private static void aStormDaysHeightHolds() {
        CraneYard yard = Yards.high(2, 3, 3, 3, 3, 3);
        CHECK.same("an ordinary day", yard.fewestLifts(set(0)), 2);
        yard.storm();
        CHECK.same("a storm day", yard.fewestLifts(set(0)), NONE);
        CHECK.same("with a place, once a top is gone", yard.fewestLifts(set(0, 16)), 3);
        CHECK.same("two high stacks and the tops", yard.fewestLifts(set(0, 1, 16)), 3);
        yard.pass(1);
        CHECK.same("the next day", yard.fewestLifts(set(0)), 2);
        CraneYard lower = Yards.high(2, 3, 3, 2, 3, 3);
        lower.storm();
        CHECK.same("onto two, on a storm day", lower.fewestLifts(set(0)), 2);
    }

    /** "crates that are higher stay": a top that goes from four high leaves no place on a storm day. */
    private static void cratesThatAreHigherAreDugInAStorm() {
        CraneYard yard = Yards.high(2, 4, 4, 4, 4, 4);
        yard.storm();
        CHECK.same("a top of four", yard.fewestLifts(set(5)), 1);
        CHECK.same("a top of four, and the buried one", yard.fewestLifts(set(0, 5)), NONE);
        CHECK.same("two of four, and the buried one", yard.fewestLifts(set(0, 4, 5)), 4);
    }

    /** "nothing is changed": neither by an answer nor by NONE. */
    private static void nothingIsChanged() {
        CraneYard asked = Yards.high(3, 2, 5, 1);
        CraneYard twin = Yards.high(3, 2, 5, 1);
        for (int set : new int[] {set(0), set(0, 3, 5, 10), set(9, 5), set(6, 7, 8, 9)}) {
            CHECK.yes("it can be done", asked.fewestLifts(set) > 0);
        }
        CHECK.yes("the yard is as before", Probe.everything(asked, true).equals(Probe.everything(twin, true)));
        CraneYard askedFull = full();
        CHECK.same("it cannot be done", askedFull.fewestLifts(set(0, 29)), NONE);
        CHECK.same("it cannot be done", askedFull.fewestLifts(set(0, 5, 10, 15)), NONE);
        CHECK.yes("the full yard is as before",
                Probe.everything(askedFull, true).equals(Probe.everything(full(), true)));
    }
}
