/** The edges that the document names for days, storms, fees and the balance; RefusalsTest has what is refused. */
public final class DaysEdgesTest {
    private static final Check CHECK = new Check();
    private static final int NONE = CraneYard.NONE;
    private static final int LAST_DAY = 10000;

    public static void main(String[] args) {
        todayIs0AtFirst();
        oneToAHundredDaysPass();
        todayIsNeverAbove10000();
        aCrateCostsWhatLiesOnIt();
        cratesInNoStackCostNothing();
        aFullYardCostsSixtyADay();
        thePassAnswersItsOwnFeesAlone();
        stormCountsWhatIsAboveThree();
        aStormEndsWithItsDay();
        theStormOfTheLastDayStays();
        aStormCanBeToldAtAnyTime();
        balanceOfEachPartAlone();
        balanceOfGivenHaulsIsNone();
        balanceOfAWholeLife();
        CHECK.finish();
    }

    /** "today is 0 at first"; other calls leave it there. */
    private static void todayIs0AtFirst() {
        CraneYard yard = new CraneYard();
        CHECK.same("a new yard", yard.today(), 0);
        CHECK.same("its balance", yard.balance(), 0);
        yard.storm();
        yard.arrive(10, 0, 0);
        yard.offer(0, 5);
        CHECK.same("behind other calls", yard.today(), 0);
    }

    /** "1 to 100" */
    private static void oneToAHundredDaysPass() {
        for (int days : new int[] {1, 2, 99, 100}) {
            CraneYard yard = Yards.high(2);
            CHECK.same("fees of " + days, yard.pass(days), days);
            CHECK.same("today", yard.today(), days);
            CHECK.same("fees of " + days + " more", yard.pass(days), days);
            CHECK.same("today", yard.today(), 2 * days);
        }
        CraneYard empty = new CraneYard();
        CHECK.outOfRange("no day", () -> empty.pass(0));
        CHECK.outOfRange("101 days", () -> empty.pass(101));
        CHECK.same("an empty yard costs nothing", empty.pass(100), 0);
    }

    /** "if today would be above 10000": up to 10000, and not beyond, by steps of any length. */
    private static void todayIsNeverAbove10000() {
        for (int step : new int[] {1, 2, 50, 99, 100}) {
            CraneYard yard = Yards.high(2);
            Yards.passUntil(yard, LAST_DAY - step);
            if (step < 100) {
                CHECK.wrongState("a day too much", () -> yard.pass(step + 1));
            }
            CHECK.same("the fees of the last days", yard.pass(step), step);
            CHECK.same("today", yard.today(), LAST_DAY);
            CHECK.wrongState("a day more", () -> yard.pass(1));
            CHECK.wrongState("a hundred days more", () -> yard.pass(100));
            CHECK.outOfRange("out of range goes first", () -> yard.pass(0));
            CHECK.outOfRange("out of range goes first", () -> yard.pass(101));
            CHECK.same("today", yard.today(), LAST_DAY);
            CHECK.same("all fees", yard.balance(), -LAST_DAY);
        }
    }

    /** "each crate that lies in a stack costs a fee of as many coins as crates lie on it" */
    private static void aCrateCostsWhatLiesOnIt() {
        int[] due = {0, 0, 1, 1 + 2, 1 + 2 + 3, 1 + 2 + 3 + 4};
        for (int stack = 0; stack < 6; stack++) {
            for (int height = 0; height <= 5; height++) {
                int[] heights = new int[6];
                heights[stack] = height;
                CraneYard yard = Yards.high(heights);
                CHECK.same("the fee for " + height, yard.pass(1), due[height]);
                yard.storm();
                CHECK.same("the fee of a storm day", yard.pass(1), due[height]);
                CHECK.same("balance", yard.balance(), -2 * due[height]);
            }
        }
    }

    /** "that lies in a stack": the crate on the crane neither costs nor lies on any, nor does one that is gone. */
    private static void cratesInNoStackCostNothing() {
        CraneYard yard = Yards.high(5);
        yard.offer(4, 100);
        yard.bid(0, 0, 1);
        yard.give(0);
        CHECK.same("five", yard.pass(1), 10);
        yard.lift(0);
        CHECK.same("four and one on the crane", yard.pass(1), 6);
        yard.load();
        CHECK.same("four and one gone", yard.pass(1), 6);
        CraneYard one = Yards.high(2);
        one.lift(0);
        CHECK.same("one and one on the crane", one.pass(100), 0);
    }

    private static void aFullYardCostsSixtyADay() {
        CraneYard yard = Yards.high(5, 5, 5, 5, 5, 5);
        CHECK.same("a day", yard.pass(1), 60);
        CHECK.same("a hundred days", yard.pass(100), 6000);
        Yards.passUntil(yard, LAST_DAY);
        CHECK.same("all days", yard.balance(), -60 * LAST_DAY);
    }

    /** "Returns the fees of these days together": neither earlier ones, nor bonuses, prices, or what is owed. */
    private static void thePassAnswersItsOwnFeesAlone() {
        CraneYard yard = Yards.high(3, 2, 1);
        yard.tell(0, 0, 0, NONE);
        yard.offer(0, 0);
        yard.offer(5, 1);
        yard.bid(1, 0, 700);
        yard.give(1);
        CHECK.same("a haul becomes late", yard.pass(1), 4);
        yard.lift(2);
        yard.load();
        CHECK.same("a price was paid", yard.pass(2), 8);
        yard.lift(1);
        yard.drop(3);
        CHECK.same("two stand alone", yard.pass(10), 30);
        CHECK.same("balance", yard.balance(), 300 - 42 - 700 - 50);
    }

    /** "how many crates are higher than crates may be put" */
    private static void stormCountsWhatIsAboveThree() {
        int[] due = {0, 0, 0, 0, 1, 2};
        for (int stack = 0; stack < 6; stack++) {
            for (int height = 0; height <= 5; height++) {
                int[] heights = new int[6];
                heights[stack] = height;
                CHECK.same("higher ones of " + height, Yards.high(heights).storm(), due[height]);
            }
        }
        CraneYard full = Yards.high(5, 5, 5, 5, 5, 5);
        CHECK.same("a full yard", full.storm(), 12);
        CHECK.same("told again", full.storm(), 12);
        full.lift(0);
        CHECK.same("one on the crane", full.storm(), 11);
        CHECK.same("each three high", Yards.high(3, 3, 3, 3, 3, 3).storm(), 0);
        CHECK.same("each four high", Yards.high(4, 4, 4, 4, 4, 4).storm(), 6);
    }

    /** "then the next day begins, which is no storm day, unless it was told": on any day, and behind any pass. */
    private static void aStormEndsWithItsDay() {
        for (int today : new int[] {0, 1, 99, 100, 9899}) {
            for (int days : new int[] {1, 2, 100}) {
                CraneYard yard = Yards.high(3);
                Yards.passUntil(yard, today);
                yard.storm();
                CHECK.wrongState("a fourth on the storm day", () -> yard.arrive(10, 0, 0));
                yard.pass(days);
                CHECK.same("a fourth behind it", yard.arrive(10, 0, 0), 3);
                CHECK.same("told for that day too", yard.storm(), 1);
                CHECK.wrongState("a fifth on the next storm day", () -> yard.arrive(10, 0, 0));
                yard.pass(1);
                CHECK.same("a fifth behind it", yard.arrive(10, 0, 0), 4);
                CHECK.wrongState("never a sixth", () -> yard.arrive(10, 0, 0));
            }
        }
    }

    private static void theStormOfTheLastDayStays() {
        CraneYard yard = Yards.high(3);
        Yards.passUntil(yard, LAST_DAY);
        CHECK.same("no storm yet", yard.arrive(10, 0, 0), 3);
        CHECK.same("storm", yard.storm(), 1);
        CHECK.wrongState("no day passes", () -> yard.pass(1));
        CHECK.wrongState("a fifth", () -> yard.arrive(10, 0, 0));
        CHECK.same("a third elsewhere", yard.arrive(10, 0, 1), 4);
    }

    /** In an empty yard, before the crates of that day arrive, and with a crate on the crane. */
    private static void aStormCanBeToldAtAnyTime() {
        CraneYard yard = new CraneYard();
        CHECK.same("an empty yard", yard.storm(), 0);
        Yards.arrive(yard, 10, 0, 4, 4, 4);
        CHECK.wrongState("a fourth", () -> yard.arrive(10, 0, 4));
        CraneYard hanging = Yards.high(4);
        hanging.lift(0);
        CHECK.same("what hangs is not too high", hanging.storm(), 0);
        CHECK.wrongState("but is not put back", () -> hanging.drop(0));
        hanging.pass(1);
        CHECK.same("before the next day", hanging.drop(0), 4);
    }

    /** "all bonuses less all fees, less prices of hauls that are DONE, and less what is owed" for those LATE. */
    private static void balanceOfEachPartAlone() {
        CraneYard bonus = Yards.with(0, 1);
        bonus.tell(0, 0, NONE, NONE);
        CHECK.same("a bonus", bonus.balance(), 200);
        CraneYard fee = Yards.with(0, 0);
        fee.pass(1);
        CHECK.same("a fee", fee.balance(), -1);
        CraneYard done = Yards.withHaul(0, 1);
        done.lift(0);
        done.load();
        CHECK.same("the lowest price", done.balance(), -1);
        CraneYard late = Yards.withHaul(0, 1);
        late.pass(1);
        CHECK.same("what is owed", late.balance(), -50);
        CHECK.same("a bonus is no less for the rest", late.bonus(), 0);
    }

    private static void balanceOfGivenHaulsIsNone() {
        CraneYard yard = Yards.withHaul(9, 1000);
        CHECK.same("given", yard.balance(), 0);
        yard.lift(0);
        CHECK.same("lifted", yard.balance(), 0);
        yard.pass(9);
        CHECK.same("on the last day", yard.balance(), 0);
        yard.load();
        CHECK.same("loaded", yard.balance(), -1000);
    }

    private static void balanceOfAWholeLife() {
        CraneYard yard = Yards.high(5, 5, 5, 5, 5, 5);
        for (int word = 0; word < 8; word++) {
            yard.tell(0, 0, 0, 0);
        }
        for (int haul = 0; haul < 20; haul++) {
            yard.offer(haul, 0);
            yard.bid(haul, 3, 1000);
            yard.give(haul);
        }
        yard.dig(4);
        yard.load();
        yard.dig(3);
        yard.load();
        Yards.passUntil(yard, LAST_DAY);
        CHECK.same("bonus", yard.bonus(), 3200);
        CHECK.same("balance", yard.balance(), 3200 - LAST_DAY * (5 * 10 + 3) - 2 * 1000 - 18 * 50);
    }
}
