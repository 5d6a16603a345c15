/** Promises 20 to 23: storms, days that pass, and the balance. */
public final class DaysTest {
    private static final Check CHECK = new Check();

    public static void main(String[] args) {
        stormCountsWhatIsTooHigh();
        aStormLastsOneDay();
        higherCratesStay();
        passAnswersTheFees();
        theCrateOnTheCraneCostsNothing();
        passRefuses();
        todayEndsAtTenThousand();
        haulsAreLateBehindTheirLastDay();
        balanceAddsItAllUp();
        CHECK.finish();
    }

    private static void stormCountsWhatIsTooHigh() {
        CHECK.same("an empty yard", new CraneYard().storm(), 0);
        CHECK.same("three high", Yards.with(0, 0, 0, 5, 5, 5).storm(), 0);
        CHECK.same("four high", Yards.with(0, 0, 0, 0, 1).storm(), 1);
        CraneYard yard = Yards.with(0, 0, 0, 0, 0, 5, 5, 5, 5, 2, 2, 1);
        CHECK.same("five and four high", yard.storm(), 3);
        CHECK.same("told again", yard.storm(), 3);
        yard.lift(0);
        CHECK.same("told again behind a lift", yard.storm(), 2);
    }

    private static void aStormLastsOneDay() {
        CraneYard yard = Yards.with(0, 0, 0);
        yard.storm();
        yard.storm();
        CHECK.wrongState("on its day", () -> yard.arrive(10, 0, 0));
        yard.pass(1);
        CHECK.same("on the next one", yard.arrive(10, 0, 0), 3);
        yard.storm();
        CHECK.same("a storm tells no fees", yard.pass(3), 18);
        CHECK.same("days behind it", yard.arrive(10, 0, 0), 4);
    }

    private static void higherCratesStay() {
        CraneYard yard = Yards.with(0, 0, 0, 0, 0);
        yard.storm();
        CHECK.stack(yard, 0, 0, 1, 2, 3, 4);
        CHECK.same("a crate that is higher can be lifted", yard.lift(0), 4);
        CHECK.wrongState("but not put back", () -> yard.drop(0));
        CHECK.same("only elsewhere", yard.drop(1), 1);
        CHECK.same("and dug out", yard.dig(3), 1);
    }

    private static void passAnswersTheFees() {
        int[] fees = {0, 0, 1, 3, 6, 10};
        for (int height = 0; height <= 5; height++) {
            CHECK.same("the fee for " + height, Yards.with(new int[height]).pass(1), fees[height]);
        }
        CraneYard yard = Yards.with(0, 0, 0, 5, 5, 3);
        CHECK.same("one day", yard.pass(1), 4);
        CHECK.same("a hundred days", yard.pass(100), 400);
        CHECK.same("today", yard.today(), 101);
        yard.lift(0);
        yard.drop(1);
        CHECK.same("a day with less", yard.pass(1), 2);
        CHECK.same("balance", yard.balance(), -406);
    }

    private static void theCrateOnTheCraneCostsNothing() {
        CraneYard yard = Yards.with(0, 0, 0);
        yard.lift(0);
        CHECK.same("fees", yard.pass(2), 2);
        CHECK.same("crane", yard.crane(), 2);
    }

    private static void passRefuses() {
        CraneYard yard = Yards.with(0, 0);
        int[] wrong = {0, -1, 101, Integer.MIN_VALUE, Integer.MAX_VALUE};
        for (int days : wrong) {
            CHECK.outOfRange("pass(" + days + ")", () -> yard.pass(days));
        }
        CHECK.same("today", yard.today(), 0);
        CHECK.same("balance", yard.balance(), 0);
    }

    private static void todayEndsAtTenThousand() {
        CraneYard yard = Yards.with(0, 0);
        for (int times = 0; times < 99; times++) {
            yard.pass(100);
        }
        yard.pass(99);
        CHECK.same("today", yard.today(), 9999);
        yard.storm();
        CHECK.wrongState("two days", () -> yard.pass(2));
        CHECK.outOfRange("out of range goes first", () -> yard.pass(101));
        CHECK.same("today is as before", yard.today(), 9999);
        CHECK.same("the fees are as before", yard.balance(), -9999);
        yard.arrive(10, 0, 0);
        CHECK.wrongState("the storm is as before", () -> yard.arrive(10, 0, 0));
        CHECK.same("one day", yard.pass(1), 3);
        CHECK.same("the last day", yard.today(), 10000);
        CHECK.wrongState("a day more", () -> yard.pass(1));
        CHECK.same("a haul may end later", yard.offer(0, 10100), 0);
        CHECK.outOfRange("but not much", () -> yard.offer(1, 10101));
    }

    private static void haulsAreLateBehindTheirLastDay() {
        CraneYard yard = Yards.with(0, 1, 2);
        yard.offer(0, 0);
        yard.offer(1, 2);
        yard.offer(2, 4);
        yard.bid(1, 0, 9);
        yard.give(1);
        CHECK.same("what is owed is no fee", yard.pass(2), 0);
        CHECK.same("on the last day of the second", yard.state(1), CraneYard.GIVEN);
        CHECK.same("behind the first one's", yard.state(0), CraneYard.LATE);
        CHECK.same("owed", yard.balance(), -50);
        yard.pass(2);
        CHECK.same("behind the second one's", yard.state(1), CraneYard.LATE);
        CHECK.same("on the third one's", yard.state(2), CraneYard.OFFERED);
        CHECK.same("owed", yard.balance(), -100);
        yard.pass(100);
        CHECK.same("all late", yard.balance(), -150);
        yard.pass(100);
        CHECK.same("owed once only", yard.balance(), -150);
    }

    private static void balanceAddsItAllUp() {
        CraneYard yard = Yards.showing(1, 2, 3);
        yard.tell(1, 2, 3, CraneYard.NONE);
        yard.arrive(10, 4, 0);
        yard.offer(1, 1);
        yard.offer(2, 0);
        yard.bid(0, 2, 33);
        yard.give(0);
        CHECK.same("bonus alone", yard.balance(), 300);
        yard.pass(1);
        CHECK.same("less a fee and what is owed", yard.balance(), 300 - 1 - 50);
        yard.lift(1);
        yard.load();
        CHECK.same("less a price", yard.balance(), 300 - 1 - 50 - 33);
        CHECK.same("the bonus is as before", yard.bonus(), 300);
    }
}
