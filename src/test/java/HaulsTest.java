/** Promises 15 to 19: hauls, the bids for them, and loads. */
public final class HaulsTest {
    private static final Check CHECK = new Check();

    public static void main(String[] args) {
        offerNumbersHauls();
        offerRefuses();
        aCrateIsInOneOpenHaul();
        aCrateIsOfferedAgainOnceLate();
        thereAreTwentyHauls();
        bidRefuses();
        eachHaulierBidsOnce();
        theLowestPriceGets();
        theLowestHaulierOfSeveralGets();
        giveRefuses();
        loadTakesTheCrateAway();
        loadRefuses();
        loadAsksForTheCratesLastHaul();
        haulsGoOnWhileTheCrateHangs();
        stateFollowsAHaul();
        CHECK.finish();
    }

    private static void offerNumbersHauls() {
        CraneYard yard = Yards.with(0, 0, 1);
        yard.pass(3);
        CHECK.same("today", yard.offer(2, 3), 0);
        CHECK.same("today + 100, a buried crate", yard.offer(0, 103), 1);
        CHECK.same("state", yard.state(0), CraneYard.OFFERED);
        CHECK.same("state", yard.state(1), CraneYard.OFFERED);
    }

    private static void offerRefuses() {
        CraneYard yard = Yards.with(0, 0);
        yard.pass(5);
        int[] wrongCrates = {-1, 2, 30, Integer.MIN_VALUE, Integer.MAX_VALUE};
        for (int crate : wrongCrates) {
            CHECK.noSuch("offer(" + crate + ", 5)", () -> yard.offer(crate, 5));
            CHECK.noSuch("no such crate goes first", () -> yard.offer(crate, -1));
        }
        int[] wrongDays = {4, 106, -1, Integer.MIN_VALUE, Integer.MAX_VALUE};
        for (int lastDay : wrongDays) {
            CHECK.outOfRange("offer(0, " + lastDay + ")", () -> yard.offer(0, lastDay));
        }
        yard.lift(0);
        CHECK.wrongState("the crate on the crane", () -> yard.offer(1, 5));
        CHECK.outOfRange("out of range goes first", () -> yard.offer(1, 4));
        CHECK.noSuch("no haul has come to be", () -> yard.state(0));
    }

    private static void aCrateIsInOneOpenHaul() {
        CraneYard yard = Yards.with(0, 1);
        yard.offer(0, 10);
        CHECK.wrongState("in a haul that is OFFERED", () -> yard.offer(0, 20));
        CHECK.outOfRange("out of range goes first", () -> yard.offer(0, 101));
        yard.bid(0, 0, 5);
        yard.give(0);
        CHECK.wrongState("in a haul that is GIVEN", () -> yard.offer(0, 20));
        CHECK.same("the other crate", yard.offer(1, 20), 1);
    }

    private static void aCrateIsOfferedAgainOnceLate() {
        CraneYard yard = Yards.with(0);
        yard.offer(0, 0);
        yard.bid(0, 0, 5);
        yard.pass(1);
        CHECK.same("late", yard.state(0), CraneYard.LATE);
        CHECK.same("offered again", yard.offer(0, 1), 1);
        CHECK.wrongState("the old bids are not the new haul's", () -> yard.give(1));
        yard.bid(1, 0, 6);
        yard.give(1);
        yard.pass(1);
        CHECK.same("given, and late", yard.state(1), CraneYard.LATE);
        CHECK.same("and offered again", yard.offer(0, 2), 2);
    }

    private static void thereAreTwentyHauls() {
        CraneYard yard = Yards.with(0);
        for (int haul = 0; haul < 20; haul++) {
            CHECK.same("haul", yard.offer(0, haul), haul);
            yard.bid(haul, 3, haul + 1);
            yard.pass(1);
        }
        CHECK.wrongState("a haul more than 20", () -> yard.offer(0, 20));
        CHECK.noSuch("no such crate goes first", () -> yard.offer(1, 20));
        CHECK.outOfRange("out of range goes first", () -> yard.offer(0, 19));
        CHECK.noSuch("haul 20", () -> yard.state(20));
        CHECK.same("haul 19", yard.state(19), CraneYard.LATE);
        CHECK.same("owed", yard.balance(), -1000);
    }

    private static void bidRefuses() {
        CraneYard yard = Yards.with(0);
        yard.offer(0, 0);
        int[] wrongHauls = {-1, 1, 20, Integer.MIN_VALUE, Integer.MAX_VALUE};
        for (int haul : wrongHauls) {
            CHECK.noSuch("bid(" + haul + ", 0, 1)", () -> yard.bid(haul, 0, 1));
            CHECK.noSuch("no such haul goes first", () -> yard.bid(haul, 4, 0));
        }
        int[] wrongHauliers = {-1, 4, Integer.MIN_VALUE, Integer.MAX_VALUE};
        for (int haulier : wrongHauliers) {
            CHECK.outOfRange("bid(0, " + haulier + ", 1)", () -> yard.bid(0, haulier, 1));
        }
        int[] wrongPrices = {0, -1, 1001, Integer.MIN_VALUE, Integer.MAX_VALUE};
        for (int price : wrongPrices) {
            CHECK.outOfRange("bid(0, 0, " + price + ")", () -> yard.bid(0, 0, price));
        }
        yard.bid(0, 0, 1000);
        CHECK.outOfRange("out of range goes before a second bid", () -> yard.bid(0, 0, 1001));
        yard.give(0);
        CHECK.wrongState("GIVEN", () -> yard.bid(0, 1, 1));
        CHECK.outOfRange("out of range goes first", () -> yard.bid(0, 4, 1));
        yard.pass(1);
        CHECK.wrongState("LATE", () -> yard.bid(0, 1, 1));
    }

    private static void eachHaulierBidsOnce() {
        CraneYard yard = Yards.with(0, 1);
        yard.offer(0, 0);
        yard.offer(1, 0);
        for (int haulier = 0; haulier < 4; haulier++) {
            int bidder = haulier;
            yard.bid(0, bidder, 10 + bidder);
            CHECK.wrongState("a second bid", () -> yard.bid(0, bidder, 1));
            yard.bid(1, bidder, 20 - bidder);
        }
        CHECK.same("the second bids count nothing", yard.give(0), 0);
        CHECK.same("the other haul's bids are its own", yard.give(1), 3);
        yard.lift(0);
        CHECK.same("the first price", yard.load(), 10);
    }

    private static void theLowestPriceGets() {
        CraneYard yard = Yards.with(0);
        yard.offer(0, 0);
        yard.bid(0, 0, 1000);
        yard.bid(0, 2, 1);
        yard.bid(0, 1, 2);
        CHECK.same("haulier", yard.give(0), 2);
        yard.lift(0);
        CHECK.same("price", yard.load(), 1);
    }

    private static void theLowestHaulierOfSeveralGets() {
        CraneYard yard = Yards.with(0);
        yard.offer(0, 0);
        yard.bid(0, 3, 40);
        yard.bid(0, 2, 40);
        yard.bid(0, 0, 41);
        yard.bid(0, 1, 40);
        CHECK.same("haulier", yard.give(0), 1);
    }

    private static void giveRefuses() {
        CraneYard yard = Yards.with(0, 1);
        yard.offer(0, 0);
        int[] wrong = {-1, 1, 20, Integer.MIN_VALUE, Integer.MAX_VALUE};
        for (int haul : wrong) {
            CHECK.noSuch("give(" + haul + ")", () -> yard.give(haul));
        }
        CHECK.wrongState("nobody has bid", () -> yard.give(0));
        CHECK.same("still OFFERED", yard.state(0), CraneYard.OFFERED);
        yard.bid(0, 3, 9);
        CHECK.same("the one that has bid", yard.give(0), 3);
        CHECK.wrongState("given twice", () -> yard.give(0));
        yard.offer(1, 0);
        yard.bid(1, 0, 1);
        yard.pass(1);
        CHECK.wrongState("LATE", () -> yard.give(1));
    }

    private static void loadTakesTheCrateAway() {
        CraneYard yard = Yards.withHaul(0, 1000);
        yard.lift(0);
        CHECK.same("given prices are not paid yet", yard.balance(), 0);
        CHECK.same("price", yard.load(), 1000);
        CHECK.same("balance", yard.balance(), -1000);
        CHECK.same("state", yard.state(0), CraneYard.DONE);
        CHECK.same("crane", yard.crane(), CraneYard.NONE);
        CHECK.same("stackOf", yard.stackOf(0), CraneYard.NONE);
        CHECK.same("height", yard.height(0), 0);
        CHECK.wrongState("a crate that is gone is not offered", () -> yard.offer(0, 0));
        CHECK.same("the next number", yard.arrive(10, 0, 0), 1);
        yard.pass(1);
        CHECK.same("DONE is never LATE", yard.state(0), CraneYard.DONE);
        CHECK.same("and nothing is owed", yard.balance(), -1000);
    }

    private static void loadRefuses() {
        CraneYard yard = Yards.withHaul(5, 30);
        yard.arrive(10, 0, 1);
        CHECK.wrongState("an empty crane", yard::load);
        yard.lift(1);
        CHECK.wrongState("a crate in no haul", yard::load);
        yard.drop(1);
        yard.offer(1, 5);
        yard.bid(1, 0, 3);
        yard.lift(1);
        CHECK.wrongState("a crate in a haul that is OFFERED", yard::load);
        CHECK.same("crane", yard.crane(), 1);
        CHECK.same("state", yard.state(1), CraneYard.OFFERED);
        yard.give(1);
        yard.pass(6);
        CHECK.wrongState("a crate in a haul that was late", yard::load);
        CHECK.same("balance", yard.balance(), -100);
    }

    private static void loadAsksForTheCratesLastHaul() {
        CraneYard yard = Yards.withHaul(0, 30);
        yard.pass(1);
        yard.offer(0, 9);
        yard.bid(1, 2, 77);
        yard.lift(0);
        CHECK.wrongState("only OFFERED", yard::load);
        yard.give(1);
        CHECK.same("price", yard.load(), 77);
        CHECK.same("the late one", yard.state(0), CraneYard.LATE);
        CHECK.same("the done one", yard.state(1), CraneYard.DONE);
        CHECK.same("balance", yard.balance(), -127);
    }

    private static void haulsGoOnWhileTheCrateHangs() {
        CraneYard yard = Yards.with(0, 1);
        yard.offer(0, 3);
        yard.lift(0);
        yard.bid(0, 1, 12);
        CHECK.same("given while it hangs", yard.give(0), 1);
        yard.drop(1);
        CHECK.wrongState("still in its haul", () -> yard.offer(0, 3));
        yard.dig(0);
        CHECK.same("loaded", yard.load(), 12);
    }

    private static void stateFollowsAHaul() {
        CraneYard yard = Yards.with(0, 1);
        yard.offer(0, 1);
        yard.offer(1, 0);
        CHECK.same("OFFERED", yard.state(0), 0);
        yard.bid(0, 0, 1);
        CHECK.same("a bid changes nothing", yard.state(0), 0);
        yard.give(0);
        CHECK.same("GIVEN", yard.state(0), 1);
        yard.pass(1);
        CHECK.same("GIVEN on its last day", yard.state(0), 1);
        CHECK.same("LATE", yard.state(1), 3);
        yard.lift(0);
        yard.load();
        CHECK.same("DONE", yard.state(0), 2);
        int[] wrong = {-1, 2, 20, Integer.MIN_VALUE, Integer.MAX_VALUE};
        for (int haul : wrong) {
            CHECK.noSuch("state(" + haul + ")", () -> yard.state(haul));
        }
    }
}
