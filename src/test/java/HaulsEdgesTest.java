/** The edges that the document names for hauls, bids and last days; RefusalsTest has what is refused. */
public final class HaulsEdgesTest {
    private static final Check CHECK = new Check();
    private static final int[] DAYS_AHEAD = {0, 1, 2, 50, 99, 100};

    public static void main(String[] args) {
        thereAreAtMost20Hauls();
        haulsThatAreDoneCountToo();
        anyCrateInAStackIsOffered();
        theLastDayIsTodayTo100DaysAhead();
        aHaulIsLateBehindItsLastDay();
        aHaulIsLateOnceALongPassCrossesItsLastDay();
        aHaulIsLoadedOnItsLastDay();
        theLastDayOfAllNeverPasses();
        severalHaulsAreLateAtOnce();
        aLateCrateIsInNoHaul();
        aCrateOnTheCraneBecomesLate();
        fiftyAreOwedAtAnyPrice();
        eachHaulierBidsOnce();
        pricesGoFrom1To1000();
        theLowestPriceGetsIt();
        theLowestHaulierOfSeveralGetsIt();
        aHaulTakesBidsUntilItIsGiven();
        loadAnswersThePriceOfItsOwnHaul();
        statesGoTheirWays();
        CHECK.finish();
    }

    private static void giveAt(CraneYard yard, int haul, int price) {
        yard.bid(haul, 0, price);
        yard.give(haul);
    }

    /** "there are at most 20" */
    private static void thereAreAtMost20Hauls() {
        CraneYard yard = Yards.high(5, 5, 5, 5, 5, 5);
        for (int haul = 0; haul < 20; haul++) {
            int none = haul;
            CHECK.noSuch("a haul that is not yet", () -> yard.state(none));
            CHECK.same("a haul for each crate, from the last one", yard.offer(29 - haul, 0), haul);
            CHECK.same("state", yard.state(haul), CraneYard.OFFERED);
        }
        CHECK.wrongState("a 21st", () -> yard.offer(0, 0));
        CHECK.noSuch("haul 20", () -> yard.state(20));
        yard.bid(19, 0, 1);
        CHECK.same("the 20th is as good as any", yard.give(19), 0);
        CHECK.same("fees", yard.pass(1), 60);
        CHECK.same("all are late", yard.balance(), -60 - 20 * 50);
        CHECK.wrongState("late ones count too", () -> yard.offer(0, 1));
    }

    private static void haulsThatAreDoneCountToo() {
        CraneYard yard = new CraneYard();
        for (int haul = 0; haul < 20; haul++) {
            int crate = yard.arrive(10, 0, 0);
            CHECK.same("haul", yard.offer(crate, 0), haul);
            giveAt(yard, haul, haul + 1);
            yard.lift(0);
            CHECK.same("price", yard.load(), haul + 1);
            CHECK.same("state", yard.state(haul), CraneYard.DONE);
        }
        int crate = yard.arrive(10, 0, 0);
        CHECK.wrongState("a 21st", () -> yard.offer(crate, 0));
        CHECK.same("all prices", yard.balance(), -210);
    }

    /** "for a crate in a stack": on top or buried, in each stack, the first and the last crate. */
    private static void anyCrateInAStackIsOffered() {
        for (int crate = 0; crate < 30; crate++) {
            CraneYard yard = Yards.high(5, 5, 5, 5, 5, 5);
            CHECK.same("crate " + crate, yard.offer(crate, 0), 0);
        }
        CraneYard yard = Yards.with(0);
        yard.lift(0);
        CHECK.wrongState("on the crane", () -> yard.offer(0, 0));
        yard.drop(1);
        CHECK.same("dropped", yard.offer(0, 0), 0);
    }

    /** "today to today + 100", on the first day, on later ones and on the last of all. */
    private static void theLastDayIsTodayTo100DaysAhead() {
        for (int today : new int[] {0, 1, 100, 9900, 9901, 10000}) {
            CraneYard yard = Yards.with(0, 1);
            Yards.passUntil(yard, today);
            CHECK.outOfRange("yesterday, day " + today, () -> yard.offer(0, today - 1));
            CHECK.outOfRange("101 days ahead, day " + today, () -> yard.offer(0, today + 101));
            CHECK.same("today, day " + today, yard.offer(0, today), 0);
            CHECK.same("100 days ahead, day " + today, yard.offer(1, today + 100), 1);
        }
    }

    /** "it is LATE, when its last day passes and it is OFFERED or GIVEN": not before that day has passed. */
    private static void aHaulIsLateBehindItsLastDay() {
        for (int today : new int[] {0, 7, 9899}) {
            for (int ahead : DAYS_AHEAD) {
                CraneYard yard = Yards.with(0, 1);
                Yards.passUntil(yard, today);
                yard.offer(0, today + ahead);
                yard.offer(1, today + ahead);
                giveAt(yard, 1, 9);
                Yards.passUntil(yard, today + ahead);
                CHECK.same("OFFERED on its last day", yard.state(0), CraneYard.OFFERED);
                CHECK.same("GIVEN on its last day", yard.state(1), CraneYard.GIVEN);
                CHECK.same("nothing is owed", yard.balance(), 0);
                CHECK.same("what is owed is no fee", yard.pass(1), 0);
                CHECK.same("LATE behind it", yard.state(0), CraneYard.LATE);
                CHECK.same("LATE behind it", yard.state(1), CraneYard.LATE);
                CHECK.same("50 for each", yard.balance(), -100);
            }
        }
    }

    private static void aHaulIsLateOnceALongPassCrossesItsLastDay() {
        for (int ahead : DAYS_AHEAD) {
            CraneYard yard = Yards.with(0);
            yard.offer(0, ahead);
            yard.pass(100);
            boolean late = ahead < 100;
            CHECK.same("100 days behind", yard.state(0), late ? CraneYard.LATE : CraneYard.OFFERED);
            CHECK.same("owed", yard.balance(), late ? -50 : 0);
            yard.pass(100);
            CHECK.same("200 days behind", yard.state(0), CraneYard.LATE);
            CHECK.same("owed once", yard.balance(), -50);
        }
    }

    private static void aHaulIsLoadedOnItsLastDay() {
        for (int ahead : DAYS_AHEAD) {
            CraneYard yard = Yards.with(0);
            yard.offer(0, ahead);
            Yards.passUntil(yard, ahead);
            yard.bid(0, 3, 8);
            CHECK.same("bid for and given on its last day", yard.give(0), 3);
            yard.lift(0);
            CHECK.same("loaded on its last day", yard.load(), 8);
            yard.pass(1);
            CHECK.same("DONE stays", yard.state(0), CraneYard.DONE);
            CHECK.same("the price alone", yard.balance(), -8);
        }
    }

    /** Today is never above 10000: what ends on the day 9999 becomes late, what ends on 10000 never does. */
    private static void theLastDayOfAllNeverPasses() {
        CraneYard yard = Yards.with(0, 1, 2, 3);
        Yards.passUntil(yard, 9999);
        yard.offer(0, 9999);
        yard.offer(1, 10000);
        yard.offer(2, 10099);
        giveAt(yard, 1, 5);
        yard.pass(1);
        CHECK.same("9999", yard.state(0), CraneYard.LATE);
        CHECK.same("10000", yard.state(1), CraneYard.GIVEN);
        CHECK.same("10099", yard.state(2), CraneYard.OFFERED);
        CHECK.wrongState("a day more", () -> yard.pass(1));
        CHECK.same("10000, behind a refused day", yard.state(1), CraneYard.GIVEN);
        CHECK.same("an offer on the last day", yard.offer(3, 10100), 3);
        yard.dig(1);
        CHECK.same("a load on the last day", yard.load(), 5);
        CHECK.same("balance", yard.balance(), -55);
    }

    /** "then hauls become late by rising numbers": all whose last day it is, and no other. */
    private static void severalHaulsAreLateAtOnce() {
        CraneYard yard = Yards.with(0, 1, 2, 3, 4, 5);
        int[] lastDays = {1, 0, 1, 2, 0, 1};
        for (int crate = 0; crate < 6; crate++) {
            yard.offer(crate, lastDays[crate]);
        }
        giveAt(yard, 2, 3);
        yard.dig(2);
        yard.load();
        for (int today = 1; today <= 3; today++) {
            yard.pass(1);
            for (int haul = 0; haul < 6; haul++) {
                int open = lastDays[haul] < today ? CraneYard.LATE : CraneYard.OFFERED;
                CHECK.same("haul " + haul + " on day " + today, yard.state(haul), haul == 2 ? CraneYard.DONE : open);
            }
        }
        CHECK.same("five late, one done", yard.balance(), -253);
    }

    /** "and the crate is in no haul any more" */
    private static void aLateCrateIsInNoHaul() {
        for (boolean given : new boolean[] {false, true}) {
            CraneYard yard = Yards.with(0);
            yard.offer(0, 0);
            yard.bid(0, 1, 4);
            if (given) {
                yard.give(0);
            }
            CHECK.wrongState("in a haul", () -> yard.offer(0, 0));
            yard.pass(1);
            CHECK.same("in none", yard.offer(0, 1), 1);
            CHECK.same("the new one", yard.state(1), CraneYard.OFFERED);
            CHECK.same("the late one", yard.state(0), CraneYard.LATE);
            yard.bid(1, 1, 6);
            yard.give(1);
            yard.lift(0);
            CHECK.same("the new price", yard.load(), 6);
            CHECK.same("balance", yard.balance(), -56);
        }
    }

    private static void aCrateOnTheCraneBecomesLate() {
        CraneYard yard = Yards.withHaul(0, 4);
        yard.lift(0);
        yard.pass(1);
        CHECK.same("LATE while it hangs", yard.state(0), CraneYard.LATE);
        CHECK.wrongState("not loaded", yard::load);
        CHECK.same("still on the crane", yard.crane(), 0);
        CHECK.wrongState("nor offered from the crane", () -> yard.offer(0, 1));
        yard.drop(5);
        CHECK.same("but from a stack", yard.offer(0, 1), 1);
        CHECK.same("balance", yard.balance(), -50);
    }

    /** "then 50 are owed for it" */
    private static void fiftyAreOwedAtAnyPrice() {
        for (int price : new int[] {1, 50, 1000}) {
            CraneYard yard = Yards.withHaul(0, price);
            CHECK.same("given", yard.balance(), 0);
            yard.pass(1);
            CHECK.same("late", yard.balance(), -50);
        }
    }

    /** "Hauliers 0 to 3 bid for it, each at most once" */
    private static void eachHaulierBidsOnce() {
        for (int haulier = 0; haulier < 4; haulier++) {
            CraneYard yard = Yards.with(0, 1);
            yard.offer(0, 0);
            yard.offer(1, 0);
            int bidder = haulier;
            yard.bid(0, bidder, 500);
            CHECK.wrongState("again, higher", () -> yard.bid(0, bidder, 501));
            CHECK.wrongState("again, the same", () -> yard.bid(0, bidder, 500));
            CHECK.wrongState("again, lower", () -> yard.bid(0, bidder, 499));
            yard.bid(1, bidder, 400);
            CHECK.same("the only one", yard.give(0), haulier);
            CHECK.same("for the other haul too", yard.give(1), haulier);
            yard.lift(0);
            CHECK.same("price", yard.load(), 500);
            yard.lift(1);
            CHECK.same("price", yard.load(), 400);
        }
    }

    /** "1 to 1000" */
    private static void pricesGoFrom1To1000() {
        for (int price : new int[] {1, 2, 999, 1000}) {
            CraneYard yard = Yards.withHaul(0, price);
            yard.lift(0);
            CHECK.same("price", yard.load(), price);
            CHECK.same("balance", yard.balance(), -price);
        }
    }

    /** "it goes to the lowest price": of one to four bids, whosever it is, by one coin. */
    private static void theLowestPriceGetsIt() {
        for (int bidders = 1; bidders < 16; bidders++) {
            for (int cheapest = 0; cheapest < 4; cheapest++) {
                if ((bidders >> cheapest & 1) == 1) {
                    CraneYard yard = bidsOf(bidders, cheapest);
                    CHECK.same("the cheapest of " + bidders, yard.give(0), cheapest);
                    yard.lift(0);
                    CHECK.same("price", yard.load(), 999);
                }
            }
        }
    }

    /** "of several to the haulier with the lowest number" */
    private static void theLowestHaulierOfSeveralGetsIt() {
        for (int bidders = 1; bidders < 16; bidders++) {
            CHECK.same("the lowest of " + bidders, bidsOf(bidders, -1).give(0), Integer.numberOfTrailingZeros(bidders));
        }
        CraneYard yard = Yards.with(0);
        yard.offer(0, 0);
        yard.bid(0, 0, 8);
        yard.bid(0, 3, 7);
        yard.bid(0, 1, 8);
        yard.bid(0, 2, 7);
        CHECK.same("two of four", yard.give(0), 2);
    }

    /** A yard with a haul for which a set of hauliers has bid 1000, from the highest one down, but one of them 999. */
    private static CraneYard bidsOf(int bidders, int cheapest) {
        CraneYard yard = Yards.with(0);
        yard.offer(0, 0);
        for (int haulier = 3; haulier >= 0; haulier--) {
            if ((bidders >> haulier & 1) == 1) {
                yard.bid(0, haulier, haulier == cheapest ? 999 : 1000);
            }
        }
        return yard;
    }

    private static void aHaulTakesBidsUntilItIsGiven() {
        CraneYard yard = Yards.with(0);
        yard.offer(0, 1);
        CHECK.wrongState("nobody has bid", () -> yard.give(0));
        yard.bid(0, 2, 10);
        yard.pass(1);
        yard.bid(0, 1, 9);
        CHECK.same("the later one", yard.give(0), 1);
        CHECK.wrongState("once given", () -> yard.bid(0, 0, 1));
        CHECK.wrongState("once given", () -> yard.give(0));
    }

    /** "Returns the price of its haul": hauls and crates are numbered apart. */
    private static void loadAnswersThePriceOfItsOwnHaul() {
        CraneYard yard = Yards.with(0, 1, 2);
        for (int haul = 0; haul < 3; haul++) {
            yard.offer(2 - haul, 0);
            giveAt(yard, haul, 10 + haul);
        }
        for (int crate = 0; crate < 3; crate++) {
            yard.dig(crate);
            CHECK.same("price", yard.load(), 12 - crate);
            CHECK.same("DONE", yard.state(2 - crate), CraneYard.DONE);
        }
        CHECK.same("balance", yard.balance(), -33);
    }

    private static void statesGoTheirWays() {
        CraneYard yard = Yards.with(0, 1);
        CHECK.noSuch("no haul", () -> yard.state(0));
        yard.offer(0, 0);
        CHECK.same("OFFERED", yard.state(0), 0);
        yard.bid(0, 0, 1);
        CHECK.same("with a bid", yard.state(0), 0);
        yard.give(0);
        CHECK.same("GIVEN", yard.state(0), 1);
        yard.lift(0);
        CHECK.same("on the crane", yard.state(0), 1);
        yard.load();
        CHECK.same("DONE", yard.state(0), 2);
        yard.offer(1, 0);
        yard.pass(1);
        CHECK.same("DONE for good", yard.state(0), 2);
        CHECK.same("LATE", yard.state(1), 3);
        yard.pass(100);
        CHECK.same("LATE for good", yard.state(1), 3);
    }
}
