/** The edges that the document names for words and lids; RefusalsTest has what is refused. */
public final class WordsEdgesTest {
    private static final Check CHECK = new Check();
    private static final int NONE = CraneYard.NONE;

    public static void main(String[] args) {
        lettersGoFrom0To25();
        aWordHasTwoToFourLetters();
        aWordNeedsAsManyLids();
        aWordStandsAnywhereOnTheLids();
        emptyStacksArePassedOver();
        lidsAreReadByRisingStacks();
        lidsAreTopsAlone();
        theFirstAndTheEighthWordPay();
        aNinthWordIsNone();
        eachWordPaysOnce();
        eachCallThatChangesStacksPaysBehindIt();
        lidsOnTheWayOfADigDoNotCount();
        wordsThatArePaidStay();
        theBonusIsAHundredALetter();
        CHECK.finish();
    }

    private static CraneYard sixLids() {
        return Yards.showing(10, 11, 12, 13, 14, 15);
    }

    /** Tells a word of so many letters, first, first + step, ... */
    private static int tell(CraneYard yard, int length, int first, int step) {
        int third = length > 2 ? first + 2 * step : NONE;
        int fourth = length > 3 ? first + 3 * step : NONE;
        return yard.tell(first, first + step, third, fourth);
    }

    /** "0 to 25" of each letter, on crates as in words. */
    private static void lettersGoFrom0To25() {
        for (int letter : new int[] {0, 1, 24, 25}) {
            CraneYard yard = Yards.showing(letter, 25 - letter, letter, 25 - letter);
            yard.tell(letter, 25 - letter, letter, 25 - letter);
            CHECK.same("four of the letters " + letter, yard.bonus(), 400);
            yard.tell(25 - letter, letter, 25 - letter, NONE);
            CHECK.same("three of them", yard.bonus(), 700);
            yard.tell(25 - letter, letter, NONE, NONE);
            CHECK.same("two of them", yard.bonus(), 900);
        }
        for (int third : new int[] {NONE, 0, 25}) {
            for (int fourth : new int[] {NONE, 0, 25}) {
                CraneYard yard = new CraneYard();
                if (third == NONE && fourth != NONE) {
                    CHECK.outOfRange("a fourth letter alone", () -> yard.tell(0, 25, third, fourth));
                } else {
                    CHECK.same("a word", yard.tell(0, 25, third, fourth), 0);
                }
            }
        }
    }

    /** "A word is 2 to 4 letters": what NONE stands for is no letter, neither on a lid nor in the word. */
    private static void aWordHasTwoToFourLetters() {
        for (int length = 2; length <= 4; length++) {
            CraneYard yard = sixLids();
            CHECK.same("number", tell(yard, length, 10, 1), 0);
            CHECK.same("bonus of " + length, yard.bonus(), 100 * length);
            CraneYard wrongEnd = Yards.showing(10, 11, 12, 13);
            tell(wrongEnd, length, 13 - length + 2, 1);
            CHECK.same("the last letter has no lid", wrongEnd.bonus(), 0);
        }
        CraneYard two = Yards.showing(0, 0);
        two.tell(0, 0, 0, NONE);
        CHECK.same("three letters 0 on two lids", two.bonus(), 0);
        two.tell(0, 0, NONE, NONE);
        CHECK.same("two letters 0 on two lids", two.bonus(), 200);
    }

    /** A word longer than the lids cannot stand there, one as long can: from no lid to six. */
    private static void aWordNeedsAsManyLids() {
        for (int lids = 0; lids <= 6; lids++) {
            for (int length = 2; length <= 4; length++) {
                CraneYard told = new CraneYard();
                CraneYard first = new CraneYard();
                tell(first, length, 7, 0);
                for (int stack = 0; stack < lids; stack++) {
                    told.arrive(10, 7, stack);
                    first.arrive(10, 7, stack);
                }
                tell(told, length, 7, 0);
                int due = length <= lids ? 100 * length : 0;
                CHECK.same(length + " letters told behind " + lids + " lids", told.bonus(), due);
                CHECK.same(length + " letters told before " + lids + " lids", first.bonus(), due);
            }
        }
    }

    /** "whose letters are on lids one behind the other": from each lid on, not round the end. */
    private static void aWordStandsAnywhereOnTheLids() {
        for (int length = 2; length <= 4; length++) {
            for (int from = 0; from < 6; from++) {
                CraneYard yard = sixLids();
                tell(yard, length, 10 + from, 1);
                CHECK.same(length + " letters from lid " + from, yard.bonus(), from + length <= 6 ? 100 * length : 0);
            }
        }
        CraneYard round = sixLids();
        round.tell(15, 10, NONE, NONE);
        round.tell(14, 15, 10, NONE);
        CHECK.same("round the end", round.bonus(), 0);
        round.tell(10, 12, NONE, NONE);
        round.tell(10, 11, 13, NONE);
        round.tell(10, 12, 13, 14);
        CHECK.same("with a lid between", round.bonus(), 0);
    }

    /** "empty stacks are passed over": for each choice of stacks that are not empty. */
    private static void emptyStacksArePassedOver() {
        for (int filled = 0; filled < 64; filled++) {
            CraneYard yard = new CraneYard();
            int[] lids = new int[6];
            int count = 0;
            for (int stack = 0; stack < 6; stack++) {
                if ((filled >> stack & 1) == 1) {
                    yard.arrive(10, 10 + stack, stack);
                    lids[count++] = 10 + stack;
                }
            }
            int due = 0;
            for (int last = 1; last < count; last++) {
                yard.tell(lids[last - 1], lids[last], NONE, NONE);
                due += 200;
                CHECK.same("two lids of " + Integer.toBinaryString(filled), yard.bonus(), due);
            }
            if (count >= 4) {
                yard.tell(lids[0], lids[1], lids[2], lids[3]);
                CHECK.same("four lids of " + Integer.toBinaryString(filled), yard.bonus(), due + 400);
            }
        }
    }

    /** "by rising stacks", not falling, nor in the order of arrival. */
    private static void lidsAreReadByRisingStacks() {
        CraneYard yard = new CraneYard();
        yard.arrive(10, 3, 5);
        yard.arrive(10, 2, 3);
        yard.arrive(10, 1, 0);
        yard.tell(3, 2, NONE, NONE);
        yard.tell(3, 2, 1, NONE);
        CHECK.same("falling", yard.bonus(), 0);
        yard.tell(1, 2, 3, NONE);
        CHECK.same("rising", yard.bonus(), 300);
    }

    /** "The lids are the letters of the top crates": neither of the crates below nor of the one on the crane. */
    private static void lidsAreTopsAlone() {
        CraneYard yard = Yards.showing(1, 2);
        yard.arrive(10, 3, 1);
        yard.tell(1, 2, NONE, NONE);
        yard.tell(2, 3, NONE, NONE);
        CHECK.same("a crate below", yard.bonus(), 0);
        yard.arrive(10, 4, 2);
        yard.lift(2);
        yard.tell(3, 4, NONE, NONE);
        yard.tell(4, 1, NONE, NONE);
        CHECK.same("the crate on the crane", yard.bonus(), 0);
        yard.drop(2);
        CHECK.same("dropped", yard.bonus(), 200);
    }

    /** "there are at most 8" */
    private static void theFirstAndTheEighthWordPay() {
        CraneYard yard = new CraneYard();
        for (int word = 0; word < 8; word++) {
            CHECK.same("number", tell(yard, 4, 9, 0), word);
        }
        Yards.arrive(yard, 10, 9, 0, 1, 2);
        CHECK.same("three lids", yard.bonus(), 0);
        yard.arrive(10, 9, 5);
        CHECK.same("all eight at once", yard.bonus(), 3200);
        CHECK.same("balance", yard.balance(), 3200);
        for (int word = 0; word < 8; word++) {
            CHECK.yes("word " + word + " has paid", yard.hasPaid(word));
        }
        CraneYard ends = Yards.showing(1, 2, 3);
        ends.tell(1, 2, NONE, NONE);
        for (int word = 1; word < 7; word++) {
            ends.tell(20, word, NONE, NONE);
        }
        CHECK.same("the eighth", ends.tell(2, 3, NONE, NONE), 7);
        CHECK.yes("the first and the eighth", ends.hasPaid(0) && ends.hasPaid(7));
        for (int word = 1; word < 7; word++) {
            CHECK.yes("word " + word + " has not paid", !ends.hasPaid(word));
        }
    }

    /** "if there are 8": words that have paid are counted too. */
    private static void aNinthWordIsNone() {
        CraneYard yard = Yards.showing(9, 9);
        for (int word = 0; word < 8; word++) {
            tell(yard, 2, 9, 0);
        }
        CHECK.same("eight paid", yard.bonus(), 1600);
        CHECK.wrongState("a ninth", () -> tell(yard, 2, 9, 0));
        CHECK.same("which pays nothing", yard.bonus(), 1600);
        CHECK.noSuch("word 8", () -> yard.hasPaid(8));
    }

    /** "each word that has not paid yet": not again when its lids come back, nor by other lids. */
    private static void eachWordPaysOnce() {
        CraneYard yard = Yards.showing(1, 2);
        yard.tell(1, 2, NONE, NONE);
        yard.lift(0);
        CHECK.same("its lids are gone", yard.bonus(), 200);
        yard.drop(0);
        CHECK.same("its lids are back", yard.bonus(), 200);
        yard.arrive(10, 1, 4);
        yard.arrive(10, 2, 5);
        CHECK.same("on other lids", yard.bonus(), 200);
        yard.tell(5, 5, NONE, NONE);
        CHECK.same("another word is told", yard.bonus(), 200);
        CHECK.yes("paid", yard.hasPaid(0));
    }

    /** "Once behind each call by which stacks have changed, and when a word is told" */
    private static void eachCallThatChangesStacksPaysBehindIt() {
        CraneYard arrival = Yards.showing(1);
        arrival.tell(1, 2, NONE, NONE);
        CHECK.yes("one lid", !arrival.hasPaid(0));
        arrival.arrive(10, 2, 1);
        CHECK.yes("arrive", arrival.hasPaid(0));
        CraneYard lift = Yards.showing(1, 9, 2);
        lift.tell(1, 2, NONE, NONE);
        CHECK.yes("a lid between", !lift.hasPaid(0));
        lift.lift(1);
        CHECK.yes("lift, a stack being empty then", lift.hasPaid(0));
        CraneYard drop = Yards.showing(1, 2, 3);
        drop.lift(1);
        drop.tell(3, 2, NONE, NONE);
        CHECK.yes("on the crane", !drop.hasPaid(0));
        drop.drop(5);
        CHECK.yes("drop", drop.hasPaid(0));
        CraneYard dig = Yards.showing(1, 2);
        dig.arrive(10, 3, 0);
        dig.tell(2, 3, NONE, NONE);
        CHECK.yes("before the dig", !dig.hasPaid(0));
        dig.dig(0);
        CHECK.yes("dig", dig.hasPaid(0));
        CraneYard top = Yards.showing(1, 9, 2);
        top.tell(1, 2, NONE, NONE);
        top.dig(1);
        CHECK.yes("dig of a top", top.hasPaid(0));
        CraneYard tell = Yards.showing(1, 2);
        tell.tell(1, 2, NONE, NONE);
        CHECK.yes("tell", tell.hasPaid(0));
    }

    /** "Once behind each call": a dig of three lifts shows two rows of lids on its way, and one behind it. */
    private static void lidsOnTheWayOfADigDoNotCount() {
        CraneYard yard = Yards.showing(1);
        yard.arrive(10, 2, 0);
        yard.arrive(10, 3, 0);
        yard.tell(2, 3, NONE, NONE);
        yard.tell(1, 3, NONE, NONE);
        yard.tell(1, 3, 2, NONE);
        yard.tell(3, 2, NONE, NONE);
        CHECK.same("dig", yard.dig(0), 3);
        CHECK.yes("on the way, behind the first lift", !yard.hasPaid(0));
        CHECK.yes("on the way, behind the second lift", !yard.hasPaid(1) && !yard.hasPaid(2));
        CHECK.yes("behind the call", yard.hasPaid(3));
        CHECK.same("bonus", yard.bonus(), 200);
    }

    private static void wordsThatArePaidStay() {
        CraneYard yard = Yards.showing(1, 2);
        yard.tell(1, 2, NONE, NONE);
        yard.tell(2, 1, NONE, NONE);
        yard.storm();
        yard.pass(100);
        yard.lift(1);
        CHECK.yes("the paid one", yard.hasPaid(0));
        CHECK.yes("the other one", !yard.hasPaid(1));
        CHECK.same("bonus", yard.bonus(), 200);
    }

    /** "a bonus of 100 times the number of its letters", from nothing to words of all lengths. */
    private static void theBonusIsAHundredALetter() {
        CraneYard yard = sixLids();
        CHECK.same("no word", yard.bonus(), 0);
        tell(yard, 2, 10, 1);
        CHECK.same("two letters", yard.bonus(), 200);
        tell(yard, 3, 10, 1);
        CHECK.same("and three", yard.bonus(), 500);
        tell(yard, 4, 10, 1);
        CHECK.same("and four", yard.bonus(), 900);
        CHECK.same("balance", yard.balance(), 900);
    }
}
