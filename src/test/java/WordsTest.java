/** Promises 12 to 14: words, and the bonuses that they pay. */
public final class WordsTest {
    private static final Check CHECK = new Check();

    public static void main(String[] args) {
        tellNumbersWords();
        tellRefusesArgumentsOutOfRange();
        thereAreEightWords();
        aWordPaysByItsLength();
        aWordOnTheLidsPaysWhenTold();
        aWordPaysOnce();
        lettersStandOneBehindTheOther();
        emptyStacksArePassedOver();
        onlyTheLidsCount();
        eachCallThatChangesStacksPays();
        aDigPaysOnceBehindTheCall();
        aRefusedCallPaysNothing();
        loadPaysNothingAnew();
        severalWordsPayAtOnce();
        hasPaidRefuses();
        CHECK.finish();
    }

    private static void tellNumbersWords() {
        CraneYard yard = new CraneYard();
        CHECK.same("two letters", yard.tell(0, 25, CraneYard.NONE, CraneYard.NONE), 0);
        CHECK.same("three letters", yard.tell(25, 0, 25, CraneYard.NONE), 1);
        CHECK.same("four letters", yard.tell(0, 0, 0, 25), 2);
        CHECK.same("the same word again", yard.tell(0, 0, 0, 25), 3);
        CHECK.yes("none has paid", !yard.hasPaid(0) && !yard.hasPaid(1) && !yard.hasPaid(2) && !yard.hasPaid(3));
    }

    private static void tellRefusesArgumentsOutOfRange() {
        CraneYard yard = new CraneYard();
        int[][] wrong = {
            {-1, 0, 0, 0}, {26, 0, 0, 0}, {0, -1, -1, -1}, {0, 26, 0, 0}, {0, 0, -2, -1}, {0, 0, 26, 0},
            {0, 0, 0, -2}, {0, 0, 0, 26}, {0, 0, -1, 0}, {0, 0, -1, 25}, {0, 0, -1, -2}, {-1, 0, -1, -1},
            {Integer.MIN_VALUE, 0, 0, 0}, {0, Integer.MAX_VALUE, 0, 0}, {0, 0, Integer.MIN_VALUE, 0},
            {0, 0, 0, Integer.MAX_VALUE},
        };
        for (int[] w : wrong) {
            CHECK.outOfRange("tell(" + w[0] + ", " + w[1] + ", " + w[2] + ", " + w[3] + ")",
                    () -> yard.tell(w[0], w[1], w[2], w[3]));
        }
        CHECK.same("the first number is still free", yard.tell(0, 0, 0, 0), 0);
    }

    private static void thereAreEightWords() {
        CraneYard yard = Yards.showing(1, 2);
        for (int word = 0; word < 8; word++) {
            CHECK.same("word", yard.tell(0, word, -1, -1), word);
        }
        CHECK.wrongState("a ninth word", () -> yard.tell(1, 2, -1, -1));
        CHECK.outOfRange("out of range goes first", () -> yard.tell(1, 26, -1, -1));
        CHECK.same("the ninth pays nothing", yard.bonus(), 0);
        CHECK.noSuch("word 8", () -> yard.hasPaid(8));
        CHECK.yes("word 7 has not paid", !yard.hasPaid(7));
    }

    private static void aWordPaysByItsLength() {
        int[][] words = {{1, 2, -1, -1}, {1, 2, 3, -1}, {1, 2, 3, 4}};
        for (int length = 2; length <= 4; length++) {
            int[] w = words[length - 2];
            CraneYard yard = Yards.showing(1, 2, 3, 4);
            yard.tell(w[0], w[1], w[2], w[3]);
            CHECK.same("bonus of " + length + " letters", yard.bonus(), 100 * length);
            CHECK.yes("the word of " + length + " letters has paid", yard.hasPaid(0));
            CHECK.same("balance", yard.balance(), 100 * length);
        }
    }

    private static void aWordOnTheLidsPaysWhenTold() {
        CraneYard yard = Yards.showing(1, 2, 3, 4, 5, 6);
        yard.tell(5, 6, -1, -1);
        CHECK.same("at the end of the lids", yard.bonus(), 200);
        yard.tell(6, 1, -1, -1);
        CHECK.same("past the end of the lids", yard.bonus(), 200);
        yard.tell(5, 6, 1, -1);
        CHECK.same("a word that goes on past the end", yard.bonus(), 200);
        yard.tell(1, 2, 3, 4);
        CHECK.same("at the start of the lids", yard.bonus(), 600);
        yard.tell(3, 4, 5, 6);
        CHECK.same("four at the end of the lids", yard.bonus(), 1000);
    }

    private static void aWordPaysOnce() {
        CraneYard yard = Yards.showing(1, 2, 1, 2);
        yard.tell(1, 2, -1, -1);
        CHECK.same("twice on the lids", yard.bonus(), 200);
        yard.lift(0);
        yard.drop(0);
        CHECK.same("again on the lids", yard.bonus(), 200);
        yard.tell(1, 2, -1, -1);
        CHECK.same("told again, as another word", yard.bonus(), 400);
        yard.arrive(1, 9, 5);
        CHECK.same("behind another arrival", yard.bonus(), 400);
    }

    private static void lettersStandOneBehindTheOther() {
        CraneYard yard = Yards.showing(1, 3, 2, 4);
        yard.tell(1, 2, -1, -1);
        CHECK.same("one between", yard.bonus(), 0);
        yard.tell(3, 1, -1, -1);
        CHECK.same("the other way round", yard.bonus(), 0);
        yard.tell(1, 3, 4, -1);
        CHECK.same("a start alone", yard.bonus(), 0);
        yard.tell(1, 1, -1, -1);
        CHECK.same("one lid twice", yard.bonus(), 0);
        CraneYard repeated = Yards.showing(1, 1, 2);
        repeated.tell(1, 2, -1, -1);
        CHECK.same("behind a false start", repeated.bonus(), 200);
    }

    private static void emptyStacksArePassedOver() {
        CraneYard yard = new CraneYard();
        yard.tell(1, 2, 3, -1);
        yard.arrive(10, 1, 0);
        yard.arrive(10, 3, 5);
        CHECK.same("two lids", yard.bonus(), 0);
        yard.arrive(10, 2, 2);
        CHECK.same("three lids with gaps", yard.bonus(), 300);
    }

    private static void onlyTheLidsCount() {
        CraneYard yard = Yards.showing(1, 2);
        yard.arrive(10, 7, 0);
        yard.tell(1, 2, -1, -1);
        CHECK.same("the 1 is buried", yard.bonus(), 0);
        yard.tell(7, 2, -1, -1);
        CHECK.same("the lid on it", yard.bonus(), 200);
        yard.lift(0);
        CHECK.same("laid open", yard.bonus(), 400);
        CHECK.yes("the first word has paid", yard.hasPaid(0));
    }

    private static void eachCallThatChangesStacksPays() {
        CraneYard yard = new CraneYard();
        yard.tell(1, 2, -1, -1);
        yard.arrive(10, 1, 0);
        yard.arrive(10, 2, 1);
        CHECK.same("an arrival", yard.bonus(), 200);
        yard.arrive(10, 3, 2);
        yard.tell(1, 3, -1, -1);
        yard.lift(1);
        CHECK.same("a lift", yard.bonus(), 400);
        yard.tell(1, 3, 2, -1);
        yard.drop(4);
        CHECK.same("a drop", yard.bonus(), 700);
        yard.tell(3, 2, 5, 6);
        yard.arrive(10, 5, 0);
        yard.tell(1, 5, -1, -1);
        yard.arrive(10, 6, 0);
        yard.tell(6, 3, 5, 2);
        CHECK.same("nothing new", yard.bonus(), 700);
        yard.dig(0);
        CHECK.same("a dig", yard.bonus(), 1100);
    }

    /** A dig shows lids on its way that no word may be paid for. */
    private static void aDigPaysOnceBehindTheCall() {
        CraneYard yard = new CraneYard();
        yard.arrive(10, 1, 0);
        yard.arrive(10, 2, 0);
        yard.arrive(10, 3, 0);
        yard.tell(2, 3, -1, -1);
        yard.tell(1, 2, 3, -1);
        yard.tell(3, 2, -1, -1);
        yard.tell(1, 2, -1, -1);
        CHECK.same("dig", yard.dig(0), 3);
        CHECK.yes("3 2 stands on the lids behind the call", yard.hasPaid(2));
        CHECK.same("and no other", yard.bonus(), 200);
        CraneYard second = new CraneYard();
        second.arrive(10, 1, 0);
        second.arrive(10, 2, 0);
        second.tell(1, 2, -1, -1);
        second.dig(0);
        CHECK.same("1 2 stood on the lids on the way only", second.bonus(), 0);
    }

    private static void aRefusedCallPaysNothing() {
        CraneYard yard = Yards.showing(1, 2);
        CHECK.outOfRange("a word out of range", () -> yard.tell(1, 2, -1, 3));
        CHECK.same("bonus", yard.bonus(), 0);
        CHECK.same("the first number is still free", yard.tell(2, 9, -1, -1), 0);
        CHECK.wrongState("a heavy arrival", () -> yard.arrive(11, 9, 1));
        CHECK.same("bonus behind a refused arrival", yard.bonus(), 0);
    }

    private static void loadPaysNothingAnew() {
        CraneYard yard = Yards.withHaul(0, 70);
        yard.arrive(10, 1, 1);
        yard.arrive(10, 2, 2);
        yard.lift(0);
        yard.tell(1, 2, -1, -1);
        yard.load();
        CHECK.same("bonus", yard.bonus(), 200);
        CHECK.same("balance", yard.balance(), 130);
    }

    private static void severalWordsPayAtOnce() {
        CraneYard yard = new CraneYard();
        yard.tell(1, 2, -1, -1);
        yard.tell(2, 3, -1, -1);
        yard.tell(3, 1, -1, -1);
        yard.tell(1, 2, 3, -1);
        yard.arrive(10, 1, 0);
        yard.arrive(10, 3, 5);
        CHECK.same("none yet", yard.bonus(), 0);
        yard.arrive(10, 2, 3);
        CHECK.same("three at once", yard.bonus(), 700);
        CHECK.yes("but not the third", yard.hasPaid(0) && yard.hasPaid(1) && !yard.hasPaid(2) && yard.hasPaid(3));
    }

    private static void hasPaidRefuses() {
        CraneYard yard = new CraneYard();
        yard.tell(1, 2, -1, -1);
        int[] wrong = {-1, 1, 8, Integer.MIN_VALUE, Integer.MAX_VALUE};
        for (int word : wrong) {
            CHECK.noSuch("hasPaid(" + word + ")", () -> yard.hasPaid(word));
        }
    }
}
