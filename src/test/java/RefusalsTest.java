import java.util.function.Consumer;

/**
 * "A call that throws changes nothing", and "if several apply, the one that it lists first is thrown": each reason for
 * which a call is refused, alone and beside others. Behind the refused call the yard is compared with a twin that had
 * the same calls but that one.
 */
public final class RefusalsTest {
    private static final Check CHECK = new Check();
    private static final int NONE = CraneYard.NONE;
    private static final int MIN = Integer.MIN_VALUE;
    private static final int MAX = Integer.MAX_VALUE;

    /** Calls that bring a new yard to where another call is refused. */
    private interface Story extends Consumer<CraneYard> {
    }

    private static final Story NEW = yard -> { };

    /** Crates 0, 1, 2 on the stack 0, crate 3 on 1; a paid word and one to be paid; hauls with bids; no storm. */
    private static final Story BUSY = yard -> {
        Yards.arrive(yard, 50, 0, 0, 0, 0);
        Yards.arrive(yard, 40, 1, 1);
        yard.tell(0, 1, NONE, NONE);
        yard.tell(1, 0, 0, 5);
        yard.offer(0, 3);
        yard.offer(1, 0);
        yard.bid(0, 1, 30);
        yard.bid(1, 2, 20);
        yard.give(1);
    };

    private static final Story BUSY_AND_STORMY = busyThen(CraneYard::storm);

    /** As BUSY, but the crate 2 hangs on the crane, in no haul. */
    private static final Story HANGING = busyThen(yard -> yard.lift(0));

    /** As BUSY, but the crate 3 has been loaded in the haul 2. */
    private static final Story LOADED = busyThen(yard -> {
        yard.offer(3, 0);
        yard.bid(2, 0, 7);
        yard.give(2);
        yard.lift(1);
        yard.load();
    });

    /** The crates 0 to 29, five on each stack, the top one, 29, on the crane. */
    private static final Story THIRTY = yard -> {
        for (int crate = 0; crate < 30; crate++) {
            yard.arrive(10, crate % 26, crate / 5);
        }
        yard.lift(5);
    };

    private static final Story EIGHT_WORDS = busyThen(yard -> {
        for (int word = 2; word < 8; word++) {
            yard.tell(word, 1, NONE, NONE);
        }
    });

    private static final Story TWENTY_HAULS = yard -> {
        Yards.arrive(yard, 10, 0, 0, 1, 1);
        for (int haul = 0; haul < 20; haul++) {
            yard.offer(0, haul);
            yard.pass(1);
        }
    };

    /** Haul 0 LATE, haul 1 DONE, haul 2 GIVEN, haul 3 OFFERED with a bid of haulier 3, haul 4 OFFERED without one. */
    private static final Story HAULS_OF_ALL_KINDS = yard -> {
        Yards.arrive(yard, 10, 0, 0, 1, 2, 3, 4);
        yard.offer(0, 0);
        yard.bid(0, 0, 10);
        yard.pass(1);
        for (int crate = 1; crate < 5; crate++) {
            yard.offer(crate, 1 + crate);
        }
        yard.bid(1, 1, 11);
        yard.bid(2, 2, 12);
        yard.bid(3, 3, 13);
        yard.give(1);
        yard.give(2);
        yard.lift(1);
        yard.load();
    };

    public static void main(String[] args) {
        arriveRefuses();
        liftRefuses();
        dropRefuses();
        digRefusesCrates();
        digRefusesForWantOfPlaces();
        heightAtAndStackOfRefuse();
        fewestLiftsRefuses();
        tellRefuses();
        hasPaidRefuses();
        offerRefuses();
        bidRefuses();
        giveRefuses();
        loadRefuses();
        stateRefuses();
        passRefuses();
        CHECK.finish();
    }

    private static Story busyThen(Consumer<CraneYard> rest) {
        return yard -> {
            BUSY.accept(yard);
            rest.accept(yard);
        };
    }

    private static void refused(String what, Class<? extends RuntimeException> due, Story story,
            Consumer<CraneYard> call) {
        for (boolean withBids : new boolean[] {false, true}) {
            CraneYard yard = new CraneYard();
            CraneYard twin = new CraneYard();
            story.accept(yard);
            story.accept(twin);
            CHECK.fails(what, due, () -> call.accept(yard));
            CHECK.yes(what + ", which changes nothing,",
                    Probe.everything(yard, withBids).equals(Probe.everything(twin, withBids)));
        }
    }

    private static void noSuch(String what, Story story, Consumer<CraneYard> call) {
        refused(what, IndexOutOfBoundsException.class, story, call);
    }

    private static void outOfRange(String what, Story story, Consumer<CraneYard> call) {
        refused(what, IllegalArgumentException.class, story, call);
    }

    private static void wrongState(String what, Story story, Consumer<CraneYard> call) {
        refused(what, IllegalStateException.class, story, call);
    }

    private static void arriveRefuses() {
        Story[] stories = {NEW, BUSY, BUSY_AND_STORMY, THIRTY};
        for (Story story : stories) {
            for (int weight : new int[] {0, 101, -1, MIN, MAX}) {
                outOfRange("arrive, weight " + weight, story, yard -> yard.arrive(weight, 0, 0));
            }
            for (int letter : new int[] {-1, 26, MIN, MAX}) {
                outOfRange("arrive, letter " + letter, story, yard -> yard.arrive(1, letter, 0));
            }
            for (int stack : new int[] {-1, 6, MIN, MAX}) {
                outOfRange("arrive, stack " + stack, story, yard -> yard.arrive(1, 0, stack));
            }
        }
        outOfRange("arrive, a weight too heavy anyhow", BUSY, yard -> yard.arrive(101, 0, 0));
        wrongState("arrive on a lighter one", BUSY, yard -> yard.arrive(51, 1, 0));
        wrongState("arrive as the fourth of a storm day", BUSY_AND_STORMY, yard -> yard.arrive(1, 5, 0));
        wrongState("arrive on five", THIRTY, yard -> yard.arrive(1, 0, 0));
        wrongState("arrive as crate 30, with room", THIRTY, yard -> yard.arrive(1, 0, 5));
        Story full = yard -> Yards.arrive(yard, 10, 0, 3, 3, 3, 3, 3);
        wrongState("arrive as the sixth", full, yard -> yard.arrive(10, 0, 3));
        outOfRange("arrive as the sixth, weight 0", full, yard -> yard.arrive(0, 0, 3));
        outOfRange("arrive as the sixth, letter 26", full, yard -> yard.arrive(10, 26, 3));
    }

    private static void liftRefuses() {
        Story[] stories = {NEW, BUSY, HANGING};
        for (Story story : stories) {
            for (int stack : new int[] {-1, 6, MIN, MAX}) {
                outOfRange("lift(" + stack + ")", story, yard -> yard.lift(stack));
            }
            wrongState("lift from an empty stack", story, yard -> yard.lift(5));
        }
        wrongState("lift with a crane that is not empty", HANGING, yard -> yard.lift(0));
        wrongState("lift from a full stack with a crane that is not empty", THIRTY, yard -> yard.lift(0));
    }

    private static void dropRefuses() {
        Story[] stories = {NEW, BUSY, HANGING};
        for (Story story : stories) {
            for (int stack : new int[] {-1, 6, MIN, MAX}) {
                outOfRange("drop(" + stack + ")", story, yard -> yard.drop(stack));
            }
        }
        wrongState("drop with an empty crane", NEW, yard -> yard.drop(0));
        wrongState("drop with an empty crane onto a stack", BUSY, yard -> yard.drop(0));
        wrongState("drop onto a lighter one", HANGING, yard -> yard.drop(1));
        wrongState("drop as the sixth", THIRTY, yard -> yard.drop(4));
        Story storm = busyThen(yard -> {
            yard.lift(1);
            yard.storm();
        });
        wrongState("drop as the fourth of a storm day", storm, yard -> yard.drop(0));
        Story back = yard -> {
            Yards.arrive(yard, 10, 0, 0, 0, 0, 0);
            yard.lift(0);
            yard.storm();
        };
        wrongState("drop back where it was the fourth", back, yard -> yard.drop(0));
    }

    private static void digRefusesCrates() {
        for (int crate : new int[] {0, -1, MIN, MAX}) {
            noSuch("dig(" + crate + ") in an empty yard", NEW, yard -> yard.dig(crate));
        }
        for (int crate : new int[] {4, -1, 29, 30, MIN, MAX}) {
            noSuch("dig(" + crate + ")", BUSY, yard -> yard.dig(crate));
            noSuch("dig(" + crate + ") with a crane that is not empty", HANGING, yard -> yard.dig(crate));
        }
        noSuch("dig(30)", THIRTY, yard -> yard.dig(30));
        wrongState("dig with a crane that is not empty", HANGING, yard -> yard.dig(3));
        wrongState("dig of the crate on the crane", HANGING, yard -> yard.dig(2));
        wrongState("dig of a crate that is gone", LOADED, yard -> yard.dig(3));
        Story both = yard -> {
            LOADED.accept(yard);
            yard.lift(0);
        };
        wrongState("dig of a crate that is gone, the crane not empty", both, yard -> yard.dig(3));
    }

    private static void digRefusesForWantOfPlaces() {
        Story full = yard -> {
            THIRTY.accept(yard);
            yard.drop(5);
            yard.tell(24, 3, NONE, NONE);
        };
        for (int crate : new int[] {0, 3, 25, 28}) {
            wrongState("dig(" + crate + ") in a full yard", full, yard -> yard.dig(crate));
        }
        Story atTheFirst = yard -> {
            Yards.arrive(yard, 10, 0, 0, 0);
            Yards.arrive(yard, 9, 1, 1, 2, 3, 4, 5);
            yard.tell(0, 1, 0, NONE);
        };
        wrongState("dig, no place for the first", atTheFirst, yard -> yard.dig(0));
        Story atTheSecond = yard -> {
            Yards.arrive(yard, 10, 0, 0, 0);
            Yards.arrive(yard, 9, 2, 0);
            Yards.arrive(yard, 9, 1, 1, 2, 3, 4, 5);
            yard.tell(2, 1, NONE, NONE);
            yard.tell(0, 2, NONE, NONE);
        };
        wrongState("dig, no place for the second", atTheSecond, yard -> yard.dig(0));
        Story atTheLast = yard -> {
            Yards.arrive(yard, 10, 0, 5, 5);
            Yards.arrive(yard, 9, 0, 5, 5, 5);
            Yards.arrive(yard, 9, 1, 0, 1, 2, 3, 4);
            yard.tell(0, 1, NONE, NONE);
        };
        wrongState("dig, no place for the last", atTheLast, yard -> yard.dig(0));
        Story storm = yard -> {
            Yards.arrive(yard, 10, 0, 0, 0, 1, 1, 1, 2, 2, 2, 3, 3, 3, 4, 4, 4, 5, 5, 5);
            yard.storm();
        };
        wrongState("dig, no place in a storm", storm, yard -> yard.dig(0));
    }

    private static void heightAtAndStackOfRefuse() {
        Story[] stories = {NEW, BUSY, THIRTY};
        for (Story story : stories) {
            for (int stack : new int[] {-1, 6, MIN, MAX}) {
                outOfRange("height(" + stack + ")", story, yard -> yard.height(stack));
                outOfRange("at(" + stack + ", 0)", story, yard -> yard.at(stack, 0));
                outOfRange("at(" + stack + ", 5)", story, yard -> yard.at(stack, 5));
            }
            for (int place : new int[] {-1, 5, MIN, MAX}) {
                outOfRange("at(0, " + place + ")", story, yard -> yard.at(0, place));
            }
            for (int crate : new int[] {-1, 30, MIN, MAX}) {
                noSuch("stackOf(" + crate + ")", story, yard -> yard.stackOf(crate));
            }
        }
        noSuch("stackOf(0) in an empty yard", NEW, yard -> yard.stackOf(0));
        noSuch("stackOf(4) of four crates", BUSY, yard -> yard.stackOf(4));
    }

    private static void fewestLiftsRefuses() {
        for (int set : new int[] {0, 1, -1, MIN, MAX}) {
            outOfRange("fewestLifts(" + set + ") in an empty yard", NEW, yard -> yard.fewestLifts(set));
        }
        for (int set : new int[] {0, 0b10000, 0b11111, 0b10001, 1 << 29, 1 << 30 | 1, MIN, MIN | 1, -1, MAX}) {
            outOfRange("fewestLifts(" + set + ")", BUSY, yard -> yard.fewestLifts(set));
            outOfRange("fewestLifts(" + set + ") with a crane not empty", HANGING, yard -> yard.fewestLifts(set));
        }
        outOfRange("fewestLifts of the crate on the crane", HANGING, yard -> yard.fewestLifts(0b0100));
        outOfRange("fewestLifts with the crate on the crane among them", HANGING, yard -> yard.fewestLifts(0b0101));
        outOfRange("fewestLifts of a crate that is gone", LOADED, yard -> yard.fewestLifts(0b1000));
        outOfRange("fewestLifts with a crate that is gone", LOADED, yard -> yard.fewestLifts(0b1001));
        wrongState("fewestLifts with a crane not empty", HANGING, yard -> yard.fewestLifts(0b0001));
        wrongState("fewestLifts of three with a crane not empty", HANGING, yard -> yard.fewestLifts(0b1011));
        Story five = yard -> Yards.arrive(yard, 10, 0, 0, 1, 2, 3, 4);
        outOfRange("fewestLifts of five", five, yard -> yard.fewestLifts(0b11111));
        Story thirty = yard -> {
            THIRTY.accept(yard);
            yard.drop(5);
        };
        for (int set : new int[] {1 << 30, MIN, 1 << 30 | 1, MIN | 1, 0b11111, -1}) {
            outOfRange("fewestLifts(" + set + ") of thirty", thirty, yard -> yard.fewestLifts(set));
        }
    }

    private static void tellRefuses() {
        int[][] wrong = {
            {-1, 0, 0, 0}, {26, 0, 0, 0}, {MIN, 0, 0, 0}, {MAX, 0, 0, 0},
            {0, -1, 0, 0}, {0, 26, 0, 0}, {0, MIN, 0, 0}, {0, MAX, 0, 0},
            {0, 0, -2, NONE}, {0, 0, 26, NONE}, {0, 0, MIN, NONE}, {0, 0, MAX, NONE},
            {0, 0, 0, -2}, {0, 0, 0, 26}, {0, 0, 0, MIN}, {0, 0, 0, MAX},
            {0, 1, NONE, 0}, {0, 1, NONE, 25}, {0, 1, NONE, -2}, {0, 1, NONE, 26},
            {-1, 0, NONE, NONE}, {0, -1, NONE, NONE},
        };
        Story[] stories = {NEW, BUSY, EIGHT_WORDS};
        for (Story story : stories) {
            for (int[] w : wrong) {
                outOfRange("tell(" + w[0] + ", " + w[1] + ", " + w[2] + ", " + w[3] + ")", story,
                        yard -> yard.tell(w[0], w[1], w[2], w[3]));
            }
        }
        wrongState("tell a ninth word", EIGHT_WORDS, yard -> yard.tell(25, 25, NONE, NONE));
        wrongState("tell a ninth word that is on the lids", EIGHT_WORDS, yard -> yard.tell(0, 1, NONE, NONE));
    }

    private static void hasPaidRefuses() {
        for (int word : new int[] {-1, 0, 8, MIN, MAX}) {
            noSuch("hasPaid(" + word + ") without words", NEW, yard -> yard.hasPaid(word));
        }
        for (int word : new int[] {-1, 2, 7, 8, MIN, MAX}) {
            noSuch("hasPaid(" + word + ") of two", BUSY, yard -> yard.hasPaid(word));
        }
        for (int word : new int[] {-1, 8, MIN, MAX}) {
            noSuch("hasPaid(" + word + ") of eight", EIGHT_WORDS, yard -> yard.hasPaid(word));
        }
    }

    private static void offerRefuses() {
        noSuch("offer of no crate", NEW, yard -> yard.offer(0, 0));
        noSuch("offer of no crate, last day before today", NEW, yard -> yard.offer(0, -1));
        for (int crate : new int[] {-1, 4, 30, MIN, MAX}) {
            noSuch("offer(" + crate + ", 0)", BUSY, yard -> yard.offer(crate, 0));
            noSuch("offer(" + crate + ", 101)", BUSY, yard -> yard.offer(crate, 101));
        }
        noSuch("offer of no crate with 20 hauls", TWENTY_HAULS, yard -> yard.offer(3, 20));
        for (int lastDay : new int[] {-1, 101, MIN, MAX}) {
            outOfRange("offer(2, " + lastDay + ")", BUSY, yard -> yard.offer(2, lastDay));
            outOfRange("offer(0, " + lastDay + "), OFFERED", BUSY, yard -> yard.offer(0, lastDay));
            outOfRange("offer(1, " + lastDay + "), GIVEN", BUSY, yard -> yard.offer(1, lastDay));
            outOfRange("offer(2, " + lastDay + "), on the crane", HANGING, yard -> yard.offer(2, lastDay));
            outOfRange("offer(3, " + lastDay + "), gone", LOADED, yard -> yard.offer(3, lastDay));
        }
        outOfRange("offer with 20 hauls for yesterday", TWENTY_HAULS, yard -> yard.offer(1, 19));
        outOfRange("offer with 20 hauls for too late", TWENTY_HAULS, yard -> yard.offer(1, 121));
        wrongState("offer of the crate on the crane", HANGING, yard -> yard.offer(2, 0));
        wrongState("offer of a crate that is gone", LOADED, yard -> yard.offer(3, 0));
        wrongState("offer of a crate in a haul that is OFFERED", BUSY, yard -> yard.offer(0, 5));
        wrongState("offer of a crate in a haul that is GIVEN", BUSY, yard -> yard.offer(1, 5));
        wrongState("offer of a 21st haul", TWENTY_HAULS, yard -> yard.offer(1, 20));
    }

    private static void bidRefuses() {
        noSuch("bid without hauls", NEW, yard -> yard.bid(0, 0, 1));
        for (int haul : new int[] {-1, 5, 20, MIN, MAX}) {
            noSuch("bid(" + haul + ", 0, 1)", HAULS_OF_ALL_KINDS, yard -> yard.bid(haul, 0, 1));
            noSuch("bid(" + haul + ", 4, 0)", HAULS_OF_ALL_KINDS, yard -> yard.bid(haul, 4, 0));
        }
        noSuch("bid for haul 20 of 20", TWENTY_HAULS, yard -> yard.bid(20, 0, 1));
        for (int haul = 0; haul < 5; haul++) {
            int one = haul;
            for (int haulier : new int[] {-1, 4, MIN, MAX}) {
                outOfRange("bid(" + haul + ", " + haulier + ", 1)", HAULS_OF_ALL_KINDS,
                        yard -> yard.bid(one, haulier, 1));
            }
            for (int price : new int[] {0, 1001, -1, MIN, MAX}) {
                outOfRange("bid(" + haul + ", 3, " + price + ")", HAULS_OF_ALL_KINDS, yard -> yard.bid(one, 3, price));
            }
        }
        for (int haulier = 0; haulier < 4; haulier++) {
            int one = haulier;
            wrongState("bid for a haul that is LATE", HAULS_OF_ALL_KINDS, yard -> yard.bid(0, one, 1));
            wrongState("bid for a haul that is DONE", HAULS_OF_ALL_KINDS, yard -> yard.bid(1, one, 1));
            wrongState("bid for a haul that is GIVEN", HAULS_OF_ALL_KINDS, yard -> yard.bid(2, one, 1));
        }
        wrongState("bid again, lower", HAULS_OF_ALL_KINDS, yard -> yard.bid(3, 3, 1));
        wrongState("bid again, the same", HAULS_OF_ALL_KINDS, yard -> yard.bid(3, 3, 13));
        wrongState("bid again, higher", HAULS_OF_ALL_KINDS, yard -> yard.bid(3, 3, 1000));
    }

    private static void giveRefuses() {
        noSuch("give without hauls", NEW, yard -> yard.give(0));
        for (int haul : new int[] {-1, 5, 20, MIN, MAX}) {
            noSuch("give(" + haul + ")", HAULS_OF_ALL_KINDS, yard -> yard.give(haul));
        }
        noSuch("give of haul 20 of 20", TWENTY_HAULS, yard -> yard.give(20));
        wrongState("give of a haul that is LATE", HAULS_OF_ALL_KINDS, yard -> yard.give(0));
        wrongState("give of a haul that is DONE", HAULS_OF_ALL_KINDS, yard -> yard.give(1));
        wrongState("give of a haul that is GIVEN", HAULS_OF_ALL_KINDS, yard -> yard.give(2));
        wrongState("give of a haul for which nobody has bid", HAULS_OF_ALL_KINDS, yard -> yard.give(4));
        wrongState("give of a haul that is LATE without bids", TWENTY_HAULS, yard -> yard.give(19));
    }

    private static void loadRefuses() {
        wrongState("load in an empty yard", NEW, CraneYard::load);
        wrongState("load with an empty crane, a haul being GIVEN", BUSY, CraneYard::load);
        wrongState("load with an empty crane, behind a load", LOADED, CraneYard::load);
        wrongState("load of a crate in no haul", HANGING, CraneYard::load);
        Story offered = busyThen(yard -> yard.dig(0));
        wrongState("load of a crate in a haul that is OFFERED", offered, CraneYard::load);
        Story late = busyThen(yard -> {
            yard.dig(1);
            yard.pass(1);
        });
        wrongState("load of a crate whose haul became LATE while it hung", late, CraneYard::load);
        Story lateBefore = busyThen(yard -> {
            yard.pass(1);
            yard.dig(1);
        });
        wrongState("load of a crate whose haul was LATE before", lateBefore, CraneYard::load);
        Story lateAndOffered = busyThen(yard -> {
            yard.pass(1);
            yard.offer(1, 9);
            yard.bid(2, 0, 1);
            yard.dig(1);
        });
        wrongState("load of a crate that was GIVEN once and is OFFERED now", lateAndOffered, CraneYard::load);
    }

    private static void stateRefuses() {
        for (int haul : new int[] {0, -1, 19, 20, MIN, MAX}) {
            noSuch("state(" + haul + ") without hauls", NEW, yard -> yard.state(haul));
        }
        for (int haul : new int[] {-1, 5, 19, 20, MIN, MAX}) {
            noSuch("state(" + haul + ") of five", HAULS_OF_ALL_KINDS, yard -> yard.state(haul));
        }
        noSuch("state(20) of twenty", TWENTY_HAULS, yard -> yard.state(20));
        noSuch("state(-1) of twenty", TWENTY_HAULS, yard -> yard.state(-1));
    }

    /** Two storeys, a haul that ends that day, and a storm, so that a day that passed half would show. */
    private static Story onDay(int today) {
        return yard -> {
            Yards.arrive(yard, 10, 0, 0, 0, 0);
            Yards.passUntil(yard, today);
            yard.offer(0, today);
            yard.offer(1, today + 100);
            yard.storm();
        };
    }

    private static void passRefuses() {
        for (int today : new int[] {0, 9900, 9999, 10000}) {
            for (int days : new int[] {0, -1, 101, MIN, MAX}) {
                outOfRange("pass(" + days + ") on day " + today, onDay(today), yard -> yard.pass(days));
            }
        }
        wrongState("pass(100) on day 9901", onDay(9901), yard -> yard.pass(100));
        wrongState("pass(2) on day 9999", onDay(9999), yard -> yard.pass(2));
        wrongState("pass(100) on day 9999", onDay(9999), yard -> yard.pass(100));
        wrongState("pass(1) on day 10000", onDay(10000), yard -> yard.pass(1));
        wrongState("pass(100) on day 10000", onDay(10000), yard -> yard.pass(100));
    }
}
