import java.util.function.IntSupplier;

/**
 * Tells all that can be learned of a yard, by asking first and then by acting on it: what a yard hides (a storm, bids,
 * last days, the letters of words) shows in what it answers later. Two yards with the same text are in the same state;
 * the yard is spoilt behind that.
 */
final class Probe {
    private static final int STACKS = 6;
    private static final int HAULIERS = 4;
    private static final int PLACES = 5;
    private static final int MOST_NUMBERS = 30;

    private final CraneYard yard;
    private final StringBuilder told = new StringBuilder();

    private Probe(CraneYard yard) {
        this.yard = yard;
    }

    /** With bids of its own it shows who has bid before, without them at which price: it takes both to tell all. */
    static String everything(CraneYard yard, boolean withBids) {
        Probe probe = new Probe(yard);
        probe.askAll();
        probe.emptyTheCrane();
        probe.giveAll(withBids);
        probe.loadTops();
        probe.fillTheStacks();
        probe.tellWords();
        probe.letDaysPass();
        return probe.told.toString();
    }

    /** Writes an answer down, or what was thrown; returns whether it was an answer. */
    private boolean note(String call, IntSupplier answer) {
        told.append(call).append(' ');
        try {
            told.append(answer.getAsInt()).append('\n');
            return true;
        } catch (RuntimeException thrown) {
            told.append(thrown.getClass().getSimpleName()).append('\n');
            return false;
        }
    }

    private void askAll() {
        note("crane", yard::crane);
        note("lifts", yard::lifts);
        note("bonus", yard::bonus);
        note("today", yard::today);
        note("balance", yard::balance);
        for (int s = 0; s < STACKS; s++) {
            int stack = s;
            note("height", () -> yard.height(stack));
            for (int p = 0; p < PLACES; p++) {
                int place = p;
                note("at", () -> yard.at(stack, place));
            }
        }
        for (int number = 0; number <= MOST_NUMBERS && askNumber(number); number++) {
            told.append("was number ").append(number).append('\n');
        }
    }

    /** Asks for the crate, the word and the haul of a number; false if there is none of the three. */
    private boolean askNumber(int number) {
        boolean crate = note("stackOf", () -> yard.stackOf(number));
        if (crate) {
            note("fewestLifts", () -> yard.fewestLifts(1 << number));
        }
        boolean word = note("hasPaid", () -> yard.hasPaid(number) ? 1 : 0);
        boolean haul = note("state", () -> yard.state(number));
        return crate || word || haul;
    }

    private void emptyTheCrane() {
        boolean empty = yard.crane() == CraneYard.NONE || note("load", yard::load);
        for (int s = 0; s < STACKS && !empty; s++) {
            int stack = s;
            empty = note("drop", () -> yard.drop(stack));
        }
    }

    private void giveAll(boolean withBids) {
        boolean there = true;
        for (int h = 0; there && h <= MOST_NUMBERS; h++) {
            int haul = h;
            if (withBids && isOffered(haul)) {
                bidFor(haul);
            }
            note("give", () -> yard.give(haul));
            there = note("state", () -> yard.state(haul));
        }
    }

    private void bidFor(int haul) {
        for (int haulier = HAULIERS - 1; haulier >= 0; haulier--) {
            int bidder = haulier;
            note("bid", () -> {
                yard.bid(haul, bidder, 1000 - bidder);
                return 0;
            });
        }
    }

    private boolean isOffered(int haul) {
        try {
            return yard.state(haul) == CraneYard.OFFERED;
        } catch (IndexOutOfBoundsException none) {
            return false;
        }
    }

    private void loadTops() {
        for (int s = 0; s < STACKS; s++) {
            int stack = s;
            if (note("lift", () -> yard.lift(stack)) && !note("load", yard::load)) {
                note("drop", () -> yard.drop(stack));
            }
        }
        note("balance", yard::balance);
    }

    /** Shows whether there is a storm, and how many crates can still arrive. */
    private void fillTheStacks() {
        int letter = 0;
        for (int s = 0; s < STACKS; s++) {
            int stack = s;
            boolean fits = true;
            for (int times = 0; fits && times <= PLACES; times++) {
                int next = letter;
                fits = note("arrive", () -> yard.arrive(1, next, stack));
                letter = (letter + 1) % 26;
            }
        }
        note("bonus", yard::bonus);
        note("storm", yard::storm);
    }

    private void tellWords() {
        boolean room = true;
        for (int word = 0; room && word <= MOST_NUMBERS; word++) {
            room = note("tell", () -> yard.tell(25, 25, CraneYard.NONE, CraneYard.NONE));
        }
    }

    /** Last days show in the balance of the days behind them. */
    private void letDaysPass() {
        int[] days = {1, 1, 1, 1, 1, 1, 1, 50, 40, 1, 1, 1, 1, 1, 100};
        for (int some : days) {
            note("pass", () -> yard.pass(some));
            note("balance", yard::balance);
        }
    }
}
