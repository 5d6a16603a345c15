/**
 * A crane yard: crates in stacks, a crane that holds one, words on the lids that pay bonuses, hauls that are
 * auctioned, storm days, and fees for buried crates.
 */
public final class CraneYard {
    public static final int NONE = -1;
    public static final int OFFERED = 0, GIVEN = 1, DONE = 2, LATE = 3;

    private static final int STACKS = 6;
    private static final int PLACES = 5;
    private static final int STORM_PLACES = 3;
    private static final int MOST_CRATES = 30;
    private static final int MOST_WEIGHT = 100;
    private static final int LETTERS = 26;
    private static final int MOST_CRATES_TO_DIG = 4;
    private static final int BITS = 32;
    private static final int MOST_WORDS = 8;
    private static final int MOST_WORD_LETTERS = 4;
    private static final int BONUS_PER_LETTER = 100;
    private static final int MOST_HAULS = 20;
    private static final int HAULIERS = 4;
    private static final int MOST_PRICE = 1000;
    private static final int OWED_IF_LATE = 50;
    private static final int MOST_DAYS_AHEAD = 100;
    private static final int LAST_DAY = 10000;

    private final Stacks stacks = new Stacks();
    // Digs are tried here, so that a dig that fails leaves the yard as it was.
    private final Stacks trial = new Stacks();
    private final Words words = new Words();
    private final Hauls hauls = new Hauls();
    private final int[] letters = new int[MOST_CRATES];
    private final int[] lids = new int[STACKS];
    private int crateCount = 0;
    private int craneCrate = NONE;
    private int liftCount = 0;
    private int day = 0;
    private boolean stormy = false;
    private int fees = 0;

    public CraneYard() {
    }

    // ---- yard

    public int arrive(int weight, int letter, int stack) throws IllegalArgumentException, IllegalStateException {
        if (weight < 1 || weight > MOST_WEIGHT) {
            throw new IllegalArgumentException("the weight is not 1 to 100");
        }
        requireLetter(letter);
        requireStack(stack);
        if (crateCount >= MOST_CRATES) {
            throw new IllegalStateException("30 crates have arrived");
        }
        requireRoom(stack, weight);
        int crate = crateCount;
        crateCount++;
        letters[crate] = letter;
        stacks.setWeight(crate, weight);
        stacks.put(stack, crate);
        payWords();
        return crate;
    }

    public int lift(int stack) throws IllegalArgumentException, IllegalStateException {
        requireStack(stack);
        requireEmptyCrane();
        if (stacks.heightOf(stack) == 0) {
            throw new IllegalStateException("the stack is empty");
        }
        craneCrate = stacks.takeTop(stack);
        liftCount++;
        payWords();
        return craneCrate;
    }

    public int drop(int stack) throws IllegalArgumentException, IllegalStateException {
        requireStack(stack);
        requireFullCrane();
        requireRoom(stack, stacks.weightOf(craneCrate));
        stacks.put(stack, craneCrate);
        craneCrate = NONE;
        payWords();
        return stacks.heightOf(stack);
    }

    public int dig(int crate) throws IndexOutOfBoundsException, IllegalStateException {
        requireCrate(crate);
        requireEmptyCrane();
        requireInStack(crate);
        trial.copyFrom(stacks);
        int taken = trial.digOut(crate, mostPlaces());
        if (taken == NONE) {
            throw new IllegalStateException("the crate cannot be dug out");
        }
        stacks.copyFrom(trial);
        craneCrate = crate;
        liftCount += taken;
        payWords();
        return taken;
    }

    public int crane() {
        return craneCrate;
    }

    public int height(int stack) throws IllegalArgumentException {
        requireStack(stack);
        return stacks.heightOf(stack);
    }

    public int at(int stack, int place) throws IllegalArgumentException {
        requireStack(stack);
        if (place < 0 || place >= PLACES) {
            throw new IllegalArgumentException("the place is not 0 to 4");
        }
        return stacks.crateAt(stack, place);
    }

    public int stackOf(int crate) throws IndexOutOfBoundsException {
        requireCrate(crate);
        return stacks.stackHolding(crate);
    }

    public int lifts() {
        return liftCount;
    }

    public int fewestLifts(int crates) throws IllegalArgumentException, IllegalStateException {
        if (!areInStacks(crates)) {
            throw new IllegalArgumentException("that is no set of 1 to 4 crates in stacks");
        }
        requireEmptyCrane();
        int orders = ordersOf(Integer.bitCount(crates));
        int fewest = NONE;
        for (int order = 0; order < orders; order++) {
            int taken = liftsInOrder(crates, order);
            if (taken != NONE && (fewest == NONE || taken < fewest)) {
                fewest = taken;
            }
        }
        return fewest;
    }

    // ---- words

    public int tell(int first, int second, int third, int fourth)
            throws IllegalArgumentException, IllegalStateException {
        requireLetter(first);
        requireLetter(second);
        if (third != NONE) {
            requireLetter(third);
        }
        if (fourth != NONE) {
            requireLetter(fourth);
            if (third == NONE) {
                throw new IllegalArgumentException("a fourth letter without a third one");
            }
        }
        if (words.number() >= MOST_WORDS) {
            throw new IllegalStateException("there are 8 words");
        }
        int word = words.add(first, second, third, fourth);
        payWords();
        return word;
    }

    public boolean hasPaid(int word) throws IndexOutOfBoundsException {
        if (word < 0 || word >= words.number()) {
            throw new IndexOutOfBoundsException("there is no such word");
        }
        return words.isPaid(word);
    }

    public int bonus() {
        return words.paidInAll();
    }

    // ---- hauls

    public int offer(int crate, int lastDay)
            throws IndexOutOfBoundsException, IllegalArgumentException, IllegalStateException {
        requireCrate(crate);
        if (lastDay < day || lastDay > day + MOST_DAYS_AHEAD) {
            throw new IllegalArgumentException("the last day is not today to today + 100");
        }
        requireInStack(crate);
        if (hauls.openHaulOf(crate) != NONE) {
            throw new IllegalStateException("the crate is in a haul");
        }
        if (hauls.number() >= MOST_HAULS) {
            throw new IllegalStateException("there are 20 hauls");
        }
        return hauls.add(crate, lastDay);
    }

    public void bid(int haul, int haulier, int price)
            throws IndexOutOfBoundsException, IllegalArgumentException, IllegalStateException {
        requireHaul(haul);
        if (haulier < 0 || haulier >= HAULIERS) {
            throw new IllegalArgumentException("the haulier is not 0 to 3");
        }
        if (price < 1 || price > MOST_PRICE) {
            throw new IllegalArgumentException("the price is not 1 to 1000");
        }
        requireOffered(haul);
        if (hauls.priceAsked(haul, haulier) != NONE) {
            throw new IllegalStateException("the haulier has bid");
        }
        hauls.enterBid(haul, haulier, price);
    }

    public int give(int haul) throws IndexOutOfBoundsException, IllegalStateException {
        requireHaul(haul);
        requireOffered(haul);
        int haulier = hauls.cheapestHaulier(haul);
        if (haulier == NONE) {
            throw new IllegalStateException("nobody has bid");
        }
        hauls.giveTo(haul, haulier);
        return haulier;
    }

    public int load() throws IllegalStateException {
        requireFullCrane();
        int haul = hauls.openHaulOf(craneCrate);
        if (haul == NONE || hauls.stateOf(haul) != GIVEN) {
            throw new IllegalStateException("the crate is in no haul that is GIVEN");
        }
        craneCrate = NONE;
        return hauls.finish(haul);
    }

    public int state(int haul) throws IndexOutOfBoundsException {
        requireHaul(haul);
        return hauls.stateOf(haul);
    }

    // ---- days

    public int storm() {
        stormy = true;
        return stacks.cratesAbove(mostPlaces());
    }

    public int pass(int days) throws IllegalArgumentException, IllegalStateException {
        if (days < 1 || days > MOST_DAYS_AHEAD) {
            throw new IllegalArgumentException("the days are not 1 to 100");
        }
        if (day + days > LAST_DAY) {
            throw new IllegalStateException("today would be above 10000");
        }
        int feesBefore = fees;
        for (int passed = 0; passed < days; passed++) {
            endDay();
        }
        return fees - feesBefore;
    }

    public int today() {
        return day;
    }

    public int balance() {
        return words.paidInAll() - fees - hauls.pricesOfDone() - hauls.owedForLate();
    }

    // ---- what the calls share

    private static void requireStack(int stack) {
        if (stack < 0 || stack >= STACKS) {
            throw new IllegalArgumentException("the stack is not 0 to 5");
        }
    }

    private static void requireLetter(int letter) {
        if (letter < 0 || letter >= LETTERS) {
            throw new IllegalArgumentException("the letter is not 0 to 25");
        }
    }

    private void requireCrate(int crate) {
        if (crate < 0 || crate >= crateCount) {
            throw new IndexOutOfBoundsException("there is no such crate");
        }
    }

    private void requireHaul(int haul) {
        if (haul < 0 || haul >= hauls.number()) {
            throw new IndexOutOfBoundsException("there is no such haul");
        }
    }

    private void requireOffered(int haul) {
        if (hauls.stateOf(haul) != OFFERED) {
            throw new IllegalStateException("the haul is not OFFERED");
        }
    }

    private void requireEmptyCrane() {
        if (craneCrate != NONE) {
            throw new IllegalStateException("the crane is not empty");
        }
    }

    private void requireFullCrane() {
        if (craneCrate == NONE) {
            throw new IllegalStateException("the crane is empty");
        }
    }

    private void requireInStack(int crate) {
        if (stacks.stackHolding(crate) == NONE) {
            throw new IllegalStateException("the crate is in no stack");
        }
    }

    private void requireRoom(int stack, int weight) {
        if (!stacks.canTake(stack, weight, mostPlaces())) {
            throw new IllegalStateException("the crate cannot be put onto the stack");
        }
    }

    private int mostPlaces() {
        return stormy ? STORM_PLACES : PLACES;
    }

    /** Pays the words that stand on the lids; due once behind each call that changes stacks or tells a word. */
    private void payWords() {
        int shown = 0;
        for (int stack = 0; stack < STACKS; stack++) {
            int top = stacks.topOf(stack);
            if (top >= 0 && top < MOST_CRATES && shown < STACKS) {
                lids[shown] = letters[top];
                shown++;
            }
        }
        words.payShown(lids, shown);
    }

    private void endDay() {
        fees += stacks.feeOfOneDay();
        hauls.endDay(day);
        day++;
        stormy = false;
    }

    /** Whether a set, bit c for crate c, has 1 to 4 crates, each in a stack. */
    private boolean areInStacks(int set) {
        int size = Integer.bitCount(set);
        if (size < 1 || size > MOST_CRATES_TO_DIG) {
            return false;
        }
        for (int crate = 0; crate < BITS; crate++) {
            if (contains(set, crate) && stacks.stackHolding(crate) == NONE) {
                return false;
            }
        }
        return true;
    }

    private static boolean contains(int set, int crate) {
        return (set >>> crate & 1) == 1;
    }

    private static int ordersOf(int size) {
        int orders = 1;
        for (int factor = 2; factor <= size; factor++) {
            orders *= factor;
        }
        return orders;
    }

    /**
     * The lifts for the crates of a set in one of the orders numbered from 0, or NONE. The number's digits, to the
     * base of how many crates are left, choose the next crate among those.
     */
    private int liftsInOrder(int set, int order) {
        trial.copyFrom(stacks);
        int left = set;
        int digits = order;
        int sum = 0;
        for (int count = Integer.bitCount(set); count > 0; count--) {
            int crate = memberOf(left, digits % count);
            int taken = trial.digOut(crate, mostPlaces());
            if (taken == NONE) {
                return NONE;
            }
            sum += taken;
            left &= ~(1 << crate);
            digits /= count;
        }
        return sum;
    }

    /** The crate of a set that has so many lower ones in it; NONE if the set is too small. */
    private static int memberOf(int set, int lowerOnes) {
        int passed = 0;
        for (int crate = 0; crate < MOST_CRATES; crate++) {
            if (contains(set, crate)) {
                if (passed == lowerOnes) {
                    return crate;
                }
                passed++;
            }
        }
        return NONE;
    }

    /** Which crates lie where, and how heavy they are. */
    private static final class Stacks {
        private final int[] heights = new int[STACKS];
        private final int[] cells = new int[STACKS * PLACES];
        private final int[] weights = new int[MOST_CRATES];

        void copyFrom(Stacks other) {
            System.arraycopy(other.heights, 0, heights, 0, STACKS);
            System.arraycopy(other.cells, 0, cells, 0, STACKS * PLACES);
            System.arraycopy(other.weights, 0, weights, 0, MOST_CRATES);
        }

        void setWeight(int crate, int weight) {
            if (crate >= 0 && crate < MOST_CRATES) {
                weights[crate] = weight;
            }
        }

        int weightOf(int crate) {
            return crate >= 0 && crate < MOST_CRATES ? weights[crate] : NONE;
        }

        int heightOf(int stack) {
            return stack >= 0 && stack < STACKS ? heights[stack] : 0;
        }

        int crateAt(int stack, int place) {
            return place >= 0 && place < heightOf(stack) ? cells[stack * PLACES + place] : NONE;
        }

        int topOf(int stack) {
            int height = heightOf(stack);
            return height > 0 ? cells[stack * PLACES + height - 1] : NONE;
        }

        int stackHolding(int crate) {
            for (int stack = 0; stack < STACKS; stack++) {
                for (int place = 0; place < heights[stack]; place++) {
                    if (cells[stack * PLACES + place] == crate) {
                        return stack;
                    }
                }
            }
            return NONE;
        }

        boolean canTake(int stack, int weight, int mostPlaces) {
            int height = heightOf(stack);
            return height < mostPlaces && (height == 0 || weightOf(topOf(stack)) >= weight);
        }

        void put(int stack, int crate) {
            int height = heightOf(stack);
            if (stack >= 0 && stack < STACKS && height < PLACES) {
                cells[stack * PLACES + height] = crate;
                heights[stack] = height + 1;
            }
        }

        int takeTop(int stack) {
            int top = topOf(stack);
            if (top != NONE) {
                heights[stack]--;
            }
            return top;
        }

        /** Digs a crate out and takes it away; returns the lifts, or NONE, with the stacks half dug, if it can't. */
        int digOut(int crate, int mostPlaces) {
            int home = stackHolding(crate);
            if (home == NONE) {
                return NONE;
            }
            for (int taken = 1; taken <= PLACES; taken++) {
                int top = takeTop(home);
                if (top == crate) {
                    return taken;
                }
                int target = targetFor(weightOf(top), home, mostPlaces);
                if (target == NONE) {
                    return NONE;
                }
                put(target, top);
            }
            return NONE;
        }

        /** Of the stacks but one that can take such a weight the one with the fewest crates, the lowest of several. */
        private int targetFor(int weight, int home, int mostPlaces) {
            int target = NONE;
            for (int stack = 0; stack < STACKS; stack++) {
                if (stack != home && canTake(stack, weight, mostPlaces)
                        && (target == NONE || heightOf(stack) < heightOf(target))) {
                    target = stack;
                }
            }
            return target;
        }

        int cratesAbove(int mostPlaces) {
            int above = 0;
            for (int stack = 0; stack < STACKS; stack++) {
                above += Math.max(0, heights[stack] - mostPlaces);
            }
            return above;
        }

        /** Each crate costs one coin for each crate on it. */
        int feeOfOneDay() {
            int fee = 0;
            for (int stack = 0; stack < STACKS; stack++) {
                fee += heights[stack] * (heights[stack] - 1) / 2;
            }
            return fee;
        }
    }

    /** The words told, and what they have paid. */
    private static final class Words {
        private final int[] letters = new int[MOST_WORDS * MOST_WORD_LETTERS];
        private final int[] lengths = new int[MOST_WORDS];
        private final boolean[] paid = new boolean[MOST_WORDS];
        private int count = 0;
        private int sum = 0;

        int number() {
            return count;
        }

        boolean isPaid(int word) {
            return word >= 0 && word < count && paid[word];
        }

        int paidInAll() {
            return sum;
        }

        /** Keeps a word, whose third and fourth letter may be NONE; there must be room for it. */
        int add(int first, int second, int third, int fourth) {
            if (count >= MOST_WORDS) {
                return NONE;
            }
            int word = count;
            count++;
            int start = word * MOST_WORD_LETTERS;
            letters[start] = first;
            letters[start + 1] = second;
            letters[start + 2] = third;
            letters[start + 3] = fourth;
            lengths[word] = third == NONE ? 2 : fourth == NONE ? 3 : 4;
            return word;
        }

        void payShown(int[] lids, int shown) {
            for (int word = 0; word < count; word++) {
                if (!paid[word] && isShown(word, lids, shown)) {
                    paid[word] = true;
                    sum += BONUS_PER_LETTER * lengths[word];
                }
            }
        }

        private boolean isShown(int word, int[] lids, int shown) {
            int lastStart = Math.min(shown, lids.length) - lengths[word];
            for (int from = 0; from <= lastStart; from++) {
                if (isShownFrom(from, word, lids)) {
                    return true;
                }
            }
            return false;
        }

        private boolean isShownFrom(int from, int word, int[] lids) {
            for (int letter = 0; letter < lengths[word]; letter++) {
                if (lids[from + letter] != letters[word * MOST_WORD_LETTERS + letter]) {
                    return false;
                }
            }
            return true;
        }
    }

    /** The hauls, the bids for them, and what they have cost. */
    private static final class Hauls {
        private final int[] crates = new int[MOST_HAULS];
        private final int[] lastDays = new int[MOST_HAULS];
        private final int[] states = new int[MOST_HAULS];
        private final int[] prices = new int[MOST_HAULS];
        // No bid is 0, which no price is.
        private final int[] bids = new int[MOST_HAULS * HAULIERS];
        private int count = 0;
        private int pricesPaid = 0;
        private int owed = 0;

        int number() {
            return count;
        }

        int pricesOfDone() {
            return pricesPaid;
        }

        int owedForLate() {
            return owed;
        }

        int stateOf(int haul) {
            return haul >= 0 && haul < count ? states[haul] : NONE;
        }

        private boolean isOpen(int haul) {
            int state = stateOf(haul);
            return state == OFFERED || state == GIVEN;
        }

        int openHaulOf(int crate) {
            for (int haul = 0; haul < count; haul++) {
                if (crates[haul] == crate && isOpen(haul)) {
                    return haul;
                }
            }
            return NONE;
        }

        /** Keeps an offered haul; there must be room for it. */
        int add(int crate, int lastDay) {
            if (count >= MOST_HAULS) {
                return NONE;
            }
            int haul = count;
            count++;
            crates[haul] = crate;
            lastDays[haul] = lastDay;
            states[haul] = OFFERED;
            return haul;
        }

        private boolean isPlaceForBid(int haul, int haulier) {
            return haul >= 0 && haul < count && haulier >= 0 && haulier < HAULIERS;
        }

        int priceAsked(int haul, int haulier) {
            if (!isPlaceForBid(haul, haulier) || bids[haul * HAULIERS + haulier] == 0) {
                return NONE;
            }
            return bids[haul * HAULIERS + haulier];
        }

        void enterBid(int haul, int haulier, int price) {
            if (isPlaceForBid(haul, haulier)) {
                bids[haul * HAULIERS + haulier] = price;
            }
        }

        /** The haulier with the lowest price, the lowest of several; NONE if nobody has bid. */
        int cheapestHaulier(int haul) {
            int cheapest = NONE;
            for (int haulier = 0; haulier < HAULIERS; haulier++) {
                int price = priceAsked(haul, haulier);
                if (price != NONE && (cheapest == NONE || price < priceAsked(haul, cheapest))) {
                    cheapest = haulier;
                }
            }
            return cheapest;
        }

        void giveTo(int haul, int haulier) {
            if (isPlaceForBid(haul, haulier)) {
                states[haul] = GIVEN;
                prices[haul] = priceAsked(haul, haulier);
            }
        }

        /** Makes a haul DONE; returns its price. */
        int finish(int haul) {
            if (haul < 0 || haul >= count) {
                return 0;
            }
            states[haul] = DONE;
            pricesPaid += prices[haul];
            return prices[haul];
        }

        /** Makes the open hauls LATE whose last day this is. */
        void endDay(int day) {
            for (int haul = 0; haul < count; haul++) {
                if (isOpen(haul) && lastDays[haul] == day) {
                    states[haul] = LATE;
                    owed += OWED_IF_LATE;
                }
            }
        }
    }
}
