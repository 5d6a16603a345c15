/** Yards to start a test with. */
final class Yards {
    private Yards() {
    }

    /** A yard in which crates of weight 10 and letter 0 have arrived on the stacks named, in this order. */
    static CraneYard with(int... stacks) {
        CraneYard yard = new CraneYard();
        arrive(yard, 10, 0, stacks);
        return yard;
    }

    /** Lets crates of one weight and letter arrive on the stacks named, in this order. */
    static void arrive(CraneYard yard, int weight, int letter, int... stacks) {
        for (int stack : stacks) {
            yard.arrive(weight, letter, stack);
        }
    }

    /** A yard in which crates of weight 10 and letter 0 have arrived, so many on each of the stacks 0, 1, ... */
    static CraneYard high(int... heights) {
        CraneYard yard = new CraneYard();
        for (int stack = 0; stack < heights.length; stack++) {
            for (int place = 0; place < heights[stack]; place++) {
                yard.arrive(10, 0, stack);
            }
        }
        return yard;
    }

    /** Lets days pass until it is a day, hundred by hundred. */
    static void passUntil(CraneYard yard, int day) {
        while (yard.today() < day) {
            yard.pass(Math.min(100, day - yard.today()));
        }
    }

    /** A yard in which one crate of weight 10 for each letter has arrived, on the stacks 0, 1, ... */
    static CraneYard showing(int... letters) {
        CraneYard yard = new CraneYard();
        for (int stack = 0; stack < letters.length; stack++) {
            yard.arrive(10, letters[stack], stack);
        }
        return yard;
    }

    /** A yard with the crate 0 on the stack 0, in the haul 0, which is given to haulier 0 at a price. */
    static CraneYard withHaul(int lastDay, int price) {
        CraneYard yard = with(0);
        yard.offer(0, lastDay);
        yard.bid(0, 0, price);
        yard.give(0);
        return yard;
    }
}
