/** The example of README.md, call by call, with the answers that are said there. */
public final class ReadmeTest {
    private static final Check CHECK = new Check();

    public static void main(String[] args) {
        CraneYard yard = new CraneYard();
        int low = yard.arrive(50, 0, 0);
        int high = yard.arrive(40, 1, 0);
        int haul = yard.offer(low, 3);
        yard.bid(haul, 2, 40);
        CHECK.same("give(haul)", yard.give(haul), 2);
        CHECK.same("dig(low)", yard.dig(low), 2);
        CHECK.same("crane()", yard.crane(), low);
        CHECK.stack(yard, 1, high);
        CHECK.same("load()", yard.load(), 40);
        CHECK.same("pass(1)", yard.pass(1), 0);
        CHECK.same("balance()", yard.balance(), -40);
        CHECK.finish();
    }
}
