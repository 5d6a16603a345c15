import java.util.ArrayList;
import java.util.Arrays;
import java.util.Collections;
import java.util.HashMap;
import java.util.HashSet;
import java.util.List;
import java.util.Map;
import java.util.Set;

/**
 * The document told once more, with lists and maps and no thought of speed, for RandomRunsTest to compare with. Of
 * the class under test it uses nothing.
 */
final class PlainYard {
    private record Crate(int number, int weight, char letter) {
    }

    private static final class Haul {
        private final Crate crate;
        private final int lastDay;
        private final Map<Integer, Integer> bids = new HashMap<>();
        private int state = 0;
        private int price = 0;

        Haul(Crate crate, int lastDay) {
            this.crate = crate;
            this.lastDay = lastDay;
        }

        boolean open() {
            return state < 2;
        }
    }

    private final List<Crate> arrived = new ArrayList<>();
    private List<List<Crate>> stacks = new ArrayList<>();
    private Crate hanging = null;
    private int lifts = 0;
    private final List<String> words = new ArrayList<>();
    private final Set<Integer> paid = new HashSet<>();
    private final List<Haul> hauls = new ArrayList<>();
    private int today = 0;
    private final Set<Integer> stormDays = new HashSet<>();
    private int fees = 0;

    PlainYard() {
        for (int i = 0; i < 6; i++) {
            stacks.add(new ArrayList<>());
        }
    }

    private static void argument(boolean fits) {
        if (!fits) {
            throw new IllegalArgumentException();
        }
    }

    private static void state(boolean fits) {
        if (!fits) {
            throw new IllegalStateException();
        }
    }

    private static <T> T of(List<T> all, int number) {
        if (number < 0 || number >= all.size()) {
            throw new IndexOutOfBoundsException();
        }
        return all.get(number);
    }

    private static boolean within(int value, int low, int high) {
        return low <= value && value <= high;
    }

    private boolean fits(List<Crate> stack, Crate crate) {
        int most = stormDays.contains(today) ? 3 : 5;
        return stack.size() < most && (stack.isEmpty() || stack.get(stack.size() - 1).weight >= crate.weight);
    }

    private static int find(List<List<Crate>> yard, Crate crate) {
        for (int i = 0; i < 6; i++) {
            if (yard.get(i).contains(crate)) {
                return i;
            }
        }
        return -1;
    }

    private static List<List<Crate>> copy(List<List<Crate>> yard) {
        List<List<Crate>> copy = new ArrayList<>();
        for (List<Crate> stack : yard) {
            copy.add(new ArrayList<>(stack));
        }
        return copy;
    }

    /** Takes a crate out of a yard by the told rule; -1 if it does not go. */
    private int unearth(List<List<Crate>> yard, Crate crate) {
        List<Crate> home = yard.get(find(yard, crate));
        int count = 0;
        while (home.indexOf(crate) < home.size() - 1) {
            Crate top = home.remove(home.size() - 1);
            List<Integer> choice = new ArrayList<>();
            for (int i = 0; i < 6; i++) {
                if (yard.get(i) != home && fits(yard.get(i), top)) {
                    choice.add(yard.get(i).size() * 10 + i);
                }
            }
            if (choice.isEmpty()) {
                return -1;
            }
            yard.get(Collections.min(choice) % 10).add(top);
            count++;
        }
        home.remove(crate);
        return count + 1;
    }

    private int fewest(List<List<Crate>> yard, Set<Crate> wanted) {
        if (wanted.isEmpty()) {
            return 0;
        }
        int best = -1;
        for (Crate crate : wanted) {
            List<List<Crate>> next = copy(yard);
            int first = unearth(next, crate);
            Set<Crate> others = new HashSet<>(wanted);
            others.remove(crate);
            int rest = first < 0 ? -1 : fewest(next, others);
            if (rest >= 0 && (best < 0 || first + rest < best)) {
                best = first + rest;
            }
        }
        return best;
    }

    private void payUp() {
        StringBuilder lids = new StringBuilder();
        for (List<Crate> stack : stacks) {
            if (!stack.isEmpty()) {
                lids.append(stack.get(stack.size() - 1).letter);
            }
        }
        for (int word = 0; word < words.size(); word++) {
            if (lids.indexOf(words.get(word)) >= 0) {
                paid.add(word);
            }
        }
    }

    int arrive(int weight, int letter, int stack) {
        argument(within(weight, 1, 100) && within(letter, 0, 25) && within(stack, 0, 5));
        Crate crate = new Crate(arrived.size(), weight, (char) ('a' + letter));
        state(arrived.size() < 30 && fits(stacks.get(stack), crate));
        arrived.add(crate);
        stacks.get(stack).add(crate);
        payUp();
        return crate.number;
    }

    int lift(int stack) {
        argument(within(stack, 0, 5));
        List<Crate> from = stacks.get(stack);
        state(hanging == null && !from.isEmpty());
        hanging = from.remove(from.size() - 1);
        lifts++;
        payUp();
        return hanging.number;
    }

    int drop(int stack) {
        argument(within(stack, 0, 5));
        state(hanging != null && fits(stacks.get(stack), hanging));
        stacks.get(stack).add(hanging);
        hanging = null;
        payUp();
        return stacks.get(stack).size();
    }

    int dig(int number) {
        Crate crate = of(arrived, number);
        state(hanging == null && find(stacks, crate) >= 0);
        List<List<Crate>> then = copy(stacks);
        int count = unearth(then, crate);
        state(count > 0);
        stacks = then;
        hanging = crate;
        lifts += count;
        payUp();
        return count;
    }

    int crane() {
        return hanging == null ? -1 : hanging.number;
    }

    int height(int stack) {
        argument(within(stack, 0, 5));
        return stacks.get(stack).size();
    }

    int at(int stack, int place) {
        argument(within(stack, 0, 5) && within(place, 0, 4));
        return place < stacks.get(stack).size() ? stacks.get(stack).get(place).number : -1;
    }

    int stackOf(int number) {
        return find(stacks, of(arrived, number));
    }

    int lifts() {
        return lifts;
    }

    int fewestLifts(int set) {
        Set<Crate> wanted = new HashSet<>();
        for (int bit = 0; bit < 32; bit++) {
            if ((set & 1L << bit) != 0) {
                argument(bit < arrived.size() && find(stacks, arrived.get(bit)) >= 0);
                wanted.add(arrived.get(bit));
            }
        }
        argument(within(wanted.size(), 1, 4));
        state(hanging == null);
        return fewest(stacks, wanted);
    }

    int tell(int first, int second, int third, int fourth) {
        int[] letters = {first, second, third, fourth};
        StringBuilder word = new StringBuilder();
        for (int i = 0; i < 4; i++) {
            argument(within(letters[i], i < 2 ? 0 : -1, 25));
            argument(letters[i] < 0 || word.length() == i);
            if (letters[i] >= 0) {
                word.append((char) ('a' + letters[i]));
            }
        }
        state(words.size() < 8);
        words.add(word.toString());
        payUp();
        return words.size() - 1;
    }

    boolean hasPaid(int word) {
        of(words, word);
        return paid.contains(word);
    }

    int bonus() {
        int sum = 0;
        for (int word : paid) {
            sum += 100 * words.get(word).length();
        }
        return sum;
    }

    private Haul openHaul(Crate crate) {
        for (Haul haul : hauls) {
            if (haul.crate == crate && haul.open()) {
                return haul;
            }
        }
        return null;
    }

    int offer(int number, int lastDay) {
        Crate crate = of(arrived, number);
        argument(within(lastDay, today, today + 100));
        state(find(stacks, crate) >= 0 && openHaul(crate) == null && hauls.size() < 20);
        hauls.add(new Haul(crate, lastDay));
        return hauls.size() - 1;
    }

    void bid(int number, int haulier, int price) {
        Haul haul = of(hauls, number);
        argument(within(haulier, 0, 3) && within(price, 1, 1000));
        state(haul.state == 0 && !haul.bids.containsKey(haulier));
        haul.bids.put(haulier, price);
    }

    int give(int number) {
        Haul haul = of(hauls, number);
        state(haul.state == 0 && !haul.bids.isEmpty());
        haul.price = Collections.min(haul.bids.values());
        haul.state = 1;
        int[] takers = haul.bids.keySet().stream().filter(h -> haul.bids.get(h) == haul.price)
                .mapToInt(Integer::intValue).toArray();
        return Arrays.stream(takers).min().getAsInt();
    }

    int load() {
        state(hanging != null);
        Haul haul = openHaul(hanging);
        state(haul != null && haul.state == 1);
        haul.state = 2;
        hanging = null;
        return haul.price;
    }

    int state(int haul) {
        return of(hauls, haul).state;
    }

    int storm() {
        stormDays.add(today);
        int above = 0;
        for (List<Crate> stack : stacks) {
            above += stack.size() > 3 ? stack.size() - 3 : 0;
        }
        return above;
    }

    int pass(int days) {
        argument(within(days, 1, 100));
        state(today + days <= 10000);
        int cost = 0;
        for (int i = 0; i < days; i++) {
            for (List<Crate> stack : stacks) {
                for (Crate crate : stack) {
                    cost += stack.size() - 1 - stack.indexOf(crate);
                }
            }
            for (Haul haul : hauls) {
                haul.state = haul.open() && haul.lastDay <= today ? 3 : haul.state;
            }
            today++;
        }
        fees += cost;
        return cost;
    }

    int today() {
        return today;
    }

    int balance() {
        int sum = bonus() - fees;
        for (Haul haul : hauls) {
            sum -= haul.state == 2 ? haul.price : haul.state == 3 ? 50 : 0;
        }
        return sum;
    }
}
