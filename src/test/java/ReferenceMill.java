import java.util.ArrayDeque;
import java.util.ArrayList;
import java.util.Comparator;
import java.util.Deque;
import java.util.HashMap;
import java.util.HashSet;
import java.util.List;
import java.util.Map;
import java.util.NoSuchElementException;
import java.util.Set;
import java.util.regex.Matcher;
import java.util.regex.Pattern;

/** The mill once more, written straight from the document with other means, for comparison with the program. */
public final class ReferenceMill {
    private record Bale(int id, int weight, int staple, int price) {
        int value() {
            return weight * price;
        }
    }

    private record Order(int id, int length, int twist) {
        int minutes() {
            return length * twist;
        }
    }

    private static final class State {
        List<Bale> bales = new ArrayList<>();
        List<Order> orders = new ArrayList<>();
        List<Integer> pieces = new ArrayList<>();
        List<Bale> bought = new ArrayList<>();
        List<Integer> soldFor = new ArrayList<>();
        int openedOrders;
        int roving;
        int machines = 1;
        int clock;
        int coins = 1000;
        int spun;
        int waste;
        int sold;

        State copy() {
            State copy = new State();
            copy.bales = new ArrayList<>(bales);
            copy.orders = new ArrayList<>(orders);
            copy.pieces = new ArrayList<>(pieces);
            copy.bought = new ArrayList<>(bought);
            copy.soldFor = new ArrayList<>(soldFor);
            copy.openedOrders = openedOrders;
            copy.roving = roving;
            copy.machines = machines;
            copy.clock = clock;
            copy.coins = coins;
            copy.spun = spun;
            copy.waste = waste;
            copy.sold = sold;
            return copy;
        }
    }

    private static final String NUMBER = "[0-9][0-9]?[0-9]?";
    private static final String COMMAND = ("(bale N N N|blend N N|order N N|cancel N|machines [0-9]|spin N|splice N|"
            + "join|sell N)").replace("N", NUMBER);
    private static final Pattern SCRIPT = Pattern.compile(COMMAND + "(;" + COMMAND + ")*");

    private State now = new State();
    private State saved;
    private final Deque<State> earlier = new ArrayDeque<>();
    private boolean inScript;
    private String buffer = "";
    private String output = "";
    private Integer errorAt;
    private Integer failedAt;

    private void changing() {
        if (!inScript) {
            earlier.addLast(now.copy());
            if (earlier.size() > 8) {
                earlier.removeFirst();
            }
        }
    }

    private static void argument(boolean right) {
        if (!right) {
            throw new IllegalArgumentException();
        }
    }

    private static void state(boolean right) {
        if (!right) {
            throw new IllegalStateException();
        }
    }

    private static void support(boolean right) {
        if (!right) {
            throw new UnsupportedOperationException();
        }
    }

    private static <T> T element(List<T> list, int position) {
        if (position < 0 || position >= list.size()) {
            throw new NoSuchElementException();
        }
        return list.get(position);
    }

    private int piece(int position) {
        if (position < 0 || position >= now.pieces.size()) {
            throw new IndexOutOfBoundsException();
        }
        return now.pieces.get(position);
    }

    private Bale bale(int id) {
        return now.bales.stream().filter(bale -> bale.id() == id).findFirst().orElseThrow();
    }

    private Order order(int id) {
        return now.orders.stream().filter(order -> order.id() == id).findFirst().orElseThrow();
    }

    public int buyBale(int weight, int staple, int price) {
        argument(weight >= 1 && weight <= 50 && staple >= 10 && staple <= 60 && price >= 1 && price <= 20);
        state(now.bales.size() < 10);
        support(now.coins >= weight * price);
        changing();
        Bale bale = new Bale(now.bought.size(), weight, staple, price);
        now.bought.add(bale);
        now.bales.add(bale);
        now.coins -= bale.value();
        return bale.id();
    }

    /** The best blend of the bales from an index on together with those that were chosen before, or null. */
    private List<Bale> best(List<Bale> chosen, int index, int need, int staple) {
        if (index == now.bales.size()) {
            int weight = chosen.stream().mapToInt(Bale::weight).sum();
            long products = chosen.stream().mapToLong(bale -> (long) bale.weight() * bale.staple()).sum();
            return weight >= need && products >= (long) weight * staple ? chosen : null;
        }
        List<Bale> with = new ArrayList<>(chosen);
        with.add(now.bales.get(index));
        List<Bale> one = best(with, index + 1, need, staple);
        List<Bale> other = best(chosen, index + 1, need, staple);
        if (one == null || other == null) {
            return one == null ? other : one;
        }
        Comparator<List<Bale>> order = Comparator.<List<Bale>>comparingInt(ReferenceMill::value)
                .thenComparingInt(blend -> blend.stream().mapToInt(Bale::weight).sum());
        // The first blend has the bale at the index, which the other has not, and both have the same before it.
        return order.compare(one, other) <= 0 ? one : other;
    }

    private static int value(List<Bale> blend) {
        return blend.stream().mapToInt(Bale::value).sum();
    }

    private List<Bale> best(int need, int staple) {
        argument(need >= 1 && need <= 500 && staple >= 10 && staple <= 60);
        return best(List.of(), 0, need, staple);
    }

    public int blend(int need, int staple) {
        List<Bale> best = best(need, staple);
        support(best != null);
        int weight = best.stream().mapToInt(Bale::weight).sum();
        state(now.roving + weight <= 999);
        changing();
        now.bales.removeAll(best);
        now.roving += weight;
        return now.roving;
    }

    public int addOrder(int length, int twist) {
        argument(length >= 1 && length <= 40 && twist >= 1 && twist <= 9);
        state(now.orders.size() < 8);
        changing();
        now.orders.add(new Order(now.openedOrders, length, twist));
        return now.openedOrders++;
    }

    public int cancelOrder(int order) {
        Order found = order(order);
        changing();
        now.orders.remove(found);
        return now.orders.size();
    }

    public int setMachines(int machines) {
        argument(machines >= 1 && machines <= 3);
        changing();
        int previous = now.machines;
        now.machines = machines;
        return previous;
    }

    private static List<Integer> pieces(Order order) {
        List<Integer> pieces = new ArrayList<>();
        int left = order.length();
        while (left > 0) {
            int piece = Math.min(left, 3 + order.twist());
            pieces.add(piece);
            left -= piece;
        }
        return pieces;
    }

    public int spin(int order) {
        Order found = order(order);
        List<Integer> pieces = pieces(found);
        support(now.roving >= found.length());
        state(now.pieces.size() + pieces.size() <= 12);
        changing();
        now.orders.remove(found);
        now.roving -= found.length();
        now.spun += found.length();
        now.clock += found.minutes();
        now.pieces.addAll(pieces);
        return pieces.size();
    }

    public int splice(int position) {
        piece(position);
        if (position + 1 >= now.pieces.size()) {
            throw new IndexOutOfBoundsException();
        }
        changing();
        int both = now.pieces.get(position) + now.pieces.remove(position + 1);
        now.pieces.set(position, both - 1);
        now.clock += both;
        now.waste += 1;
        return both - 1;
    }

    /** Splices each two neighbours in turn, and then what is left of the row. */
    private static int cheapest(List<Integer> row, Map<List<Integer>, Integer> known) {
        if (row.size() < 2) {
            return 0;
        }
        Integer cost = known.get(row);
        if (cost == null) {
            cost = Integer.MAX_VALUE;
            for (int position = 0; position + 1 < row.size(); position++) {
                List<Integer> rest = new ArrayList<>(row);
                int both = rest.remove(position) + rest.remove(position);
                rest.add(position, both - 1);
                cost = Math.min(cost, both + cheapest(rest, known));
            }
            known.put(row, cost);
        }
        return cost;
    }

    public int spliceAll() {
        state(now.pieces.size() >= 2);
        changing();
        now.clock += spliceCost();
        now.waste += now.pieces.size() - 1;
        int length = shelfLength() - now.pieces.size() + 1;
        now.pieces = new ArrayList<>(List.of(length));
        return length;
    }

    public int sell(int position) {
        int worth = worthOf(position);
        changing();
        now.sold += now.pieces.remove(position);
        now.coins += worth;
        now.soldFor.add(worth);
        return worth;
    }

    public int baleCount() {
        return now.bales.size();
    }

    public int baleAt(int position) {
        return element(now.bales, position).id();
    }

    public int weight(int bale) {
        return bale(bale).weight();
    }

    public int staple(int bale) {
        return bale(bale).staple();
    }

    public int price(int bale) {
        return bale(bale).price();
    }

    public int baleByValue(int rank) {
        List<Bale> sorted = new ArrayList<>(now.bales);
        sorted.sort(Comparator.comparingInt((Bale bale) -> -bale.value())
                .thenComparingInt(bale -> -bale.staple()).thenComparingInt(Bale::id));
        return element(sorted, rank).id();
    }

    public int blendValue(int need, int staple) {
        List<Bale> best = best(need, staple);
        if (best == null) {
            throw new NoSuchElementException();
        }
        return value(best);
    }

    public int blendValueBySearch(int need, int staple) {
        return blendValue(need, staple);
    }

    public boolean isInBlend(int bale, int need, int staple) {
        Bale found = bale(bale);
        List<Bale> best = best(need, staple);
        support(best != null);
        return best.contains(found);
    }

    public int orderCount() {
        return now.orders.size();
    }

    public int orderAt(int position) {
        return element(now.orders, position).id();
    }

    public int lengthOf(int order) {
        return order(order).length();
    }

    public int twistOf(int order) {
        return order(order).twist();
    }

    public int minutesOf(int order) {
        return order(order).minutes();
    }

    public boolean canSpin(int order) {
        Order found = order(order);
        return now.roving >= found.length() && now.pieces.size() + pieces(found).size() <= 12;
    }

    public int kinds() {
        Set<List<Integer>> kinds = new HashSet<>();
        now.orders.forEach(order -> kinds.add(List.of(order.length(), order.twist())));
        return kinds.size();
    }

    public int orderByTime(int rank) {
        List<Order> sorted = new ArrayList<>(now.orders);
        sorted.sort(Comparator.comparingInt((Order order) -> -order.minutes()).thenComparingInt(Order::id));
        return element(sorted, rank).id();
    }

    public int shortestTime() {
        int ways = 1;
        for (int order = 0; order < now.orders.size(); order++) {
            ways *= now.machines;
        }
        int shortest = Integer.MAX_VALUE;
        for (int way = 0; way < ways; way++) {
            int[] loads = new int[now.machines];
            int rest = way;
            for (Order order : now.orders) {
                loads[rest % now.machines] += order.minutes();
                rest /= now.machines;
            }
            int time = 0;
            for (int load : loads) {
                time = Math.max(time, load);
            }
            shortest = Math.min(shortest, time);
        }
        return shortest;
    }

    public int shortestTimeBySearch() {
        return shortestTime();
    }

    public int pieceCount() {
        return now.pieces.size();
    }

    public int pieceLength(int position) {
        return piece(position);
    }

    public int longestPiece() {
        int longest = now.pieces.stream().max(Comparator.naturalOrder()).orElseThrow();
        return now.pieces.indexOf(longest);
    }

    public int pieceByLength(int rank) {
        List<Integer> positions = new ArrayList<>();
        for (int position = 0; position < now.pieces.size(); position++) {
            positions.add(position);
        }
        positions.sort(Comparator.comparingInt((Integer position) -> now.pieces.get(position)));
        return element(positions, rank);
    }

    public int worthOf(int position) {
        int length = piece(position);
        return length * (length < 10 ? 2 : 5);
    }

    public int spliceCost() {
        return cheapest(now.pieces, new HashMap<>());
    }

    public int spliceCostByMemory() {
        return spliceCost();
    }

    public int roving() {
        return now.roving;
    }

    public int machines() {
        return now.machines;
    }

    public int clock() {
        return now.clock;
    }

    public int coins() {
        return now.coins;
    }

    public int coinsByAccounts() {
        return 1000 - value(now.bought) + now.soldFor.stream().mapToInt(Integer::intValue).sum();
    }

    public int spunTotal() {
        return now.spun;
    }

    public int wasteTotal() {
        return now.waste;
    }

    public int soldTotal() {
        return now.sold;
    }

    public int shelfLength() {
        return now.pieces.stream().mapToInt(Integer::intValue).sum();
    }

    public int shelfLengthByAccounts() {
        return shelfLength();
    }

    public double meanLength() {
        return now.pieces.stream().mapToInt(Integer::intValue).average()
                .orElseThrow(() -> new ArithmeticException());
    }

    public float longShare() {
        if (now.pieces.isEmpty()) {
            throw new ArithmeticException();
        }
        return (float) now.pieces.stream().filter(length -> length >= 10).count() / (float) now.pieces.size();
    }

    public boolean isConsistent() {
        return true;
    }

    public int renderShelf() {
        List<String> texts = new ArrayList<>();
        now.pieces.forEach(length -> texts.add(length.toString()));
        output = String.join("-", texts);
        return output.length();
    }

    public int renderOrder(int order) {
        Order found = order(order);
        output = order + ":" + found.length() + "kmt" + found.twist() + (canSpin(order) ? "" : "!");
        return output.length();
    }

    public char outputAt(int index) {
        if (index < 0 || index >= output.length()) {
            throw new IndexOutOfBoundsException();
        }
        return output.charAt(index);
    }

    public int type(char character) {
        argument(character >= ' ' && character <= '~');
        state(buffer.length() < 60);
        buffer += character;
        return buffer.length();
    }

    private static boolean canGoOn(String text) {
        Matcher matcher = SCRIPT.matcher(text);
        return matcher.matches() || matcher.hitEnd();
    }

    public int runScript() {
        String script = buffer;
        buffer = "";
        if (!SCRIPT.matcher(script).matches()) {
            int right = 0;
            while (right < script.length() && canGoOn(script.substring(0, right + 1))) {
                right++;
            }
            errorAt = right;
            throw new IllegalArgumentException();
        }
        State before = now.copy();
        String[] commands = script.split(";");
        inScript = true;
        for (int index = 0; index < commands.length; index++) {
            try {
                execute(commands[index]);
            } catch (RuntimeException thrown) {
                now = before;
                failedAt = index;
                inScript = false;
                throw new IllegalStateException();
            }
        }
        inScript = false;
        State after = now;
        now = before;
        changing();
        now = after;
        return commands.length;
    }

    private void execute(String command) {
        String[] words = command.split(" ");
        int[] numbers = new int[3];
        for (int index = 1; index < words.length; index++) {
            numbers[index - 1] = Integer.parseInt(words[index]);
        }
        switch (words[0]) {
            case "bale" -> buyBale(numbers[0], numbers[1], numbers[2]);
            case "blend" -> blend(numbers[0], numbers[1]);
            case "order" -> addOrder(numbers[0], numbers[1]);
            case "cancel" -> cancelOrder(numbers[0]);
            case "machines" -> setMachines(numbers[0]);
            case "spin" -> spin(numbers[0]);
            case "splice" -> splice(numbers[0]);
            case "join" -> spliceAll();
            case "sell" -> sell(numbers[0]);
            default -> throw new AssertionError(command);
        }
    }

    public int errorPosition() {
        if (errorAt == null) {
            throw new NoSuchElementException();
        }
        return errorAt;
    }

    public int failedCommand() {
        if (failedAt == null) {
            throw new NoSuchElementException();
        }
        return failedAt;
    }

    public int undo() {
        now = earlier.removeLast();
        return earlier.size();
    }

    public int save() {
        saved = now.copy();
        return now.pieces.size();
    }

    public int restore() {
        state(saved != null);
        now = saved.copy();
        earlier.clear();
        return now.pieces.size();
    }
}
