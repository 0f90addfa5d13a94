import java.util.NoSuchElementException;

/**
 * A spinning mill: bales of fibre are bought and blended to roving, orders are spun on machines, the yarn breaks
 * into pieces on a shelf, pieces are spliced and sold, and lengths and coins are accounted for.
 */
public final class YarnMill {
    private static final int MOST_BALES = 10;
    private static final int MOST_WEIGHT = 50;
    private static final int LEAST_STAPLE = 10;
    private static final int MOST_STAPLE = 60;
    private static final int MOST_PRICE = 20;
    private static final int FIRST_COINS = 1000;
    private static final int MOST_NEED = 500;
    private static final int MOST_ROVING = 999;
    private static final int MOST_ORDERS = 8;
    private static final int MOST_LENGTH = 40;
    private static final int MOST_TWIST = 9;
    private static final int MOST_MACHINES = 3;
    private static final int SHORTEST_BREAK = 3;
    private static final int MOST_PIECES = 12;
    private static final int LONG_PIECE = 10;
    private static final int LONG_PIECE_COINS = 5;
    private static final int SHORT_PIECE_COINS = 2;
    private static final int MOST_SIGNS = 60;
    private static final int FIRST_SIGN = 32;
    private static final int LAST_SIGN = 126;
    private static final int MOST_NUMBERS = 3;
    private static final int MOST_UNDOS = 8;
    private static final int NONE = -1;
    // More than any sum of values, any time and any cost.
    private static final int UNREACHED = 2147483647;

    private final Stock stock = new Stock();
    private final Stock beforeScript = new Stock();
    private final Stock snapshot = new Stock();
    private boolean hasSnapshot;
    private final History history = new History();
    private final BlendFinder blends = new BlendFinder();
    private final TimeFinder times = new TimeFinder();
    private final SpliceFinder splices = new SpliceFinder();
    private final Row keys = new Row(MOST_PIECES);
    private final Script script = new Script();
    private final StringBuilder output = new StringBuilder();
    private int errorAt = NONE;
    private int failedAt = NONE;

    public YarnMill() {
    }

    // Changes.

    public int buyBale(int weight, int staple, int price)
            throws IllegalArgumentException, IllegalStateException, UnsupportedOperationException {
        return change(Command.BALE, weight, staple, price);
    }

    public int blend(int need, int staple)
            throws IllegalArgumentException, UnsupportedOperationException, IllegalStateException {
        return change(Command.BLEND, need, staple, 0);
    }

    public int addOrder(int length, int twist) throws IllegalArgumentException, IllegalStateException {
        return change(Command.ORDER, length, twist, 0);
    }

    public int cancelOrder(int order) throws NoSuchElementException {
        return change(Command.CANCEL, order, 0, 0);
    }

    public int setMachines(int machines) throws IllegalArgumentException {
        return change(Command.MACHINES, machines, 0, 0);
    }

    public int spin(int order)
            throws NoSuchElementException, UnsupportedOperationException, IllegalStateException {
        return change(Command.SPIN, order, 0, 0);
    }

    public int splice(int position) throws IndexOutOfBoundsException {
        return change(Command.SPLICE, position, 0, 0);
    }

    public int spliceAll() throws IllegalStateException {
        return change(Command.JOIN, 0, 0, 0);
    }

    public int sell(int position) throws IndexOutOfBoundsException {
        return change(Command.SELL, position, 0, 0);
    }

    // Bales.

    public int baleCount() {
        return stock.bales.ids.size();
    }

    public int baleAt(int position) throws NoSuchElementException {
        if (!stock.bales.ids.has(position)) {
            throw new NoSuchElementException("there is no bale at this position");
        }
        return stock.bales.ids.get(position);
    }

    public int weight(int bale) throws NoSuchElementException {
        return stock.bales.weights.get(positionOfBale(bale));
    }

    public int staple(int bale) throws NoSuchElementException {
        return stock.bales.staples.get(positionOfBale(bale));
    }

    public int price(int bale) throws NoSuchElementException {
        return stock.bales.prices.get(positionOfBale(bale));
    }

    public int baleByValue(int rank) throws NoSuchElementException {
        stock.bales.putKeys(keys);
        return stock.bales.ids.get(positionAtRank(keys, rank));
    }

    // Blends.

    public int blendValue(int need, int staple) throws IllegalArgumentException, NoSuchElementException {
        testBlend(need, staple);
        return blendValueFound(blends.valueByAllSets(stock.bales, need, staple));
    }

    public int blendValueBySearch(int need, int staple) throws IllegalArgumentException, NoSuchElementException {
        testBlend(need, staple);
        return blendValueFound(blends.valueBySearch(stock.bales, need, staple));
    }

    public boolean isInBlend(int bale, int need, int staple)
            throws NoSuchElementException, IllegalArgumentException, UnsupportedOperationException {
        int position = positionOfBale(bale);
        testBlend(need, staple);
        int set = blends.bestSet(stock.bales, need, staple);
        if (set == 0) {
            throw new UnsupportedOperationException("there is no such blend");
        }
        return (set & 1 << position) != 0;
    }

    // Orders.

    public int orderCount() {
        return stock.orders.ids.size();
    }

    public int orderAt(int position) throws NoSuchElementException {
        if (!stock.orders.ids.has(position)) {
            throw new NoSuchElementException("there is no open order at this position");
        }
        return stock.orders.ids.get(position);
    }

    public int lengthOf(int order) throws NoSuchElementException {
        return stock.orders.lengths.get(positionOfOrder(order));
    }

    public int twistOf(int order) throws NoSuchElementException {
        return stock.orders.twists.get(positionOfOrder(order));
    }

    public int minutesOf(int order) throws NoSuchElementException {
        return stock.orders.minutes.get(positionOfOrder(order));
    }

    public boolean canSpin(int order) throws NoSuchElementException {
        return stock.refusalOfSpinning(positionOfOrder(order)) == Refusal.NONE;
    }

    public int kinds() {
        return stock.orders.countKinds();
    }

    public int orderByTime(int rank) throws NoSuchElementException {
        stock.orders.putKeys(keys);
        return stock.orders.ids.get(positionAtRank(keys, rank));
    }

    public int shortestTime() {
        return times.shortestBySets(stock.orders, stock.machines);
    }

    public int shortestTimeBySearch() {
        return times.shortestBySearch(stock.orders, stock.machines);
    }

    // Shelf.

    public int pieceCount() {
        return stock.pieces.size();
    }

    public int pieceLength(int position) throws IndexOutOfBoundsException {
        testPiece(position);
        return stock.pieces.get(position);
    }

    public int longestPiece() throws NoSuchElementException {
        if (stock.pieces.size() == 0) {
            throw new NoSuchElementException("there are no pieces");
        }
        return stock.pieces.positionOfLargest();
    }

    public int pieceByLength(int rank) throws NoSuchElementException {
        return positionAtRank(stock.pieces, rank);
    }

    public int worthOf(int position) throws IndexOutOfBoundsException {
        testPiece(position);
        return stock.worthAt(position);
    }

    public int spliceCost() {
        return splices.costByTable(stock.pieces);
    }

    public int spliceCostByMemory() {
        return splices.costByMemory(stock.pieces);
    }

    // Totals and checks.

    public int roving() {
        return stock.roving;
    }

    public int machines() {
        return stock.machines;
    }

    public int clock() {
        return stock.clock;
    }

    public int coins() {
        return stock.coins;
    }

    public int coinsByAccounts() {
        return stock.accountedCoins();
    }

    public int spunTotal() {
        return stock.spun;
    }

    public int wasteTotal() {
        return stock.waste;
    }

    public int soldTotal() {
        return stock.sold;
    }

    public int shelfLength() {
        return stock.pieces.sum();
    }

    public int shelfLengthByAccounts() {
        return stock.accountedLength();
    }

    public double meanLength() throws ArithmeticException {
        testShelf();
        return (double) stock.pieces.sum() / (double) stock.pieces.size();
    }

    public float longShare() throws ArithmeticException {
        testShelf();
        return (float) stock.countLongPieces() / (float) stock.pieces.size();
    }

    public boolean isConsistent() {
        return blendWaysAgree(1, 10)
                && blendWaysAgree(20, 30)
                && blendWaysAgree(60, 45)
                && times.shortestBySets(stock.orders, stock.machines)
                        == times.shortestBySearch(stock.orders, stock.machines)
                && splices.costByTable(stock.pieces) == splices.costByMemory(stock.pieces)
                && stock.coins == stock.accountedCoins()
                && stock.pieces.sum() == stock.accountedLength();
    }

    // Output and scripts.

    public int renderShelf() {
        output.setLength(0);
        for (int position = 0; position < stock.pieces.size(); position++) {
            if (position > 0) {
                output.append('-');
            }
            output.append(stock.pieces.get(position));
        }
        return output.length();
    }

    public int renderOrder(int order) throws NoSuchElementException {
        int position = positionOfOrder(order);
        output.setLength(0);
        output.append(order).append(':').append(stock.orders.lengths.get(position));
        output.append("kmt").append(stock.orders.twists.get(position));
        if (stock.refusalOfSpinning(position) != Refusal.NONE) {
            output.append('!');
        }
        return output.length();
    }

    public char outputAt(int index) throws IndexOutOfBoundsException {
        if (index < 0 || index >= output.length()) {
            throw new IndexOutOfBoundsException("the output text has no such index");
        }
        return output.charAt(index);
    }

    public int type(char character) throws IllegalArgumentException, IllegalStateException {
        if (character < FIRST_SIGN || character > LAST_SIGN) {
            throw new IllegalArgumentException("the character cannot be typed");
        }
        if (script.isFull()) {
            throw new IllegalStateException("the script buffer is full");
        }
        return script.append(character);
    }

    public int runScript() throws IllegalArgumentException, IllegalStateException {
        int error = script.readForm();
        script.empty();
        if (error != NONE) {
            errorAt = error;
            throw new IllegalArgumentException("the script does not have the required form");
        }
        beforeScript.copyFrom(stock);
        int failed = runCommands();
        if (failed != NONE) {
            stock.copyFrom(beforeScript);
            failedAt = failed;
            throw new IllegalStateException("a command of the script failed");
        }
        history.record(beforeScript);
        return script.count();
    }

    public int errorPosition() throws NoSuchElementException {
        if (errorAt == NONE) {
            throw new NoSuchElementException("every script had the required form");
        }
        return errorAt;
    }

    public int failedCommand() throws NoSuchElementException {
        if (failedAt == NONE) {
            throw new NoSuchElementException("no command of a script has failed");
        }
        return failedAt;
    }

    public int undo() throws NoSuchElementException {
        if (history.count() == 0) {
            throw new NoSuchElementException("there is nothing to undo");
        }
        history.takeBack(stock);
        return history.count();
    }

    public int save() {
        snapshot.copyFrom(stock);
        hasSnapshot = true;
        return stock.pieces.size();
    }

    public int restore() throws IllegalStateException {
        if (!hasSnapshot) {
            throw new IllegalStateException("there is no snapshot");
        }
        stock.copyFrom(snapshot);
        history.forget();
        return stock.pieces.size();
    }

    // What the calls of the face share.

    private int change(Command command, int first, int second, int third) {
        throwFor(refusalOf(command, first, second, third));
        history.record(stock);
        return carryOut(command, first, second, third);
    }

    private static void throwFor(Refusal refusal) {
        if (refusal == Refusal.ARGUMENT) {
            throw new IllegalArgumentException("an argument is out of its range");
        }
        if (refusal == Refusal.STATE) {
            throw new IllegalStateException("there is no room, or too little to work on");
        }
        if (refusal == Refusal.UNSUPPORTED) {
            throw new UnsupportedOperationException("there are too few coins, bales or kilograms");
        }
        if (refusal == Refusal.ELEMENT) {
            throw new NoSuchElementException("there is no such open order");
        }
        if (refusal == Refusal.INDEX) {
            throw new IndexOutOfBoundsException("there is no such position on the shelf");
        }
    }

    /** Tells why a change can't be made now; scripts ask the same question without any exception. */
    private Refusal refusalOf(Command command, int first, int second, int third) {
        switch (command) {
            case BALE:
                return stock.refusalOfBuying(first, second, third);
            case BLEND:
                return refusalOfBlending(first, second);
            case ORDER:
                return stock.orders.refusalOfOpening(first, second);
            case CANCEL:
                return stock.orders.ids.has(stock.orders.ids.find(first)) ? Refusal.NONE : Refusal.ELEMENT;
            case MACHINES:
                return isBetween(first, 1, MOST_MACHINES) ? Refusal.NONE : Refusal.ARGUMENT;
            case SPIN:
                return stock.refusalOfSpinning(stock.orders.ids.find(first));
            case SPLICE:
                return stock.pieces.hasPair(first) ? Refusal.NONE : Refusal.INDEX;
            case JOIN:
                return stock.pieces.size() < 2 ? Refusal.STATE : Refusal.NONE;
            case SELL:
            default:
                return stock.pieces.has(first) ? Refusal.NONE : Refusal.INDEX;
        }
    }

    /** Makes a change that is not refused, and answers what its method returns. */
    private int carryOut(Command command, int first, int second, int third) {
        switch (command) {
            case BALE:
                return stock.takeBale(first, second, third);
            case BLEND:
                return stock.useBales(blends.bestSet(stock.bales, first, second));
            case ORDER:
                return stock.orders.open(first, second);
            case CANCEL:
                return stock.orders.close(stock.orders.ids.find(first));
            case MACHINES:
                return stock.changeMachines(first);
            case SPIN:
                return stock.spinAt(stock.orders.ids.find(first));
            case SPLICE:
                return stock.spliceAt(first);
            case JOIN:
                return stock.joinPieces(splices.costByTable(stock.pieces));
            case SELL:
            default:
                return stock.sellAt(first);
        }
    }

    private Refusal refusalOfBlending(int need, int staple) {
        if (!canBeBlend(need, staple)) {
            return Refusal.ARGUMENT;
        }
        int set = blends.bestSet(stock.bales, need, staple);
        if (set == 0) {
            return Refusal.UNSUPPORTED;
        }
        return stock.roving + stock.bales.weightOf(set) > MOST_ROVING ? Refusal.STATE : Refusal.NONE;
    }

    /** Runs the commands that were read; answers the index of the one that failed, or NONE. */
    private int runCommands() {
        for (int index = 0; index < script.count(); index++) {
            Command command = script.commandAt(index);
            int first = script.numberAt(index, 0);
            int second = script.numberAt(index, 1);
            int third = script.numberAt(index, 2);
            if (command == null || refusalOf(command, first, second, third) != Refusal.NONE) {
                return index;
            }
            carryOut(command, first, second, third);
        }
        return NONE;
    }

    private int positionOfBale(int bale) {
        int position = stock.bales.ids.find(bale);
        if (position == NONE) {
            throw new NoSuchElementException("there is no such bale");
        }
        return position;
    }

    private int positionOfOrder(int order) {
        int position = stock.orders.ids.find(order);
        if (position == NONE) {
            throw new NoSuchElementException("there is no such open order");
        }
        return position;
    }

    private static int positionAtRank(Row row, int rank) {
        int position = row.findRank(rank);
        if (position == NONE) {
            throw new NoSuchElementException("there is no such rank");
        }
        return position;
    }

    private void testPiece(int position) {
        if (!stock.pieces.has(position)) {
            throw new IndexOutOfBoundsException("there is no such position on the shelf");
        }
    }

    private void testShelf() {
        if (stock.pieces.size() == 0) {
            throw new ArithmeticException("there are no pieces");
        }
    }

    private static void testBlend(int need, int staple) {
        if (!canBeBlend(need, staple)) {
            throw new IllegalArgumentException("the need or the staple is out of its range");
        }
    }

    private static int blendValueFound(int value) {
        if (value == NONE) {
            throw new NoSuchElementException("there is no such blend");
        }
        return value;
    }

    private boolean blendWaysAgree(int need, int staple) {
        return blends.valueByAllSets(stock.bales, need, staple) == blends.valueBySearch(stock.bales, need, staple);
    }

    private static boolean canBeBlend(int need, int staple) {
        return isBetween(need, 1, MOST_NEED) && isBetween(staple, LEAST_STAPLE, MOST_STAPLE);
    }

    private static boolean isBetween(int number, int least, int most) {
        return number >= least && number <= most;
    }

    /** Why a change can't be made: each one but NONE stands for one exception. */
    private enum Refusal {
        NONE, ARGUMENT, STATE, UNSUPPORTED, ELEMENT, INDEX
    }

    /** The nine changes: the word that begins each one in a script, its numbers and how many digits they may have. */
    private enum Command {
        BALE("bale ", 3, 3),
        BLEND("blend ", 2, 3),
        ORDER("order ", 2, 3),
        CANCEL("cancel ", 1, 3),
        MACHINES("machines ", 1, 1),
        SPIN("spin ", 1, 3),
        SPLICE("splice ", 1, 3),
        JOIN("join", 0, 0),
        SELL("sell ", 1, 3);

        private static final Command[] ALL = values();

        private final String word;
        private final int numbers;
        private final int digits;

        Command(String word, int numbers, int digits) {
            this.word = word;
            this.numbers = numbers;
            this.digits = digits;
        }
    }

    /** Numbers at the positions from 0 on, never more than its capacity; where one leaves, those behind move up. */
    private static final class Row {
        private final int[] cells;
        private int size;

        Row(int capacity) {
            cells = new int[Math.max(capacity, 0)];
        }

        int size() {
            return size;
        }

        boolean isFull() {
            return size >= cells.length;
        }

        boolean has(int position) {
            return position >= 0 && position < size;
        }

        boolean hasPair(int position) {
            return position >= 0 && position < size - 1;
        }

        int get(int position) {
            return position >= 0 && position < size ? cells[position] : 0;
        }

        void put(int position, int number) {
            if (position >= 0 && position < size) {
                cells[position] = number;
            }
        }

        void add(int number) {
            if (size < cells.length) {
                cells[size] = number;
                size++;
            }
        }

        void removeAt(int position) {
            if (position < 0 || position >= size) {
                return;
            }
            for (int behind = position + 1; behind < size; behind++) {
                cells[behind - 1] = cells[behind];
            }
            size--;
        }

        void clear() {
            size = 0;
        }

        void copyFrom(Row other) {
            size = Math.min(other.size, cells.length);
            System.arraycopy(other.cells, 0, cells, 0, size);
        }

        int find(int number) {
            for (int position = 0; position < size; position++) {
                if (cells[position] == number) {
                    return position;
                }
            }
            return NONE;
        }

        int sum() {
            int sum = 0;
            for (int position = 0; position < size; position++) {
                sum += cells[position];
            }
            return sum;
        }

        int positionOfLargest() {
            int largest = 0;
            for (int position = 1; position < size; position++) {
                if (cells[position] > cells[largest]) {
                    largest = position;
                }
            }
            return largest;
        }

        /** The position at a rank when the numbers are sorted in ascending order, equal ones by position. */
        int findRank(int rank) {
            for (int position = 0; position < size; position++) {
                if (countAhead(position) == rank) {
                    return position;
                }
            }
            return NONE;
        }

        private int countAhead(int position) {
            int number = get(position);
            int ahead = 0;
            for (int other = 0; other < size; other++) {
                if (cells[other] < number || cells[other] == number && other < position) {
                    ahead++;
                }
            }
            return ahead;
        }
    }

    /** The bales in the mill, in the order of their ids. */
    private static final class Bales {
        private final Row ids = new Row(MOST_BALES);
        private final Row weights = new Row(MOST_BALES);
        private final Row staples = new Row(MOST_BALES);
        private final Row prices = new Row(MOST_BALES);
        private final Row values = new Row(MOST_BALES);
        private int nextId;

        int add(int weight, int staple, int price) {
            int id = nextId;
            nextId++;
            ids.add(id);
            weights.add(weight);
            staples.add(staple);
            prices.add(price);
            values.add(weight * price);
            return id;
        }

        int weightOf(int set) {
            int sum = 0;
            for (int position = 0; position < ids.size(); position++) {
                if ((set & 1 << position) != 0) {
                    sum += weights.get(position);
                }
            }
            return sum;
        }

        void removeSet(int set) {
            // From the last position on, so that the positions still to come stay the same.
            for (int position = ids.size() - 1; position >= 0; position--) {
                if ((set & 1 << position) != 0) {
                    removeAt(position);
                }
            }
        }

        private void removeAt(int position) {
            ids.removeAt(position);
            weights.removeAt(position);
            staples.removeAt(position);
            prices.removeAt(position);
            values.removeAt(position);
        }

        /** Puts keys whose ascending order is the descending one of value, then of staple. */
        void putKeys(Row keys) {
            keys.clear();
            for (int position = 0; position < ids.size(); position++) {
                keys.add(-(values.get(position) * (MOST_STAPLE + 1) + staples.get(position)));
            }
        }

        void copyFrom(Bales other) {
            ids.copyFrom(other.ids);
            weights.copyFrom(other.weights);
            staples.copyFrom(other.staples);
            prices.copyFrom(other.prices);
            values.copyFrom(other.values);
            nextId = other.nextId;
        }
    }

    /** The open orders, in the order of their ids. */
    private static final class Orders {
        private final Row ids = new Row(MOST_ORDERS);
        private final Row lengths = new Row(MOST_ORDERS);
        private final Row twists = new Row(MOST_ORDERS);
        private final Row minutes = new Row(MOST_ORDERS);
        private int nextId;

        Refusal refusalOfOpening(int length, int twist) {
            if (!isBetween(length, 1, MOST_LENGTH) || !isBetween(twist, 1, MOST_TWIST)) {
                return Refusal.ARGUMENT;
            }
            return ids.isFull() ? Refusal.STATE : Refusal.NONE;
        }

        int open(int length, int twist) {
            int id = nextId;
            nextId++;
            ids.add(id);
            lengths.add(length);
            twists.add(twist);
            minutes.add(length * twist);
            return id;
        }

        int close(int position) {
            ids.removeAt(position);
            lengths.removeAt(position);
            twists.removeAt(position);
            minutes.removeAt(position);
            return ids.size();
        }

        /** The length after which the yarn of an order breaks. */
        int breakAt(int position) {
            return SHORTEST_BREAK + twists.get(position);
        }

        int piecesAt(int position) {
            int step = breakAt(position);
            return step < 1 ? 0 : (lengths.get(position) + step - 1) / step;
        }

        int countKinds() {
            int kinds = 0;
            for (int position = 0; position < ids.size(); position++) {
                if (isFirstOfKind(position)) {
                    kinds++;
                }
            }
            return kinds;
        }

        private boolean isFirstOfKind(int position) {
            for (int before = 0; before < position; before++) {
                if (lengths.get(before) == lengths.get(position) && twists.get(before) == twists.get(position)) {
                    return false;
                }
            }
            return true;
        }

        /** Puts keys whose ascending order is the descending one of time. */
        void putKeys(Row keys) {
            keys.clear();
            for (int position = 0; position < ids.size(); position++) {
                keys.add(-minutes.get(position));
            }
        }

        void copyFrom(Orders other) {
            ids.copyFrom(other.ids);
            lengths.copyFrom(other.lengths);
            twists.copyFrom(other.twists);
            minutes.copyFrom(other.minutes);
            nextId = other.nextId;
        }
    }

    /** All that undo and the snapshot cover. */
    private static final class Stock {
        private final Bales bales = new Bales();
        private final Orders orders = new Orders();
        private final Row pieces = new Row(MOST_PIECES);
        private int roving;
        private int machines = 1;
        private int clock;
        private int coins = FIRST_COINS;
        private int paid;
        private int earned;
        private int spun;
        private int waste;
        private int sold;

        Refusal refusalOfBuying(int weight, int staple, int price) {
            if (!isBetween(weight, 1, MOST_WEIGHT)
                    || !isBetween(staple, LEAST_STAPLE, MOST_STAPLE)
                    || !isBetween(price, 1, MOST_PRICE)) {
                return Refusal.ARGUMENT;
            }
            if (bales.ids.isFull()) {
                return Refusal.STATE;
            }
            return coins < weight * price ? Refusal.UNSUPPORTED : Refusal.NONE;
        }

        int takeBale(int weight, int staple, int price) {
            coins -= weight * price;
            paid += weight * price;
            return bales.add(weight, staple, price);
        }

        int useBales(int set) {
            roving += bales.weightOf(set);
            bales.removeSet(set);
            return roving;
        }

        int changeMachines(int number) {
            int previous = machines;
            machines = number;
            return previous;
        }

        Refusal refusalOfSpinning(int position) {
            if (!orders.ids.has(position)) {
                return Refusal.ELEMENT;
            }
            if (roving < orders.lengths.get(position)) {
                return Refusal.UNSUPPORTED;
            }
            return pieces.size() + orders.piecesAt(position) > MOST_PIECES ? Refusal.STATE : Refusal.NONE;
        }

        int spinAt(int position) {
            int length = orders.lengths.get(position);
            int step = orders.breakAt(position);
            int count = orders.piecesAt(position);
            for (int piece = 0; piece < count; piece++) {
                pieces.add(Math.min(step, length - piece * step));
            }
            roving -= length;
            spun += length;
            clock += orders.minutes.get(position);
            orders.close(position);
            return count;
        }

        int spliceAt(int position) {
            int together = pieces.get(position) + pieces.get(position + 1);
            pieces.put(position, together - 1);
            pieces.removeAt(position + 1);
            clock += together;
            waste++;
            return together - 1;
        }

        int joinPieces(int cost) {
            int lost = pieces.size() - 1;
            int length = pieces.sum() - lost;
            pieces.clear();
            pieces.add(length);
            clock += cost;
            waste += lost;
            return length;
        }

        int worthAt(int position) {
            int length = pieces.get(position);
            return length >= LONG_PIECE ? length * LONG_PIECE_COINS : length * SHORT_PIECE_COINS;
        }

        int sellAt(int position) {
            int worth = worthAt(position);
            sold += pieces.get(position);
            coins += worth;
            earned += worth;
            pieces.removeAt(position);
            return worth;
        }

        int countLongPieces() {
            int count = 0;
            for (int position = 0; position < pieces.size(); position++) {
                if (pieces.get(position) >= LONG_PIECE) {
                    count++;
                }
            }
            return count;
        }

        int accountedCoins() {
            return FIRST_COINS - paid + earned;
        }

        int accountedLength() {
            return spun - sold - waste;
        }

        void copyFrom(Stock other) {
            bales.copyFrom(other.bales);
            orders.copyFrom(other.orders);
            pieces.copyFrom(other.pieces);
            roving = other.roving;
            machines = other.machines;
            clock = other.clock;
            coins = other.coins;
            paid = other.paid;
            earned = other.earned;
            spun = other.spun;
            waste = other.waste;
            sold = other.sold;
        }
    }

    /** Finds the best blend. A set of bales is a number whose bit at 1 << position tells whether a bale is in it. */
    private static final class BlendFinder {
        // One cell for each set: the rows of bales hold at most MOST_BALES.
        private final int[] weights = new int[1 << MOST_BALES];
        private final int[] products = new int[1 << MOST_BALES];
        private final int[] values = new int[1 << MOST_BALES];
        private int need;
        private int staple;
        private int cheapest;

        /** The best blend, or the empty set if there is none: a need is at least 1, so it never is a blend. */
        int bestSet(Bales bales, int need, int staple) {
            addUpSets(bales);
            int best = 0;
            for (int set = 1; set < 1 << bales.ids.size(); set++) {
                boolean isBlend = weights[set] >= need && products[set] >= staple * weights[set];
                if (isBlend && (best == 0 || isBetter(set, best))) {
                    best = set;
                }
            }
            return best;
        }

        int valueByAllSets(Bales bales, int need, int staple) {
            int set = bestSet(bales, need, staple);
            return set == 0 ? NONE : values[set];
        }

        private void addUpSets(Bales bales) {
            for (int position = 0; position < bales.ids.size(); position++) {
                int weight = bales.weights.get(position);
                int product = weight * bales.staples.get(position);
                int value = bales.values.get(position);
                int bit = 1 << position;
                for (int rest = 0; rest < bit; rest++) {
                    weights[bit + rest] = weights[rest] + weight;
                    products[bit + rest] = products[rest] + product;
                    values[bit + rest] = values[rest] + value;
                }
            }
        }

        private boolean isBetter(int set, int other) {
            if (values[set] != values[other]) {
                return values[set] < values[other];
            }
            if (weights[set] != weights[other]) {
                return weights[set] < weights[other];
            }
            // Bales stand in the order of ids, so the lowest bit is the lowest id that only one of both contains.
            int onlyInOne = set ^ other;
            return (set & onlyInOne & -onlyInOne) != 0;
        }

        int valueBySearch(Bales bales, int need, int staple) {
            this.need = need;
            this.staple = staple;
            cheapest = UNREACHED;
            search(this, bales, 0, 0, 0, 0);
            return cheapest == UNREACHED ? NONE : cheapest;
        }

        /** Takes or leaves the bale at a position; what was taken before has the given sums. */
        private static void search(BlendFinder finder, Bales bales, int position, int weight, int product, int value) {
            if (value >= finder.cheapest) {
                return;
            }
            if (weight >= finder.need && product >= finder.staple * weight) {
                finder.cheapest = value;
                return;
            }
            if (position >= bales.ids.size()) {
                return;
            }
            int more = bales.weights.get(position);
            search(finder, bales, position + 1, weight + more, product + more * bales.staples.get(position),
                    value + bales.values.get(position));
            search(finder, bales, position + 1, weight, product, value);
        }
    }

    /** Finds the shortest time for all orders. A set of orders is a number with a bit for each position. */
    private static final class TimeFinder {
        // One cell for each set: the rows of orders hold at most MOST_ORDERS.
        private final int[] sums = new int[1 << MOST_ORDERS];
        private final int[] least = new int[1 << MOST_ORDERS];
        private final Row loads = new Row(MOST_MACHINES);
        private int shortest;

        int shortestBySets(Orders orders, int machines) {
            addUpSets(orders);
            int all = (1 << orders.ids.size()) - 1;
            for (int set = 0; set <= all; set++) {
                least[set] = sums[set];
            }
            for (int machine = 2; machine <= machines; machine++) {
                // Downwards, so that the smaller sets still hold the times without this machine.
                for (int set = all; set > 0; set--) {
                    least[set] = leastWithOneMore(set);
                }
            }
            return least[all];
        }

        private void addUpSets(Orders orders) {
            for (int position = 0; position < orders.ids.size(); position++) {
                int minutes = orders.minutes.get(position);
                int bit = 1 << position;
                for (int rest = 0; rest < bit; rest++) {
                    sums[bit + rest] = sums[rest] + minutes;
                }
            }
        }

        /** The shortest time for a set if one more machine spins a part of it. */
        private int leastWithOneMore(int set) {
            int time = least[set];
            for (int part = set; part > 0; part--) {
                if ((part & set) == part) {
                    time = Math.min(time, Math.max(sums[part], least[set - part]));
                }
            }
            return time;
        }

        int shortestBySearch(Orders orders, int machines) {
            loads.clear();
            for (int machine = 0; machine < machines; machine++) {
                loads.add(0);
            }
            shortest = UNREACHED;
            search(this, orders, 0, 0);
            return shortest;
        }

        /** Gives the order at a position to each machine; the orders before it take the given time. */
        private static void search(TimeFinder finder, Orders orders, int position, int time) {
            if (time >= finder.shortest) {
                return;
            }
            if (position >= orders.ids.size()) {
                finder.shortest = time;
                return;
            }
            int minutes = orders.minutes.get(position);
            for (int machine = 0; machine < finder.loads.size(); machine++) {
                int load = finder.loads.get(machine);
                finder.loads.put(machine, load + minutes);
                search(finder, orders, position + 1, Math.max(time, load + minutes));
                finder.loads.put(machine, load);
            }
        }
    }

    /** Finds the smallest cost of splicing all pieces. */
    private static final class SpliceFinder {
        // One cell for each first and last position: a row of pieces holds at most MOST_PIECES.
        private final int[] table = new int[MOST_PIECES * MOST_PIECES];
        private final int[] memory = new int[MOST_PIECES * MOST_PIECES];

        int costByTable(Row pieces) {
            int count = pieces.size();
            for (int first = count - 1; first >= 0; first--) {
                int sum = pieces.get(first);
                table[cell(first, first)] = 0;
                for (int last = first + 1; last < count; last++) {
                    sum += pieces.get(last);
                    table[cell(first, last)] = leastOfTable(first, last) + lastSplice(sum, first, last);
                }
            }
            return count < 2 ? 0 : table[cell(0, count - 1)];
        }

        private int leastOfTable(int first, int last) {
            int least = UNREACHED;
            for (int middle = first; middle < last; middle++) {
                least = Math.min(least, table[cell(first, middle)] + table[cell(middle + 1, last)]);
            }
            return least;
        }

        int costByMemory(Row pieces) {
            for (int cell = 0; cell < memory.length; cell++) {
                memory[cell] = NONE;
            }
            return divide(memory, pieces, 0, pieces.size() - 1);
        }

        /** The smallest cost of splicing the pieces from the first position to the last one. */
        private static int divide(int[] memory, Row pieces, int first, int last) {
            if (first >= last) {
                return 0;
            }
            if (memory[cell(first, last)] != NONE) {
                return memory[cell(first, last)];
            }
            int least = UNREACHED;
            int sum = pieces.get(last);
            for (int middle = first; middle < last; middle++) {
                int cost = divide(memory, pieces, first, middle) + divide(memory, pieces, middle + 1, last);
                least = Math.min(least, cost);
                sum += pieces.get(middle);
            }
            memory[cell(first, last)] = least + lastSplice(sum, first, last);
            return memory[cell(first, last)];
        }

        /** The minutes of the splice that makes one piece of two: all earlier splices have wasted a kilometre each. */
        private static int lastSplice(int sum, int first, int last) {
            return sum - (last - first - 1);
        }

        private static int cell(int first, int last) {
            return first * MOST_PIECES + last;
        }
    }

    /** The script buffer, and the commands that were read from it. */
    private static final class Script {
        private final StringBuilder signs = new StringBuilder();
        // Even a script of the shortest commands has fewer commands than signs.
        private final Command[] commands = new Command[MOST_SIGNS];
        private final int[] numbers = new int[MOST_SIGNS * MOST_NUMBERS];
        private int count;
        private int at;

        boolean isFull() {
            return signs.length() >= MOST_SIGNS;
        }

        int append(char sign) {
            signs.append(sign);
            return signs.length();
        }

        void empty() {
            signs.setLength(0);
        }

        int count() {
            return count;
        }

        Command commandAt(int index) {
            return index >= 0 && index < commands.length ? commands[index] : null;
        }

        int numberAt(int index, int number) {
            int cell = index * MOST_NUMBERS + number;
            return cell >= 0 && cell < numbers.length ? numbers[cell] : 0;
        }

        /** Reads all commands; answers the error position, or NONE if the script has the required form. */
        int readForm() {
            at = 0;
            count = 0;
            while (count < commands.length) {
                if (!readCommand()) {
                    return at;
                }
                count++;
                if (at == signs.length()) {
                    return NONE;
                }
                if (!readSign(';')) {
                    return at;
                }
            }
            return at;
        }

        // Each read goes on behind what it has read; where it fails, it stands at the error position.

        private boolean readCommand() {
            Command command = readWord();
            if (command == null) {
                return false;
            }
            commands[count] = command;
            for (int number = 0; number < command.numbers; number++) {
                if (number > 0 && !readSign(' ')) {
                    return false;
                }
                if (!readNumber(count * MOST_NUMBERS + number, command.digits)) {
                    return false;
                }
            }
            return true;
        }

        private Command readWord() {
            int longest = 0;
            for (int index = 0; index < Command.ALL.length; index++) {
                Command command = Command.ALL[index];
                int same = countSameSigns(command.word);
                if (same == command.word.length()) {
                    at += same;
                    return command;
                }
                longest = Math.max(longest, same);
            }
            at += longest;
            return null;
        }

        private int countSameSigns(String word) {
            int same = 0;
            while (same < word.length() && isSign(at + same, word.charAt(same))) {
                same++;
            }
            return same;
        }

        private boolean readNumber(int cell, int digits) {
            int number = 0;
            int read = 0;
            while (read < digits && isDigit(at)) {
                number = number * 10 + (signs.charAt(at) - '0');
                at++;
                read++;
            }
            if (read == 0 || cell >= numbers.length) {
                return false;
            }
            numbers[cell] = number;
            return true;
        }

        private boolean readSign(char sign) {
            if (!isSign(at, sign)) {
                return false;
            }
            at++;
            return true;
        }

        private boolean isSign(int index, char sign) {
            return index < signs.length() && signs.charAt(index) == sign;
        }

        private boolean isDigit(int index) {
            return index < signs.length() && signs.charAt(index) >= '0' && signs.charAt(index) <= '9';
        }
    }

    /** The states before the latest changes, in a ring: the newest one takes the place of the oldest. */
    private static final class History {
        private final Stock[] ring = new Stock[MOST_UNDOS];
        private int next;
        private int count;

        History() {
            for (int place = 0; place < ring.length; place++) {
                ring[place] = new Stock();
            }
        }

        int count() {
            return count;
        }

        void record(Stock stock) {
            Stock place = ring[next];
            if (place != null) {
                place.copyFrom(stock);
            }
            next = next + 1 < ring.length ? next + 1 : 0;
            count = Math.min(count + 1, ring.length);
        }

        void takeBack(Stock stock) {
            if (count == 0) {
                return;
            }
            next = next > 0 ? next - 1 : ring.length - 1;
            count--;
            Stock place = ring[next];
            if (place != null) {
                stock.copyFrom(place);
            }
        }

        void forget() {
            count = 0;
        }
    }
}
