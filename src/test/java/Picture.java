import java.util.NoSuchElementException;
import java.util.function.Supplier;

/** All that the calls that change nothing tell of a mill, as a text. */
final class Picture {
    private final YarnMill mill;
    private final StringBuilder text = new StringBuilder();

    private Picture(YarnMill mill) {
        this.mill = mill;
    }

    static String of(YarnMill mill) {
        Picture picture = new Picture(mill);
        picture.putTotals();
        picture.putBales();
        picture.putOrders();
        picture.putPieces();
        picture.put("output", output(mill));
        picture.put("error", orNone(mill::errorPosition));
        picture.put("failed", orNone(mill::failedCommand));
        return picture.text.toString();
    }

    /** Also what only further calls show: the script buffer, all that can be undone, the snapshot and the next ids. */
    static String whole(Supplier<YarnMill> maker) {
        YarnMill mill = maker.get();
        StringBuilder whole = new StringBuilder(of(mill));
        whole.append("typed=").append(orThrown(() -> mill.type(' '))).append(' ');
        for (int undo = 0; undo < 9; undo++) {
            whole.append("undo=").append(orThrown(mill::undo)).append(' ').append(of(mill));
        }
        whole.append("restore=").append(orThrown(mill::restore)).append(' ').append(of(mill));
        YarnMill other = maker.get();
        whole.append("next bale=").append(orThrown(() -> other.buyBale(1, 10, 1)));
        whole.append(" next order=").append(orThrown(() -> other.addOrder(1, 1)));
        return whole.toString();
    }

    static String output(YarnMill mill) {
        StringBuilder output = new StringBuilder();
        try {
            for (int index = 0; index < 1000; index++) {
                output.append(mill.outputAt(index));
            }
        } catch (IndexOutOfBoundsException end) {
            return output.toString();
        }
        return output.toString();
    }

    private static String orNone(Check.Call call) {
        try {
            return Long.toString(call.answer());
        } catch (NoSuchElementException none) {
            return "none";
        }
    }

    private static String orThrown(Check.Call call) {
        try {
            return Long.toString(call.answer());
        } catch (RuntimeException thrown) {
            return thrown.getClass().getName();
        }
    }

    private void put(String what, Object value) {
        text.append(what).append('=').append(value).append(' ');
    }

    private void putTotals() {
        put("roving", mill.roving());
        put("machines", mill.machines());
        put("clock", mill.clock());
        put("coins", mill.coins());
        put("coinsByAccounts", mill.coinsByAccounts());
        put("spun", mill.spunTotal());
        put("waste", mill.wasteTotal());
        put("sold", mill.soldTotal());
        put("length", mill.shelfLength());
        put("lengthByAccounts", mill.shelfLengthByAccounts());
    }

    private void putBales() {
        for (int position = 0; position < mill.baleCount(); position++) {
            int bale = mill.baleAt(position);
            put("bale", bale);
            put("weight", mill.weight(bale));
            put("staple", mill.staple(bale));
            put("price", mill.price(bale));
            put("rank", mill.baleByValue(position));
        }
    }

    private void putOrders() {
        for (int position = 0; position < mill.orderCount(); position++) {
            int order = mill.orderAt(position);
            put("order", order);
            put("length", mill.lengthOf(order));
            put("twist", mill.twistOf(order));
            put("minutes", mill.minutesOf(order));
            put("rank", mill.orderByTime(position));
        }
    }

    private void putPieces() {
        for (int position = 0; position < mill.pieceCount(); position++) {
            put("piece", mill.pieceLength(position));
        }
    }
}
