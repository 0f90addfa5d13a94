import java.util.NoSuchElementException;

/** All that the calls that change nothing tell of a mill, as a text. */
final class Picture {
    private final YarnMill mill;
    private final StringBuilder text = new StringBuilder();

    private Picture(YarnMill mill) {
        this.mill = mill;
    }

    static String of(YarnMill mill) {
        Picture picture = new Picture(mill);
        picture.putTotals();
        picture.putBales();
        picture.putOrders();
        picture.putPieces();
        picture.put("output", output(mill));
        picture.put("error", orNone(mill::errorPosition));
        picture.put("failed", orNone(mill::failedCommand));
        return picture.text.toString();
    }

    static String output(YarnMill mill) {
        StringBuilder output = new StringBuilder();
        try {
            for (int index = 0; index < 1000; index++) {
                output.append(mill.outputAt(index));
            }
        } catch (IndexOutOfBoundsException end) {
            return output.toString();
        }
        return output.toString();
    }

    private static String orNone(Check.Call call) {
        try {
            return Long.toString(call.answer());
        } catch (NoSuchElementException none) {
            return "none";
        }
    }

    private void put(String what, Object value) {
        text.append(what).append('=').append(value).append(' ');
    }

    private void putTotals() {
        put("roving", mill.roving());
        put("machines", mill.machines());
        put("clock", mill.clock());
        put("coins", mill.coins());
        put("coinsByAccounts", mill.coinsByAccounts());
        put("spun", mill.spunTotal());
        put("waste", mill.wasteTotal());
        put("sold", mill.soldTotal());
        put("length", mill.shelfLength());
        put("lengthByAccounts", mill.shelfLengthByAccounts());
    }

    private void putBales() {
        for (int position = 0; position < mill.baleCount(); position++) {
            int bale = mill.baleAt(position);
            put("bale", bale);
            put("weight", mill.weight(bale));
            put("staple", mill.staple(bale));
            put("price", mill.price(bale));
            put("rank", mill.baleByValue(position));
        }
    }

    private void putOrders() {
        for (int position = 0; position < mill.orderCount(); position++) {
            int order = mill.orderAt(position);
            put("order", order);
            put("length", mill.lengthOf(order));
            put("twist", mill.twistOf(order));
            put("minutes", mill.minutesOf(order));
            put("rank", mill.orderByTime(position));
        }
    }

    private void putPieces() {
        for (int position = 0; position < mill.pieceCount(); position++) {
            put("piece", mill.pieceLength(position));
        }
    }
}
