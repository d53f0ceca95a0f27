import java.util.NoSuchElementException;

/**
 * A floor with one machine that moulds parts in colours, with dryers, crates, orders by weeks, programs, undo and a
 * snapshot.
 *
 * <p>All that can be undone stands in a Floor, so that a change, undo, save and restore are each one copy of it.
 */
public final class MouldFloor {
    private static final int MOST_COLOURS = 6;
    private static final int MOST_PARTS = 8;
    private static final int MOST_FAMILIES = 6;
    private static final int MOST_FAMILY_PARTS = 3;
    private static final int MOST_ORDERS = 10;
    private static final int MOST_CHANGES = 8;
    private static final int MOST_CHARACTERS = 80;
    private static final int MOST_SHADE = 9;
    private static final int MOST_CRATE_SIZE = 50;
    private static final int MOST_GRAMS = 99999;
    private static final int MOST_MINUTES = 999;
    private static final int MOST_SHOTS = 200;
    private static final int MOST_CRATES = 20;
    private static final int MOST_WEEK = 99;
    private static final int DRYERS = 3;
    private static final int STOCKS = MOST_PARTS * MOST_COLOURS;

    private static final int SETTINGS = 4;
    private static final int WEEK_LENGTH = 0;
    private static final int DRYING_TIME = 1;
    private static final int PURGE_FACTOR = 2;
    private static final int MOUNTING_TIME = 3;
    private static final int[] LEAST_SETTINGS = {60, 0, 0, 0};
    private static final int[] MOST_SETTINGS = {9999, 999, 5, 99};

    private static final int OPEN = 0;
    private static final int DELIVERED = 1;
    private static final int CALLED_OFF = 2;

    private static final int NOT_THERE = 1;
    private static final int OUT_OF_RANGE = 2;
    private static final int FULL = 3;
    private static final int MOUNTED_ALREADY = 4;
    private static final int NONE_MOUNTED = 5;
    private static final int OTHER_COLOUR = 6;
    private static final int TOO_MANY_GRAMS = 7;
    private static final int EMPTY = 8;
    private static final int NOT_OPEN = 9;
    private static final int NO_DRYER = 10;
    private static final int NOT_DRY = 11;
    private static final int TOO_FEW_GRAMS = 12;
    private static final int COMMAND_REFUSED = 13;
    private static final int PART_TWICE = 14;
    private static final int MOST_REASONS = 3;

    /** Stands for no colour, no family, no dryer, no number and no fault. */
    private static final int NONE = -1;
    /** No change that is carried out answers less than 0. */
    private static final int REFUSED = -1;

    private final Floor floor = new Floor();
    private final Floor snapshot = new Floor();
    private final History history = new History();
    private final Reasons reasons = new Reasons();
    private final Text text = new Text();
    private final FamilyText familyText = new FamilyText();
    private final ProgramText programText = new ProgramText();
    private final ColourOrders colourOrders = new ColourOrders();
    private boolean isSaved;

    public MouldFloor() {
    }

    public int append(char character) throws IllegalStateException {
        if (!text.add(character)) {
            throw new IllegalStateException("the text buffer is full");
        }
        return text.length;
    }

    public int colour(int shade) throws UnsupportedOperationException {
        history.begin(floor);
        return settled(floor.catalogue.addColour(shade, reasons));
    }

    public int part(int size) throws UnsupportedOperationException {
        history.begin(floor);
        return settled(floor.catalogue.addPart(size, reasons));
    }

    public int family() throws IllegalArgumentException, UnsupportedOperationException {
        boolean isRead = familyText.isReadFrom(text);
        text.clear();
        if (!isRead) {
            throw new IllegalArgumentException("the text is no family");
        }
        history.begin(floor);
        return settled(floor.catalogue.addFamily(familyText, reasons));
    }

    public int program() throws IllegalArgumentException, UnsupportedOperationException {
        boolean isRead = programText.isReadFrom(text);
        text.clear();
        if (!isRead) {
            throw new IllegalArgumentException("the text is no program");
        }
        history.begin(floor);
        for (int index = 0; index < programText.count; index++) {
            if (commandCarriedOut(index) == REFUSED) {
                reasons.putAhead(COMMAND_REFUSED, index);
                history.rollBack(floor);
                throw new UnsupportedOperationException("a command is refused, for the reason that is kept");
            }
        }
        return settled(programText.count);
    }

    public int faultPosition() {
        return text.fault;
    }

    public int mount(int family) throws UnsupportedOperationException {
        history.begin(floor);
        return settled(floor.mountFamily(family, reasons));
    }

    public int load(int dryer, int colour, int grams) throws UnsupportedOperationException {
        history.begin(floor);
        return settled(floor.loadDryer(dryer, colour, grams, reasons));
    }

    public int empty(int dryer) throws UnsupportedOperationException {
        history.begin(floor);
        return settled(floor.dryers.takeAll(dryer, reasons));
    }

    public int pause(int minutes) throws UnsupportedOperationException {
        history.begin(floor);
        return settled(floor.waitMinutes(minutes, reasons));
    }

    public int run(int colour, int shots) throws UnsupportedOperationException {
        history.begin(floor);
        return settled(floor.runShots(colour, shots, reasons));
    }

    public int order(int part, int colour, int crates, int week) throws UnsupportedOperationException {
        history.begin(floor);
        return settled(floor.addOrder(part, colour, crates, week, reasons));
    }

    public int callOff(int order) throws UnsupportedOperationException {
        history.begin(floor);
        return settled(floor.orders.close(order, reasons));
    }

    public int set(int what, int value) throws UnsupportedOperationException {
        history.begin(floor);
        return settled(floor.catalogue.changeSetting(what, value, reasons));
    }

    public int purge(int from, int to) throws IndexOutOfBoundsException {
        if (!floor.catalogue.isColour(from) || !floor.catalogue.isColour(to)) {
            throw new IndexOutOfBoundsException("there is no such colour");
        }
        return floor.catalogue.purgeShots(from, to);
    }

    public int minutes(int colour, int shots)
            throws IndexOutOfBoundsException, IllegalArgumentException, IllegalStateException {
        if (!floor.catalogue.isColour(colour)) {
            throw new IndexOutOfBoundsException("there is no such colour");
        }
        if (!isWithin(shots, 1, MOST_SHOTS)) {
            throw new IllegalArgumentException("the number of shots is out of range");
        }
        if (!floor.catalogue.isFamily(floor.mounted)) {
            throw new IllegalStateException("no family is mounted");
        }
        return (floor.catalogue.purgeShots(floor.colour, colour) + shots) * floor.catalogue.cycles[floor.mounted];
    }

    public int best(int colours) throws IllegalArgumentException {
        checkColours(colours);
        return colourOrders.leastSum(floor, colours);
    }

    public int bestAgain(int colours) throws IllegalArgumentException {
        checkColours(colours);
        return colourOrders.leastSumByTrying(floor, colours);
    }

    public int bestColour(int colours, int index) throws IllegalArgumentException, NoSuchElementException {
        checkColours(colours);
        if (!isWithin(index, 0, Integer.bitCount(colours) - 1)) {
            throw new NoSuchElementException("there is no such place");
        }
        return colourOrders.colourAt(floor, colours, index);
    }

    public int familyOf(int family, int what) throws IndexOutOfBoundsException, IllegalArgumentException {
        if (!floor.catalogue.isFamily(family)) {
            throw new IndexOutOfBoundsException("there is no such family");
        }
        switch (what) {
            case 0: return floor.catalogue.cycles[family];
            case 1: return floor.catalogue.weights[family];
            case 2: return floor.catalogue.partsOf(family);
            case 3: return floor.catalogue.allPiecesOf(family);
            case 4: return floor.mounted == family ? 1 : 0;
            default: throw new IllegalArgumentException("there is no such number of a family");
        }
    }

    public int pieces(int family, int part) throws IndexOutOfBoundsException {
        if (!floor.catalogue.isFamily(family) || !floor.catalogue.isPart(part)) {
            throw new IndexOutOfBoundsException("there is no such family or part");
        }
        return floor.catalogue.piecesOf(family, part);
    }

    public int families(int part) throws IndexOutOfBoundsException {
        if (!floor.catalogue.isPart(part)) {
            throw new IndexOutOfBoundsException("there is no such part");
        }
        return floor.catalogue.familiesWith(part);
    }

    public int dryer(int dryer, int what) throws IndexOutOfBoundsException, IllegalArgumentException {
        if (!isWithin(dryer, 0, DRYERS - 1)) {
            throw new IndexOutOfBoundsException("there is no such dryer");
        }
        switch (what) {
            case 0: return floor.dryers.colours[dryer];
            case 1: return floor.dryers.grams[dryer];
            case 2: return floor.dryers.dried[dryer];
            case 3: return floor.dryers.lackingMinutes(dryer, floor.catalogue.settings[DRYING_TIME]);
            default: throw new IllegalArgumentException("there is no such number of a dryer");
        }
    }

    public int stock(int part, int colour, int what) throws IndexOutOfBoundsException, IllegalArgumentException {
        if (!floor.catalogue.isPart(part) || !floor.catalogue.isColour(colour)) {
            throw new IndexOutOfBoundsException("there is no such part or colour");
        }
        int place = part * MOST_COLOURS + colour;
        switch (what) {
            case 0: return floor.stock.closed[place];
            case 1: return floor.stock.open[place];
            case 2: return floor.stock.delivered[place];
            default: throw new IllegalArgumentException("there is no such number of a stock");
        }
    }

    public int made(int part, int what) throws IndexOutOfBoundsException, IllegalArgumentException {
        if (!floor.catalogue.isPart(part)) {
            throw new IndexOutOfBoundsException("there is no such part");
        }
        switch (what) {
            case 0: return floor.stock.pieces[part];
            case 1: return floor.stock.cratesOf(part) * floor.catalogue.crateSizes[part];
            case 2: return floor.stock.restOf(part);
            case 3: return floor.stock.scrapPieces[part];
            default: throw new IllegalArgumentException("there is no such number of pieces");
        }
    }

    public int orderOf(int order, int what) throws IndexOutOfBoundsException, IllegalArgumentException {
        checkOrder(order);
        switch (what) {
            case 0: return floor.orders.parts[order];
            case 1: return floor.orders.colours[order];
            case 2: return floor.orders.crates[order];
            case 3: return floor.orders.weeks[order];
            case 4: return floor.orders.states[order];
            case 5: return floor.orders.lateWeeks[order];
            default: throw new IllegalArgumentException("there is no such number of an order");
        }
    }

    public int shots(int order) throws IndexOutOfBoundsException, NoSuchElementException {
        checkOrder(order);
        int piecesOfShot = floor.piecesFor(order);
        if (!floor.orders.isOpen(order) || piecesOfShot <= 0) {
            throw new NoSuchElementException("the family that is mounted cannot make this order");
        }
        int lacking = floor.lackingPieces(order);
        return (lacking + piecesOfShot - 1) / piecesOfShot;
    }

    public char letter(int order) throws IndexOutOfBoundsException {
        checkOrder(order);
        switch (floor.orders.states[order]) {
            case DELIVERED: return 'd';
            case CALLED_OFF: return 'c';
            default: return floor.orders.lateWeeks[order] > 0 ? 'l' : 'o';
        }
    }

    public int due(int week) throws IllegalArgumentException {
        if (week < 0) {
            throw new IllegalArgumentException("the week is negative");
        }
        return floor.orders.openUpTo(week);
    }

    public int reason(int depth, boolean isDetail) throws IllegalArgumentException, NoSuchElementException {
        if (depth < 0) {
            throw new IllegalArgumentException("the depth is negative");
        }
        if (!isWithin(depth, 0, reasons.count - 1)) {
            throw new NoSuchElementException("there is no reason so far behind");
        }
        return isDetail ? reasons.details[depth] : reasons.numbers[depth];
    }

    public float scrap() throws ArithmeticException {
        int all = floor.stock.sumOf(floor.stock.pieces);
        if (all <= 0) {
            throw new ArithmeticException("no pieces were made");
        }
        return (float) floor.stock.sumOf(floor.stock.scrapPieces) / (float) all;
    }

    public double lateness() throws ArithmeticException {
        int delivered = floor.orders.countOf(DELIVERED);
        if (delivered <= 0) {
            throw new ArithmeticException("no order is delivered");
        }
        return (double) floor.orders.lateWeeksOfDelivered() / (double) delivered;
    }

    public int account(int what) throws IllegalArgumentException {
        switch (what) {
            case 0: return floor.catalogue.colourCount;
            case 1: return floor.catalogue.partCount;
            case 2: return floor.catalogue.familyCount;
            case 3: return floor.orders.count;
            case 4: return floor.orders.countOf(OPEN);
            case 5: return floor.now;
            case 6: return floor.week;
            case 7: return floor.colour;
            case 8: return floor.mounted;
            case 9: return floor.dryers.allGrams();
            case 10: return floor.gramsTaken;
            case 11: return floor.shotsOfRuns;
            case 12: return floor.shotsOfPurges;
            case 13: return history.count;
            case 14: return text.length;
            case 15: return floor.catalogue.settings[WEEK_LENGTH];
            case 16: return floor.catalogue.settings[DRYING_TIME];
            case 17: return floor.catalogue.settings[PURGE_FACTOR];
            case 18: return floor.catalogue.settings[MOUNTING_TIME];
            default: throw new IllegalArgumentException("there is no such account");
        }
    }

    public int undo() throws IllegalStateException {
        if (history.count <= 0) {
            throw new IllegalStateException("there is nothing to undo");
        }
        history.takeBack(floor);
        return history.count;
    }

    public int save() {
        snapshot.copyFrom(floor);
        isSaved = true;
        return floor.orders.count;
    }

    public int restore() throws IllegalStateException {
        if (!isSaved) {
            throw new IllegalStateException("there is no snapshot");
        }
        floor.copyFrom(snapshot);
        history.forget();
        return floor.orders.count;
    }

    /** Ends a change that was begun: it is kept, or refused. */
    private int settled(int answer) {
        if (answer == REFUSED) {
            throw new UnsupportedOperationException("refused, for the reason that is kept");
        }
        history.keep();
        return answer;
    }

    private int commandCarriedOut(int index) {
        int first = programText.numberOf(index, 0);
        int second = programText.numberOf(index, 1);
        switch (programText.kindOf(index)) {
            case ProgramText.MOUNT: return floor.mountFamily(first, reasons);
            case ProgramText.RUN: return floor.runShots(first, second, reasons);
            case ProgramText.WAIT: return floor.waitMinutes(first, reasons);
            default: return floor.loadDryer(first, second, programText.numberOf(index, 2), reasons);
        }
    }

    private void checkColours(int colours) {
        if (colours < 0 || colours >> floor.catalogue.colourCount != 0) {
            throw new IllegalArgumentException("this is no set of colours");
        }
    }

    private void checkOrder(int order) {
        if (!floor.orders.isOrder(order)) {
            throw new IndexOutOfBoundsException("there is no such order");
        }
    }

    private static boolean isWithin(int value, int least, int most) {
        return value >= least && value <= most;
    }

    private static void copyRow(int[] from, int[] to) {
        System.arraycopy(from, 0, to, 0, Math.min(from.length, to.length));
    }

    /** The colours, the parts, the families and the settings. */
    private static final class Catalogue {
        int colourCount;
        int partCount;
        int familyCount;
        final int[] shades = new int[MOST_COLOURS];
        final int[] crateSizes = new int[MOST_PARTS];
        final int[] cycles = new int[MOST_FAMILIES];
        final int[] weights = new int[MOST_FAMILIES];
        /** By family and part; 0 where the family does not have the part, as a part in it has 1 piece at least. */
        final int[] piecesOfShot = new int[MOST_FAMILIES * MOST_PARTS];
        /** By their numbers, at first with their first values. */
        final int[] settings = {480, 60, 2, 10};

        void copyFrom(Catalogue other) {
            colourCount = other.colourCount;
            partCount = other.partCount;
            familyCount = other.familyCount;
            copyRow(other.shades, shades);
            copyRow(other.crateSizes, crateSizes);
            copyRow(other.cycles, cycles);
            copyRow(other.weights, weights);
            copyRow(other.piecesOfShot, piecesOfShot);
            copyRow(other.settings, settings);
        }

        boolean isColour(int colour) {
            return isWithin(colour, 0, colourCount - 1);
        }

        boolean isPart(int part) {
            return isWithin(part, 0, partCount - 1);
        }

        boolean isFamily(int family) {
            return isWithin(family, 0, familyCount - 1);
        }

        int addColour(int shade, Reasons reasons) {
            if (!isWithin(shade, 0, MOST_SHADE)) {
                return reasons.refuse(OUT_OF_RANGE, 0);
            }
            if (colourCount >= MOST_COLOURS) {
                return reasons.refuse(FULL, 0);
            }
            shades[colourCount] = shade;
            colourCount++;
            return colourCount - 1;
        }

        int addPart(int size, Reasons reasons) {
            if (!isWithin(size, 1, MOST_CRATE_SIZE)) {
                return reasons.refuse(OUT_OF_RANGE, 0);
            }
            if (partCount >= MOST_PARTS) {
                return reasons.refuse(FULL, 0);
            }
            crateSizes[partCount] = size;
            partCount++;
            return partCount - 1;
        }

        int addFamily(FamilyText family, Reasons reasons) {
            if (family.hasZero()) {
                return reasons.refuse(OUT_OF_RANGE, 0);
            }
            if (!isPart(family.highestPart())) {
                return reasons.refuse(NOT_THERE, 0);
            }
            int twice = family.partTwice();
            if (twice != NONE) {
                return reasons.refuse(PART_TWICE, twice);
            }
            if (familyCount >= MOST_FAMILIES) {
                return reasons.refuse(FULL, 0);
            }
            cycles[familyCount] = family.cycle;
            weights[familyCount] = family.weight;
            for (int part = 0; part < MOST_PARTS; part++) {
                piecesOfShot[familyCount * MOST_PARTS + part] = family.piecesFor(part);
            }
            familyCount++;
            return familyCount - 1;
        }

        int changeSetting(int what, int value, Reasons reasons) {
            if (!isWithin(what, 0, SETTINGS - 1) || !isWithin(value, LEAST_SETTINGS[what], MOST_SETTINGS[what])) {
                return reasons.refuse(OUT_OF_RANGE, 0);
            }
            int before = settings[what];
            settings[what] = value;
            return before;
        }

        /** The first colour may be none. */
        int purgeShots(int from, int to) {
            if (!isColour(from) || !isColour(to) || from == to) {
                return 0;
            }
            return 1 + Math.max(0, shades[from] - shades[to]) * settings[PURGE_FACTOR];
        }

        int piecesOf(int family, int part) {
            if (!isFamily(family) || !isPart(part)) {
                return 0;
            }
            return piecesOfShot[family * MOST_PARTS + part];
        }

        int partsOf(int family) {
            int count = 0;
            for (int part = 0; part < partCount; part++) {
                count += piecesOf(family, part) > 0 ? 1 : 0;
            }
            return count;
        }

        int allPiecesOf(int family) {
            int sum = 0;
            for (int part = 0; part < partCount; part++) {
                sum += piecesOf(family, part);
            }
            return sum;
        }

        int familiesWith(int part) {
            int bits = 0;
            for (int family = 0; family < familyCount; family++) {
                bits |= piecesOf(family, part) > 0 ? 1 << family : 0;
            }
            return bits;
        }
    }

    /** What granulate the dryers have, and for how long it has dried. */
    private static final class Dryers {
        final int[] colours = {NONE, NONE, NONE};
        final int[] grams = new int[DRYERS];
        final int[] dried = new int[DRYERS];

        void copyFrom(Dryers other) {
            copyRow(other.colours, colours);
            copyRow(other.grams, grams);
            copyRow(other.dried, dried);
        }

        int fill(int dryer, int colour, int more, Reasons reasons) {
            if (!isWithin(more, 1, MOST_GRAMS)) {
                return reasons.refuse(OUT_OF_RANGE, 0);
            }
            if (colours[dryer] != NONE && colours[dryer] != colour) {
                return reasons.refuse(OTHER_COLOUR, colours[dryer]);
            }
            if (grams[dryer] + more > MOST_GRAMS) {
                return reasons.refuse(TOO_MANY_GRAMS, 0);
            }
            colours[dryer] = colour;
            grams[dryer] += more;
            dried[dryer] = 0;
            return grams[dryer];
        }

        int takeAll(int dryer, Reasons reasons) {
            if (!isWithin(dryer, 0, DRYERS - 1)) {
                return reasons.refuse(NOT_THERE, 0);
            }
            if (colours[dryer] == NONE) {
                return reasons.refuse(EMPTY, 0);
            }
            int had = grams[dryer];
            take(dryer, had);
            return had;
        }

        void take(int dryer, int less) {
            grams[dryer] -= less;
            if (grams[dryer] == 0) {
                colours[dryer] = NONE;
                dried[dryer] = 0;
            }
        }

        void dry(int minutes) {
            for (int dryer = 0; dryer < DRYERS; dryer++) {
                dried[dryer] += colours[dryer] == NONE ? 0 : minutes;
            }
        }

        int lackingMinutes(int dryer, int dryingTime) {
            return colours[dryer] == NONE ? 0 : Math.max(0, dryingTime - dried[dryer]);
        }

        int lowestWith(int colour) {
            for (int dryer = 0; dryer < DRYERS; dryer++) {
                if (colours[dryer] == colour) {
                    return dryer;
                }
            }
            return NONE;
        }

        int lowestUsable(int colour, int least, int dryingTime) {
            for (int dryer = 0; dryer < DRYERS; dryer++) {
                if (colours[dryer] == colour && dried[dryer] >= dryingTime && grams[dryer] >= least) {
                    return dryer;
                }
            }
            return NONE;
        }

        int allGrams() {
            int sum = 0;
            for (int dryer = 0; dryer < DRYERS; dryer++) {
                sum += grams[dryer];
            }
            return sum;
        }
    }

    /** The crates and the pieces, by part and colour, or by part where the colour does not matter. */
    private static final class Stock {
        final int[] closed = new int[STOCKS];
        final int[] open = new int[STOCKS];
        final int[] delivered = new int[STOCKS];
        final int[] pieces = new int[MOST_PARTS];
        final int[] scrapPieces = new int[MOST_PARTS];

        void copyFrom(Stock other) {
            copyRow(other.closed, closed);
            copyRow(other.open, open);
            copyRow(other.delivered, delivered);
            copyRow(other.pieces, pieces);
            copyRow(other.scrapPieces, scrapPieces);
        }

        void addScrap(int part, int more) {
            pieces[part] += more;
            scrapPieces[part] += more;
        }

        void addPieces(int part, int colour, int more, int crateSize) {
            int place = part * MOST_COLOURS + colour;
            pieces[part] += more;
            open[place] += more;
            if (crateSize > 0) {
                closed[place] += open[place] / crateSize;
                open[place] %= crateSize;
            }
        }

        boolean isDelivered(int part, int colour, int crates) {
            int place = part * MOST_COLOURS + colour;
            if (closed[place] < crates) {
                return false;
            }
            closed[place] -= crates;
            delivered[place] += crates;
            return true;
        }

        int cratesOf(int part) {
            int sum = 0;
            for (int colour = 0; colour < MOST_COLOURS; colour++) {
                int place = part * MOST_COLOURS + colour;
                sum += closed[place] + delivered[place];
            }
            return sum;
        }

        int restOf(int part) {
            int sum = 0;
            for (int colour = 0; colour < MOST_COLOURS; colour++) {
                sum += open[part * MOST_COLOURS + colour];
            }
            return sum;
        }

        int sumOf(int[] byPart) {
            int sum = 0;
            for (int number : byPart) {
                sum += number;
            }
            return sum;
        }
    }

    /** The orders, which stay when they are delivered or called off. */
    private static final class Orders {
        int count;
        final int[] parts = new int[MOST_ORDERS];
        final int[] colours = new int[MOST_ORDERS];
        final int[] crates = new int[MOST_ORDERS];
        final int[] weeks = new int[MOST_ORDERS];
        final int[] states = new int[MOST_ORDERS];
        final int[] lateWeeks = new int[MOST_ORDERS];

        void copyFrom(Orders other) {
            count = other.count;
            copyRow(other.parts, parts);
            copyRow(other.colours, colours);
            copyRow(other.crates, crates);
            copyRow(other.weeks, weeks);
            copyRow(other.states, states);
            copyRow(other.lateWeeks, lateWeeks);
        }

        boolean isOrder(int order) {
            return isWithin(order, 0, count - 1);
        }

        boolean isOpen(int order) {
            return states[order] == OPEN;
        }

        int add(int part, int colour, int crateCount, int week, Reasons reasons) {
            if (!isWithin(crateCount, 1, MOST_CRATES) || !isWithin(week, 0, MOST_WEEK)) {
                return reasons.refuse(OUT_OF_RANGE, 0);
            }
            if (count >= MOST_ORDERS) {
                return reasons.refuse(FULL, 0);
            }
            parts[count] = part;
            colours[count] = colour;
            crates[count] = crateCount;
            weeks[count] = week;
            states[count] = OPEN;
            lateWeeks[count] = 0;
            count++;
            return count - 1;
        }

        int close(int order, Reasons reasons) {
            if (!isOrder(order)) {
                return reasons.refuse(NOT_THERE, 0);
            }
            if (!isOpen(order)) {
                return reasons.refuse(NOT_OPEN, 0);
            }
            states[order] = CALLED_OFF;
            return countOf(OPEN);
        }

        void endWeek(int week, Stock stock) {
            for (int order = 0; order < count; order++) {
                if (!isOpen(order) || weeks[order] > week) {
                    continue;
                }
                if (stock.isDelivered(parts[order], colours[order], crates[order])) {
                    states[order] = DELIVERED;
                } else {
                    lateWeeks[order]++;
                }
            }
        }

        int countOf(int state) {
            int sum = 0;
            for (int order = 0; order < count; order++) {
                sum += states[order] == state ? 1 : 0;
            }
            return sum;
        }

        int lateWeeksOfDelivered() {
            int sum = 0;
            for (int order = 0; order < count; order++) {
                sum += states[order] == DELIVERED ? lateWeeks[order] : 0;
            }
            return sum;
        }

        int openUpTo(int week) {
            int bits = 0;
            for (int order = 0; order < count; order++) {
                bits |= isOpen(order) && weeks[order] <= week ? 1 << order : 0;
            }
            return bits;
        }
    }

    /** All that can be undone. */
    private static final class Floor {
        final Catalogue catalogue = new Catalogue();
        final Dryers dryers = new Dryers();
        final Stock stock = new Stock();
        final Orders orders = new Orders();
        int now;
        int week;
        int minutesOfWeek;
        int colour = NONE;
        int mounted = NONE;
        int gramsTaken;
        int shotsOfRuns;
        int shotsOfPurges;

        void copyFrom(Floor other) {
            catalogue.copyFrom(other.catalogue);
            dryers.copyFrom(other.dryers);
            stock.copyFrom(other.stock);
            orders.copyFrom(other.orders);
            now = other.now;
            week = other.week;
            minutesOfWeek = other.minutesOfWeek;
            colour = other.colour;
            mounted = other.mounted;
            gramsTaken = other.gramsTaken;
            shotsOfRuns = other.shotsOfRuns;
            shotsOfPurges = other.shotsOfPurges;
        }

        int mountFamily(int family, Reasons reasons) {
            if (!catalogue.isFamily(family)) {
                return reasons.refuse(NOT_THERE, 0);
            }
            if (mounted == family) {
                return reasons.refuse(MOUNTED_ALREADY, 0);
            }
            mounted = family;
            return pass(catalogue.settings[MOUNTING_TIME]);
        }

        int loadDryer(int dryer, int granulate, int grams, Reasons reasons) {
            if (!isWithin(dryer, 0, DRYERS - 1) || !catalogue.isColour(granulate)) {
                return reasons.refuse(NOT_THERE, 0);
            }
            return dryers.fill(dryer, granulate, grams, reasons);
        }

        int waitMinutes(int minutes, Reasons reasons) {
            if (!isWithin(minutes, 1, MOST_MINUTES)) {
                return reasons.refuse(OUT_OF_RANGE, 0);
            }
            return pass(minutes);
        }

        int addOrder(int part, int wanted, int crates, int dueWeek, Reasons reasons) {
            if (!catalogue.isPart(part) || !catalogue.isColour(wanted)) {
                return reasons.refuse(NOT_THERE, 0);
            }
            return orders.add(part, wanted, crates, dueWeek, reasons);
        }

        /** Answers the number of shots of the purge. */
        int runShots(int next, int shots, Reasons reasons) {
            if (!catalogue.isColour(next)) {
                return reasons.refuse(NOT_THERE, 0);
            }
            if (!isWithin(shots, 1, MOST_SHOTS)) {
                return reasons.refuse(OUT_OF_RANGE, 0);
            }
            if (!catalogue.isFamily(mounted)) {
                return reasons.refuse(NONE_MOUNTED, 0);
            }
            int purgeShots = catalogue.purgeShots(colour, next);
            int grams = (purgeShots + shots) * catalogue.weights[mounted];
            int dryer = dryers.lowestUsable(next, grams, catalogue.settings[DRYING_TIME]);
            if (dryer == NONE) {
                return refuseForDryers(next, grams, reasons);
            }
            dryers.take(dryer, grams);
            gramsTaken += grams;
            shotsOfRuns += purgeShots + shots;
            shotsOfPurges += purgeShots;
            colour = next;
            // The weeks that end in the run do not see its pieces yet.
            pass((purgeShots + shots) * catalogue.cycles[mounted]);
            putPieces(purgeShots, shots);
            return purgeShots;
        }

        private int refuseForDryers(int next, int grams, Reasons reasons) {
            reasons.refuse(NO_DRYER, 0);
            int lowest = dryers.lowestWith(next);
            if (lowest != NONE) {
                int minutes = dryers.lackingMinutes(lowest, catalogue.settings[DRYING_TIME]);
                if (minutes > 0) {
                    reasons.putBehind(NOT_DRY, minutes);
                } else {
                    reasons.putBehind(TOO_FEW_GRAMS, grams - dryers.grams[lowest]);
                }
            }
            return REFUSED;
        }

        private void putPieces(int purgeShots, int shots) {
            for (int part = 0; part < catalogue.partCount; part++) {
                int piecesOfShot = catalogue.piecesOf(mounted, part);
                if (piecesOfShot > 0) {
                    stock.addScrap(part, piecesOfShot * purgeShots);
                    stock.addPieces(part, colour, piecesOfShot * shots, catalogue.crateSizes[part]);
                }
            }
        }

        /** Answers how many weeks end. */
        private int pass(int minutes) {
            dryers.dry(minutes);
            now += minutes;
            int ended = 0;
            int left = minutes;
            while (left > 0) {
                // If the setting became less, the week may be longer already; it still ends with a minute that passes.
                int untilEnd = Math.max(1, catalogue.settings[WEEK_LENGTH] - minutesOfWeek);
                if (untilEnd > left) {
                    minutesOfWeek += left;
                    return ended;
                }
                left -= untilEnd;
                minutesOfWeek = 0;
                orders.endWeek(week, stock);
                week++;
                ended++;
            }
            return ended;
        }

        /** The pieces of the part of an order that a shot makes, 0 if no family with it is mounted. */
        int piecesFor(int order) {
            return catalogue.piecesOf(mounted, orders.parts[order]);
        }

        int lackingPieces(int order) {
            int part = orders.parts[order];
            int place = part * MOST_COLOURS + orders.colours[order];
            int crates = orders.crates[order] - stock.closed[place];
            return crates <= 0 ? 0 : crates * catalogue.crateSizes[part] - stock.open[place];
        }
    }

    /** What there was before the latest changes, in a ring. */
    private static final class History {
        /** One more than are kept: a change that is begun, and may yet be refused, must not cost the oldest one. */
        private static final int ROOMS = MOST_CHANGES + 1;

        private final Floor[] floors = new Floor[ROOMS];
        private int oldest;
        int count;

        History() {
            for (int room = 0; room < ROOMS; room++) {
                floors[room] = new Floor();
            }
        }

        void begin(Floor floor) {
            floors[roomBehind()].copyFrom(floor);
        }

        void keep() {
            if (count < MOST_CHANGES) {
                count++;
            } else {
                oldest = (oldest + 1) % ROOMS;
            }
        }

        void rollBack(Floor floor) {
            floor.copyFrom(floors[roomBehind()]);
        }

        void takeBack(Floor floor) {
            if (count > 0) {
                count--;
                floor.copyFrom(floors[roomBehind()]);
            }
        }

        void forget() {
            count = 0;
        }

        private int roomBehind() {
            return (oldest + count) % ROOMS;
        }
    }

    /** The reason for the latest refusal, and the reasons behind it. */
    private static final class Reasons {
        final int[] numbers = new int[MOST_REASONS];
        final int[] details = new int[MOST_REASONS];
        int count;

        /** Answers REFUSED, so that what refuses can end with it. */
        int refuse(int number, int detail) {
            count = 0;
            putBehind(number, detail);
            return REFUSED;
        }

        void putBehind(int number, int detail) {
            if (count < MOST_REASONS) {
                numbers[count] = number;
                details[count] = detail;
                count++;
            }
        }

        void putAhead(int number, int detail) {
            count = Math.min(count + 1, MOST_REASONS);
            for (int depth = count - 1; depth > 0; depth--) {
                numbers[depth] = numbers[depth - 1];
                details[depth] = details[depth - 1];
            }
            numbers[0] = number;
            details[0] = detail;
        }
    }

    /** The text buffer, and how far it has been read: where reading stops, there the fault is. */
    private static final class Text {
        private final char[] characters = new char[MOST_CHARACTERS];
        private int next;
        int length;
        int fault = NONE;

        boolean add(char character) {
            if (length >= MOST_CHARACTERS) {
                return false;
            }
            characters[length] = character;
            length++;
            return true;
        }

        void clear() {
            length = 0;
        }

        void start() {
            next = 0;
        }

        boolean isAtEnd() {
            return next >= length;
        }

        boolean skip(char character) {
            if (isAtEnd() || characters[next] != character) {
                return false;
            }
            next++;
            return true;
        }

        /** Reads a number of 1 digit to so many; answers NONE if there is none. */
        int number(int mostDigits) {
            int value = NONE;
            for (int digits = 0; digits < mostDigits && isAtDigit(); digits++) {
                value = Math.max(0, value) * 10 + (characters[next] - '0');
                next++;
            }
            return value;
        }

        private boolean isAtDigit() {
            return next < length && characters[next] >= '0' && characters[next] <= '9';
        }

        /** Answers whether the text had no fault. */
        boolean end(boolean isRead) {
            fault = isRead ? NONE : next;
            return isRead;
        }
    }

    /** Reads a family. */
    private static final class FamilyText {
        private final int[] parts = new int[MOST_FAMILY_PARTS];
        private final int[] pieces = new int[MOST_FAMILY_PARTS];
        private int count;
        int cycle;
        int weight;

        boolean isReadFrom(Text text) {
            text.start();
            return text.end(isHeadRead(text) && isPartRead(text) && isTailRead(text));
        }

        private boolean isHeadRead(Text text) {
            count = 0;
            cycle = text.number(2);
            if (cycle == NONE || !text.skip(' ')) {
                return false;
            }
            weight = text.number(3);
            return weight != NONE;
        }

        private boolean isPartRead(Text text) {
            if (count >= MOST_FAMILY_PARTS || !text.skip(' ')) {
                return false;
            }
            parts[count] = text.number(1);
            if (parts[count] == NONE || !text.skip('x')) {
                return false;
            }
            pieces[count] = text.number(1);
            count++;
            return pieces[count - 1] != NONE;
        }

        private boolean isTailRead(Text text) {
            for (int more = 1; more < MOST_FAMILY_PARTS && !text.isAtEnd(); more++) {
                if (!isPartRead(text)) {
                    return false;
                }
            }
            return text.isAtEnd();
        }

        /** The digits leave no other number that would be out of range. */
        boolean hasZero() {
            for (int index = 0; index < count; index++) {
                if (pieces[index] == 0) {
                    return true;
                }
            }
            return cycle == 0 || weight == 0;
        }

        int highestPart() {
            int highest = 0;
            for (int index = 0; index < count; index++) {
                highest = Math.max(highest, parts[index]);
            }
            return highest;
        }

        int partTwice() {
            for (int index = 0; index < count; index++) {
                for (int before = 0; before < index; before++) {
                    if (parts[before] == parts[index]) {
                        return parts[index];
                    }
                }
            }
            return NONE;
        }

        int piecesFor(int part) {
            for (int index = 0; index < count; index++) {
                if (parts[index] == part) {
                    return pieces[index];
                }
            }
            return 0;
        }
    }

    /** Reads a program. */
    private static final class ProgramText {
        static final int MOUNT = 0;
        static final int RUN = 1;
        static final int WAIT = 2;
        static final int LOAD = 3;
        private static final int MOST_NUMBERS = 3;
        /** Far above what a text can hold, as the shortest command and its ";" are three characters. */
        private static final int MOST_COMMANDS = MOST_CHARACTERS / 2;

        private final int[] kinds = new int[MOST_COMMANDS];
        private final int[] numbers = new int[MOST_COMMANDS * MOST_NUMBERS];
        int count;

        boolean isReadFrom(Text text) {
            text.start();
            count = 0;
            return text.end(areCommandsRead(text));
        }

        private boolean areCommandsRead(Text text) {
            for (int command = 0; command < MOST_COMMANDS; command++) {
                if (command > 0 && !text.skip(';') || !isCommandRead(text, command)) {
                    return false;
                }
                count = command + 1;
                if (text.isAtEnd()) {
                    return true;
                }
            }
            return false;
        }

        private boolean isCommandRead(Text text, int command) {
            if (text.skip('m')) {
                kinds[command] = MOUNT;
                return isNumberRead(text, command, 0, 1);
            }
            if (text.skip('r')) {
                kinds[command] = RUN;
                return isNumberRead(text, command, 0, 1) && text.skip('x') && isNumberRead(text, command, 1, 3);
            }
            if (text.skip('w')) {
                kinds[command] = WAIT;
                return isNumberRead(text, command, 0, 3);
            }
            if (text.skip('l')) {
                kinds[command] = LOAD;
                boolean isDryerRead = isNumberRead(text, command, 0, 1) && isNumberRead(text, command, 1, 1);
                return isDryerRead && text.skip('g') && isNumberRead(text, command, 2, 5);
            }
            return false;
        }

        private boolean isNumberRead(Text text, int command, int place, int mostDigits) {
            int number = text.number(mostDigits);
            numbers[command * MOST_NUMBERS + place] = number;
            return number != NONE;
        }

        int kindOf(int command) {
            return isWithin(command, 0, count - 1) ? kinds[command] : NONE;
        }

        int numberOf(int command, int place) {
            return isWithin(command, 0, count - 1) ? numbers[command * MOST_NUMBERS + place] : NONE;
        }
    }

    /** The best order of a set of colours, by two ways. */
    private static final class ColourOrders {
        private static final int SETS = 1 << MOST_COLOURS;
        /** A row for each colour that may be the latest, and the row 0 for none. */
        private static final int ROWS = MOST_COLOURS + 1;
        /** Above every sum, which is at most 6 purges of 46 shots each. */
        private static final int ABOVE_ALL = 1000000;

        private final int[] purges = new int[ROWS * MOST_COLOURS];
        /** The least sum for the colours that are left, by these and by the row of the latest one. */
        private final int[] sums = new int[SETS * ROWS];

        int leastSum(Floor floor, int colours) {
            fillSums(floor.catalogue, colours);
            return sums[colours * ROWS + floor.colour + 1];
        }

        int leastSumByTrying(Floor floor, int colours) {
            fillPurges(floor.catalogue);
            return tried(purges, floor.colour + 1, colours, 0);
        }

        int colourAt(Floor floor, int colours, int index) {
            fillSums(floor.catalogue, colours);
            int left = colours;
            int row = floor.colour + 1;
            int chosen = NONE;
            for (int place = 0; place <= index && left != 0; place++) {
                chosen = lowestBest(row, left);
                left &= ~(1 << chosen);
                row = chosen + 1;
            }
            return chosen;
        }

        /** Of several that are best the lowest one comes first, so the order is the first one of them. */
        private int lowestBest(int row, int left) {
            int chosen = 0;
            int least = ABOVE_ALL;
            for (int colour = 0; colour < MOST_COLOURS; colour++) {
                if ((left >> colour & 1) == 1 && sumThrough(row, colour, left) < least) {
                    least = sumThrough(row, colour, left);
                    chosen = colour;
                }
            }
            return chosen;
        }

        private int sumThrough(int row, int colour, int left) {
            return purges[row * MOST_COLOURS + colour] + sums[(left & ~(1 << colour)) * ROWS + colour + 1];
        }

        private void fillPurges(Catalogue catalogue) {
            for (int row = 0; row < ROWS; row++) {
                for (int colour = 0; colour < MOST_COLOURS; colour++) {
                    purges[row * MOST_COLOURS + colour] = catalogue.purgeShots(row - 1, colour);
                }
            }
        }

        /** A set comes behind all sets within it, so the sums that a sum is made of stand already. */
        private void fillSums(Catalogue catalogue, int colours) {
            fillPurges(catalogue);
            for (int left = 0; left <= colours && left < SETS; left++) {
                for (int row = 0; row < ROWS && (left & ~colours) == 0; row++) {
                    sums[left * ROWS + row] = left == 0 ? 0 : sumThrough(row, lowestBest(row, left), left);
                }
            }
        }

        /** Tries every colour that is left as the next one. */
        private static int tried(int[] purges, int row, int left, int depth) {
            if (left == 0 || depth >= MOST_COLOURS) {
                return 0;
            }
            int least = ABOVE_ALL;
            for (int colour = 0; colour < MOST_COLOURS; colour++) {
                if ((left >> colour & 1) == 1) {
                    int rest = tried(purges, colour + 1, left & ~(1 << colour), depth + 1);
                    least = Math.min(least, purges[row * MOST_COLOURS + colour] + rest);
                }
            }
            return least;
        }
    }
}
