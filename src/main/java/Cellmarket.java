import java.util.ArrayList;
import java.util.List;

/** A sheet of cells with owners and formulas whose columns trade in rounds; DOC.md tells what each call does. */
public final class Cellmarket {
    public static final int NONE = -1;
    public static final int NUMBER = 0, CELL = 1, BUY = 2, SELL = 3, BUYS = 4, SELLS = 5, BIDS = 6, LAST = 7, PLUS = 8, MINUS = 9, TIMES = 10, OVER = 11, LEAST = 12, MOST = 13, WHEN = 14;
    public static final int HIDDEN = 1, CIRCLE = 2, DIVISION = 3, RANGE = 4, EMPTY = 5, NEGATIVE = 6;

    private static final int OWNERS = 6, COLUMNS = 4, ROWS = 6, CELLS = 24;
    private static final int MOST_WORDS = 12, MOST_EDITS = 60, MOST_BIDS = 80, MOST_ROUNDS = 30;
    private static final int MOST_NOTICE = 50, MOST_MANY = 100, MOST_BID_LIMIT = 9999;
    private static final int MOST_WRITTEN = 1000000, MOST_FOUND = 1000000000, MOST_OWNER_LIMIT = 1000000000;
    private static final int FIRST_OWNER_LIMIT = 100000, MOST_FEE = 1000;
    /** Later than every event, so that "not yet" needs no case of its own in comparisons. */
    private static final int NEVER = 2147483647;

    private final Sheet sheet = new Sheet();
    private final Book book = new Book();
    private final Finder finder = new Finder(sheet, book);
    private final Clearing clearing = new Clearing(book, finder);
    private final Ledger ledger = new Ledger(book);
    private int eventCount = 0;

    public Cellmarket() {
    }

    // ---- cells

    public int give(int owner, int column, int row, int other) throws IndexOutOfBoundsException, IllegalStateException {
        needOwner(owner);
        needOwner(other);
        int cell = cellAt(column, row);
        needOwnCell(owner, cell);
        sheet.rights.owner[cell] = other;
        eventCount++;
        return sheet.rights.ownedBy(other);
    }

    public int let(int owner, int other, int column, int from, int to, boolean is) throws IndexOutOfBoundsException, IllegalArgumentException {
        needOwner(owner);
        needOwner(other);
        int first = cellAt(column, from);
        int last = cellAt(column, to);
        if (owner == other) {
            throw new IllegalArgumentException("both owners are the same");
        }
        if (last < first) {
            throw new IllegalArgumentException("to is below from");
        }
        eventCount++;
        return sheet.rights.letRead(owner, other, first, last, is);
    }

    public int ownerOf(int column, int row) throws IndexOutOfBoundsException {
        return sheet.rights.owner[cellAt(column, row)];
    }

    public boolean reads(int owner, int column, int row) throws IndexOutOfBoundsException {
        needOwner(owner);
        return sheet.rights.canRead(owner, cellAt(column, row));
    }

    // ---- formulas

    public int word(int what, int one, int two) throws IllegalArgumentException, IllegalStateException {
        if (what < NUMBER || what > WHEN) {
            throw new IllegalArgumentException("no such word");
        }
        if (what == NUMBER && (one < -MOST_WRITTEN || one > MOST_WRITTEN)) {
            throw new IllegalArgumentException("the number is out of range");
        }
        if (what >= CELL && what <= LAST && (one < 0 || one >= COLUMNS)) {
            throw new IllegalArgumentException("no such column");
        }
        if (what == CELL && (two < 0 || two >= ROWS)) {
            throw new IllegalArgumentException("no such row");
        }
        if (sheet.draft.many >= MOST_WORDS) {
            throw new IllegalStateException("the draft is full");
        }
        if (sheet.draft.height < taken(what)) {
            throw new IllegalStateException("there is not enough on the pile");
        }
        sheet.draft.append(what, one, two);
        return sheet.draft.many;
    }

    public int wipe() {
        int many = sheet.draft.many;
        sheet.draft.clear();
        return many;
    }

    public int enter(int owner, int column, int row) throws IndexOutOfBoundsException, IllegalStateException {
        needOwner(owner);
        int cell = cellAt(column, row);
        needEditable(owner, cell);
        if (sheet.draft.height != 1) {
            throw new IllegalStateException("the draft does not leave just one number");
        }
        int number = sheet.tell(cell, owner, eventCount, sheet.draft);
        sheet.draft = new Formula();
        eventCount++;
        return number;
    }

    public int empty(int owner, int column, int row) throws IndexOutOfBoundsException, IllegalStateException {
        needOwner(owner);
        int cell = cellAt(column, row);
        needEditable(owner, cell);
        int number = sheet.tell(cell, owner, eventCount, sheet.blank);
        eventCount++;
        return number;
    }

    public int notice(int column, int events) throws IndexOutOfBoundsException, IllegalArgumentException {
        needColumn(column);
        if (events < 0 || events > MOST_NOTICE) {
            throw new IllegalArgumentException("the notice is out of range");
        }
        int before = sheet.notices[column];
        sheet.notices[column] = events;
        eventCount++;
        return before;
    }

    public int value(int owner, int column, int row) throws IndexOutOfBoundsException, IllegalStateException {
        needOwner(owner);
        int cell = cellAt(column, row);
        needReader(owner, cell);
        finder.goTo(eventCount, sheet.rights);
        return finder.numberOf(cell);
    }

    public int fault(int owner, int column, int row) throws IndexOutOfBoundsException, IllegalStateException {
        needOwner(owner);
        int cell = cellAt(column, row);
        needReader(owner, cell);
        finder.goTo(eventCount, sheet.rights);
        return finder.faultOf(cell);
    }

    public int edits(int column, int row) throws IndexOutOfBoundsException {
        return sheet.countOf(cellAt(column, row));
    }

    public int edit(int column, int row, int place, int what) throws IndexOutOfBoundsException, IllegalArgumentException {
        int cell = cellAt(column, row);
        Edit edit = sheet.placed(cell, place);
        if (edit == null) {
            throw new IndexOutOfBoundsException("no such place");
        }
        switch (what) {
            case 0:
                return edit.number;
            case 1:
                return edit.told;
            case 2:
                return edit.from;
            case 3:
                return edit.teller;
            case 4:
                return edit.formula.many;
            case 5:
                return edit.isStruck ? 1 : 0;
            case 6:
                return edit == sheet.counting(cell, eventCount) ? 1 : 0;
            default:
                throw new IllegalArgumentException("what is out of range");
        }
    }

    // ---- bids and rounds

    public int bid(int owner, int column, boolean isBuy, int many, int limit) throws IndexOutOfBoundsException, IllegalArgumentException, IllegalStateException {
        needOwner(owner);
        needColumn(column);
        if (many < 1 || many > MOST_MANY) {
            throw new IllegalArgumentException("many is out of range");
        }
        if (limit < 0 || limit > MOST_BID_LIMIT) {
            throw new IllegalArgumentException("the limit is out of range");
        }
        Round round = book.current[column];
        if (round.wasFrozen()) {
            throw new IllegalStateException("the column is frozen");
        }
        if (book.bids.size() >= MOST_BIDS) {
            throw new IllegalStateException("no more bids are made");
        }
        if (isBuy && ledger.exposureOf(owner) + many * limit > ledger.limits[owner]) {
            throw new IllegalStateException("the owner's limit refuses the bid");
        }
        int number = book.bids.size();
        book.bids.add(new Bid(number, owner, round, isBuy, many, limit, eventCount));
        eventCount++;
        return number;
    }

    public int withdraw(int owner, int bid) throws IndexOutOfBoundsException, IllegalStateException {
        needOwner(owner);
        Bid made = bidNumbered(bid);
        if (made.owner != owner) {
            throw new IllegalStateException("it is not the owner's bid");
        }
        if (made.withdrawn != NEVER) {
            throw new IllegalStateException("it was withdrawn");
        }
        if (book.current[made.round.column].wasFrozen()) {
            throw new IllegalStateException("its column is frozen");
        }
        if (made.round.isCleared()) {
            throw new IllegalStateException("its round was cleared");
        }
        made.withdrawn = eventCount;
        eventCount++;
        return made.many;
    }

    public boolean share(int column, boolean byShares) throws IndexOutOfBoundsException {
        needColumn(column);
        boolean before = book.byShares[column];
        book.byShares[column] = byShares;
        eventCount++;
        return before;
    }

    public int bell(int column) throws IndexOutOfBoundsException, IllegalStateException {
        needColumn(column);
        Round round = book.current[column];
        if (!round.wasFrozen()) {
            round.freeze(eventCount, book.byShares[column], sheet.rights);
            eventCount++;
            return NONE;
        }
        if (book.cleared.size() >= MOST_ROUNDS) {
            throw new IllegalStateException("no more rounds are cleared");
        }
        int number = book.close(round, eventCount);
        clearing.reckon(round);
        eventCount++;
        return number;
    }

    public boolean isFrozen(int column) throws IndexOutOfBoundsException {
        needColumn(column);
        return book.current[column].wasFrozen();
    }

    public int round(int round, int what) throws IndexOutOfBoundsException, IllegalArgumentException {
        Round cleared = roundNumbered(round);
        switch (what) {
            case 0:
                return cleared.column;
            case 1:
                return cleared.price;
            case 2:
                return cleared.volume;
            case 3:
                return cleared.fee;
            case 4:
                return cleared.why;
            case 5:
                return book.feesOf(cleared);
            default:
                throw new IllegalArgumentException("what is out of range");
        }
    }

    public int priceAnew(int round) throws IndexOutOfBoundsException {
        Round cleared = roundNumbered(round);
        // Clearing again what is cleared changes nothing: it depends on the history and the rounds ahead alone.
        for (int i = 0; i <= round && i < book.cleared.size(); i++) {
            clearing.reckon(book.cleared.get(i));
        }
        return cleared.price;
    }

    public int got(int bid) throws IndexOutOfBoundsException {
        return bidNumbered(bid).got;
    }

    // ---- settling, limits

    public int due(int owner, int column) throws IndexOutOfBoundsException {
        needOwner(owner);
        needColumn(column);
        return ledger.dueOf(owner, column);
    }

    public int settle(int column) throws IndexOutOfBoundsException {
        needColumn(column);
        eventCount++;
        return ledger.payDues(column);
    }

    public int cash(int owner) throws IndexOutOfBoundsException {
        needOwner(owner);
        return ledger.cash[owner];
    }

    public int limit(int owner, int limit) throws IndexOutOfBoundsException, IllegalArgumentException {
        needOwner(owner);
        if (limit < 0 || limit > MOST_OWNER_LIMIT) {
            throw new IllegalArgumentException("the limit is out of range");
        }
        int before = ledger.limits[owner];
        ledger.limits[owner] = limit;
        eventCount++;
        return before;
    }

    public int exposure(int owner) throws IndexOutOfBoundsException {
        needOwner(owner);
        return ledger.exposureOf(owner);
    }

    // ---- disputes

    public int strikeBid(int bid) throws IndexOutOfBoundsException, IllegalStateException {
        Bid made = bidNumbered(bid);
        if (!made.round.isCleared()) {
            throw new IllegalStateException("its round was not cleared");
        }
        if (made.isStruck) {
            throw new IllegalStateException("it is struck");
        }
        made.isStruck = true;
        eventCount++;
        return clearing.reckonAll();
    }

    public int strikeEdit(int edit) throws IndexOutOfBoundsException, IllegalStateException {
        if (edit < 0 || edit >= sheet.edits.size()) {
            throw new IndexOutOfBoundsException("no such edit");
        }
        Edit told = sheet.edits.get(edit);
        if (told.isStruck) {
            throw new IllegalStateException("it is struck");
        }
        told.isStruck = true;
        eventCount++;
        return clearing.reckonAll();
    }

    public int events() {
        return eventCount;
    }

    // ---- what calls need

    private static void needOwner(int owner) {
        if (owner < 0 || owner >= OWNERS) {
            throw new IndexOutOfBoundsException("no such owner");
        }
    }

    private static void needColumn(int column) {
        if (column < 0 || column >= COLUMNS) {
            throw new IndexOutOfBoundsException("no such column");
        }
    }

    private static int cellAt(int column, int row) {
        needColumn(column);
        if (row < 0 || row >= ROWS) {
            throw new IndexOutOfBoundsException("no such row");
        }
        return column * ROWS + row;
    }

    private void needOwnCell(int owner, int cell) {
        if (sheet.rights.owner[cell] != owner) {
            throw new IllegalStateException("it is not the owner's cell");
        }
    }

    private void needReader(int owner, int cell) {
        if (!sheet.rights.canRead(owner, cell)) {
            throw new IllegalStateException("the owner does not read it");
        }
    }

    private void needEditable(int owner, int cell) {
        needOwnCell(owner, cell);
        if (book.current[cell / ROWS].wasFrozen()) {
            throw new IllegalStateException("the column is frozen");
        }
        if (sheet.edits.size() >= MOST_EDITS) {
            throw new IllegalStateException("no more edits are told");
        }
    }

    private Bid bidNumbered(int number) {
        if (number < 0 || number >= book.bids.size()) {
            throw new IndexOutOfBoundsException("no such bid");
        }
        return book.bids.get(number);
    }

    private Round roundNumbered(int number) {
        if (number < 0 || number >= book.cleared.size()) {
            throw new IndexOutOfBoundsException("no such round");
        }
        return book.cleared.get(number);
    }

    /** How many numbers a word takes from the pile; each word puts one on it. */
    private static int taken(int what) {
        if (what == WHEN) {
            return 3;
        }
        return what >= PLUS ? 2 : 0;
    }

    /** Who owns the cells, and who else reads them. */
    private static final class Rights {
        final int[] owner = new int[CELLS];
        /** A bit for each owner who was let read the cell. */
        final int[] readers = new int[CELLS];

        Rights() {
            for (int cell = 0; cell < CELLS; cell++) {
                owner[cell] = cell / ROWS;
            }
        }

        void copy(Rights from) {
            System.arraycopy(from.owner, 0, owner, 0, CELLS);
            System.arraycopy(from.readers, 0, readers, 0, CELLS);
        }

        boolean canRead(int who, int cell) {
            return owner[cell] == who || (readers[cell] >> who & 1) == 1;
        }

        int ownedBy(int who) {
            int many = 0;
            for (int cell = 0; cell < CELLS; cell++) {
                if (owner[cell] == who) {
                    many++;
                }
            }
            return many;
        }

        int letRead(int who, int other, int first, int last, boolean is) {
            int many = 0;
            for (int cell = first; cell <= last && cell < CELLS; cell++) {
                if (owner[cell] == who) {
                    readers[cell] = is ? readers[cell] | 1 << other : readers[cell] & ~(1 << other);
                    many++;
                }
            }
            return many;
        }
    }

    /** A row of words; without any it stands for an empty cell. */
    private static final class Formula {
        final int[] what = new int[MOST_WORDS];
        final int[] one = new int[MOST_WORDS];
        final int[] two = new int[MOST_WORDS];
        int many = 0;
        /** How many numbers the words leave on the pile. */
        int height = 0;

        void append(int newWhat, int newOne, int newTwo) {
            if (many >= MOST_WORDS) {
                return;
            }
            what[many] = newWhat;
            one[many] = newOne;
            two[many] = newTwo;
            many++;
            height += 1 - taken(newWhat);
        }

        void clear() {
            many = 0;
            height = 0;
        }
    }

    /** What was told of a cell: a formula, or that it is empty. */
    private static final class Edit {
        final int number;
        final int cell;
        final int teller;
        final int told;
        final int from;
        final Formula formula;
        boolean isStruck = false;

        Edit(int number, int cell, int teller, int told, int from, Formula formula) {
            this.number = number;
            this.cell = cell;
            this.teller = teller;
            this.told = told;
            this.from = from;
            this.formula = formula;
        }

        boolean countsAt(int event) {
            return !isStruck && from <= event;
        }
    }

    /** The cells: whose they are now, and all edits in the order in which they were told. */
    private static final class Sheet {
        final Rights rights = new Rights();
        final List<Edit> edits = new ArrayList<>();
        final int[] notices = new int[COLUMNS];
        final Formula blank = new Formula();
        Formula draft = new Formula();

        int tell(int cell, int teller, int event, Formula formula) {
            int number = edits.size();
            // An edit never counts at its own event, also without a notice.
            int from = event + Math.max(1, notices[cell / ROWS]);
            edits.add(new Edit(number, cell, teller, event, from, formula));
            return number;
        }

        int countOf(int cell) {
            int many = 0;
            for (int i = 0; i < edits.size(); i++) {
                if (edits.get(i).cell == cell) {
                    many++;
                }
            }
            return many;
        }

        Edit placed(int cell, int place) {
            int many = 0;
            for (int i = 0; i < edits.size(); i++) {
                Edit edit = edits.get(i);
                if (edit.cell == cell) {
                    if (many == place) {
                        return edit;
                    }
                    many++;
                }
            }
            return null;
        }

        Edit counting(int cell, int event) {
            for (int i = edits.size() - 1; i >= 0; i--) {
                Edit edit = edits.get(i);
                if (edit.cell == cell && edit.countsAt(event)) {
                    return edit;
                }
            }
            return null;
        }
    }

    /** A column's round, from its opening on, and what it came to when it was reckoned last. */
    private static final class Round {
        final int column;
        int frozen = NEVER;
        int cleared = NEVER;
        boolean byShares = false;
        /** Those at the bell that froze it: gifts and leaves told since then don't count for it. */
        final Rights rights = new Rights();
        int price = NONE;
        int volume = 0;
        int fee = 0;
        int why = 0;

        Round(int column) {
            this.column = column;
        }

        boolean wasFrozen() {
            return frozen != NEVER;
        }

        boolean isCleared() {
            return cleared != NEVER;
        }

        int feeOwner() {
            return rights.owner[column * ROWS + 1];
        }

        void freeze(int event, boolean isByShares, Rights now) {
            frozen = event;
            byShares = isByShares;
            rights.copy(now);
        }
    }

    private static final class Bid {
        final int number;
        final int owner;
        final Round round;
        final boolean isBuy;
        final int many;
        final int limit;
        final int made;
        int withdrawn = NEVER;
        boolean isStruck = false;
        int got = 0;

        Bid(int number, int owner, Round round, boolean isBuy, int many, int limit, int made) {
            this.number = number;
            this.owner = owner;
            this.round = round;
            this.isBuy = isBuy;
            this.many = many;
            this.limit = limit;
            this.made = made;
        }

        boolean standsAt(int event) {
            return made < event && withdrawn >= event && round.cleared >= event && !isStruck;
        }

        boolean takesPart() {
            if (isStruck || withdrawn != NEVER || round.price == NONE) {
                return false;
            }
            return isBuy ? limit >= round.price : limit <= round.price;
        }

        boolean goesAhead(Bid other) {
            if (limit == other.limit) {
                return number < other.number;
            }
            return isBuy ? limit > other.limit : limit < other.limit;
        }

        /** Fits an int: who gets something has a limit that is not below the price. */
        int worth() {
            return got == 0 ? 0 : round.price * got;
        }

        int feePaid() {
            return isBuy ? worth() * round.fee / 1000 : 0;
        }

        int owed() {
            return isBuy ? worth() + feePaid() : -worth();
        }
    }

    /** All bids, and the rounds: those that are open or frozen, and the cleared ones by their numbers. */
    private static final class Book {
        final List<Bid> bids = new ArrayList<>();
        final Round[] current = new Round[COLUMNS];
        final List<Round> cleared = new ArrayList<>();
        final boolean[] byShares = new boolean[COLUMNS];

        Book() {
            for (int column = 0; column < COLUMNS; column++) {
                current[column] = new Round(column);
            }
        }

        int close(Round round, int event) {
            int number = cleared.size();
            round.cleared = event;
            cleared.add(round);
            current[round.column] = new Round(round.column);
            return number;
        }

        int feesOf(Round round) {
            int fees = 0;
            for (int i = 0; i < bids.size(); i++) {
                Bid bid = bids.get(i);
                if (bid.round == round) {
                    fees += bid.feePaid();
                }
            }
            return fees;
        }

        /** What an owner owes in a column less what they get, with nothing settled. */
        int owedBy(int owner, int column) {
            int owed = 0;
            for (int i = 0; i < bids.size(); i++) {
                Bid bid = bids.get(i);
                if (bid.round.column == column) {
                    if (bid.owner == owner) {
                        owed += bid.owed();
                    }
                    if (bid.round.feeOwner() == owner) {
                        owed -= bid.feePaid();
                    }
                }
            }
            return owed;
        }

        /** What an owner's bids to buy can cost in rounds that are not cleared. */
        int offeredBy(int owner) {
            int offered = 0;
            for (int i = 0; i < bids.size(); i++) {
                Bid bid = bids.get(i);
                if (bid.owner == owner && bid.isBuy && bid.withdrawn == NEVER && !bid.round.isCleared()) {
                    offered += bid.many * bid.limit;
                }
            }
            return offered;
        }
    }

    /** Finds the values of cells at one event; its rows are used again for the next one. */
    private static final class Finder {
        private static final int UNKNOWN = 0, SOUGHT = 1, FOUND = 2;

        private final Sheet sheet;
        private final Book book;
        private Rights rights;
        private final Formula[] formulas = new Formula[CELLS];
        private final int[] states = new int[CELLS];
        private final int[] numbers = new int[CELLS];
        private final int[] faults = new int[CELLS];
        /** For each of the words BUY to LAST its number in each column. */
        private final int[][] facts = new int[LAST + 1][COLUMNS];
        /** A stretch of it for each cell of a chain of cells that ask one another, and three to read ahead. */
        private final int[] pile = new int[CELLS * MOST_WORDS + 3];
        /** What the last word came to, if it had no fault. */
        private int made = 0;

        Finder(Sheet sheet, Book book) {
            this.sheet = sheet;
            this.book = book;
            this.rights = sheet.rights;
            for (int cell = 0; cell < CELLS; cell++) {
                formulas[cell] = sheet.blank;
            }
        }

        void goTo(int event, Rights then) {
            rights = then;
            for (int cell = 0; cell < CELLS; cell++) {
                states[cell] = UNKNOWN;
                formulas[cell] = sheet.blank;
            }
            for (int i = 0; i < sheet.edits.size(); i++) {
                Edit edit = sheet.edits.get(i);
                if (edit.countsAt(event)) {
                    formulas[edit.cell] = edit.formula;
                }
            }
            forgetFacts();
            for (int i = 0; i < book.bids.size(); i++) {
                Bid bid = book.bids.get(i);
                if (bid.standsAt(event)) {
                    addBid(bid);
                }
            }
            for (int i = 0; i < book.cleared.size(); i++) {
                Round round = book.cleared.get(i);
                if (round.cleared < event && round.price != NONE) {
                    facts[LAST][round.column] = round.price;
                }
            }
        }

        boolean isEmpty(int cell) {
            return formulas[cell].many == 0;
        }

        int faultOf(int cell) {
            return find(cell, 0);
        }

        int numberOf(int cell) {
            return find(cell, 0) == 0 ? numbers[cell] : 0;
        }

        private void forgetFacts() {
            for (int column = 0; column < COLUMNS; column++) {
                for (int what = BUY; what <= LAST; what++) {
                    facts[what][column] = 0;
                }
            }
        }

        private void addBid(Bid bid) {
            int column = bid.round.column;
            facts[BIDS][column]++;
            if (bid.isBuy) {
                facts[BUY][column] = Math.max(facts[BUY][column], bid.limit);
                facts[BUYS][column] += bid.many;
                return;
            }
            boolean isFirst = facts[SELLS][column] == 0;
            facts[SELL][column] = isFirst ? bid.limit : Math.min(facts[SELL][column], bid.limit);
            facts[SELLS][column] += bid.many;
        }

        /**
         * Finds a cell's fault, and its number if it has none; depth cells wait for it. What is found once is kept:
         * each cell comes to the same whichever cell asks for it, as those on a circle all have a fault.
         */
        private int find(int cell, int depth) {
            if (states[cell] == FOUND) {
                return faults[cell];
            }
            if (states[cell] == SOUGHT || depth >= CELLS) {
                return CIRCLE;
            }
            states[cell] = SOUGHT;
            made = 0;
            faults[cell] = goThrough(formulas[cell], cell, depth);
            numbers[cell] = made;
            states[cell] = FOUND;
            return faults[cell];
        }

        private int goThrough(Formula formula, int cell, int depth) {
            int top = depth * MOST_WORDS;
            for (int i = 0; i < formula.many; i++) {
                int what = formula.what[i];
                top -= taken(what);
                if (top < 0 || top >= CELLS * MOST_WORDS) {
                    return RANGE;
                }
                int fault;
                if (what != CELL) {
                    fault = reckonWord(what, formula.one[i], top);
                } else {
                    int asked = formula.one[i] * ROWS + formula.two[i];
                    fault = rights.canRead(rights.owner[cell], asked) ? find(asked, depth + 1) : HIDDEN;
                    made = numbers[asked];
                }
                if (fault != 0) {
                    return fault;
                }
                pile[top] = made;
                top++;
            }
            return 0;
        }

        /** Reckons a word but CELL; what it takes from the pile begins at top. */
        private int reckonWord(int what, int one, int top) {
            long low = pile[top];
            long next = pile[top + 1];
            long upper = pile[top + 2];
            long number;
            switch (what) {
                case NUMBER:
                    number = one;
                    break;
                case PLUS:
                    number = low + next;
                    break;
                case MINUS:
                    number = low - next;
                    break;
                case TIMES:
                    number = low * next;
                    break;
                case OVER:
                    if (next == 0) {
                        return DIVISION;
                    }
                    number = low / next;
                    break;
                case LEAST:
                    number = low < next ? low : next;
                    break;
                case MOST:
                    number = low > next ? low : next;
                    break;
                case WHEN:
                    number = low > 0 ? next : upper;
                    break;
                default:
                    number = facts[what][one];
            }
            if (number < -MOST_FOUND || number > MOST_FOUND) {
                return RANGE;
            }
            made = (int) number;
            return 0;
        }
    }

    /** Reckons cleared rounds, from what held at the bells that froze them. */
    private static final class Clearing {
        private final Book book;
        private final Finder finder;

        Clearing(Book book, Finder finder) {
            this.book = book;
            this.finder = finder;
        }

        /** Returns how many rounds came to something else. */
        int reckonAll() {
            int changed = 0;
            for (int i = 0; i < book.cleared.size(); i++) {
                if (reckon(book.cleared.get(i))) {
                    changed++;
                }
            }
            return changed;
        }

        /** Returns whether the round, or a bid of it, came to something else. */
        boolean reckon(Round round) {
            int price = round.price;
            int volume = round.volume;
            int fee = round.fee;
            finder.goTo(round.frozen, round.rights);
            findPrice(round);
            boolean isOther = shareOut(round);
            return isOther || price != round.price || volume != round.volume || fee != round.fee;
        }

        private void findPrice(Round round) {
            int cell = round.column * ROWS;
            int why = finder.faultOf(cell);
            if (finder.isEmpty(cell)) {
                why = EMPTY;
            } else if (why == 0 && finder.numberOf(cell) < 0) {
                why = NEGATIVE;
            }
            round.why = why;
            round.price = why == 0 ? finder.numberOf(cell) : NONE;
            round.fee = why == 0 ? Math.max(0, Math.min(MOST_FEE, finder.numberOf(cell + 1))) : 0;
        }

        /** Returns whether a bid gets something else than before. */
        private boolean shareOut(Round round) {
            int buys = totalOf(round, true);
            int sells = totalOf(round, false);
            round.volume = Math.min(buys, sells);
            boolean isOther = false;
            for (int i = 0; i < book.bids.size(); i++) {
                Bid bid = book.bids.get(i);
                if (bid.round == round) {
                    int got = 0;
                    if (bid.takesPart()) {
                        got = round.byShares ? partByShares(bid, bid.isBuy ? buys : sells) : partByOrder(bid);
                    }
                    isOther = isOther || got != bid.got;
                    bid.got = got;
                }
            }
            return isOther;
        }

        private static boolean isOnSide(Bid bid, Round round, boolean isBuy) {
            return bid.round == round && bid.isBuy == isBuy && bid.takesPart();
        }

        private int totalOf(Round round, boolean isBuy) {
            int total = 0;
            for (int i = 0; i < book.bids.size(); i++) {
                Bid bid = book.bids.get(i);
                if (isOnSide(bid, round, isBuy)) {
                    total += bid.many;
                }
            }
            return total;
        }

        private int partByOrder(Bid bid) {
            int left = bid.round.volume;
            for (int i = 0; i < book.bids.size(); i++) {
                Bid other = book.bids.get(i);
                if (isOnSide(other, bid.round, bid.isBuy) && other.goesAhead(bid)) {
                    left -= other.many;
                }
            }
            return Math.max(0, Math.min(bid.many, left));
        }

        private int partByShares(Bid bid, int total) {
            if (total <= 0) {
                return 0;
            }
            int volume = bid.round.volume;
            int rest = volume * bid.many % total;
            int left = volume;
            int ahead = 0;
            for (int i = 0; i < book.bids.size(); i++) {
                Bid other = book.bids.get(i);
                if (isOnSide(other, bid.round, bid.isBuy)) {
                    int otherRest = volume * other.many % total;
                    left -= volume * other.many / total;
                    if (otherRest > rest || otherRest == rest && other.number < bid.number) {
                        ahead++;
                    }
                }
            }
            return volume * bid.many / total + (ahead < left ? 1 : 0);
        }
    }

    /** What was settled, the owners' cash and their limits. */
    private static final class Ledger {
        private final Book book;
        /** Thousandths, for each owner and column. */
        private final int[] settled = new int[OWNERS * COLUMNS];
        final int[] cash = new int[OWNERS];
        final int[] limits = new int[OWNERS];
        /** Only while a column is settled: what each owner pays, and the part of it that was cut off. */
        private final int[] paid = new int[OWNERS];
        private final int[] cut = new int[OWNERS];

        Ledger(Book book) {
            this.book = book;
            for (int owner = 0; owner < OWNERS; owner++) {
                limits[owner] = FIRST_OWNER_LIMIT;
            }
        }

        int dueOf(int owner, int column) {
            return book.owedBy(owner, column) - settled[owner * COLUMNS + column];
        }

        int exposureOf(int owner) {
            int exposure = book.offeredBy(owner);
            for (int column = 0; column < COLUMNS; column++) {
                exposure += Math.max(0, dueOf(owner, column));
            }
            return exposure;
        }

        /** Returns how many hundredths are paid by those who pay. */
        int payDues(int column) {
            int lacking = 0;
            for (int owner = 0; owner < OWNERS; owner++) {
                int due = dueOf(owner, column);
                paid[owner] = Math.floorDiv(due, 10);
                cut[owner] = Math.floorMod(due, 10);
                lacking -= paid[owner];
                settled[owner * COLUMNS + column] += due;
            }
            int together = 0;
            for (int owner = 0; owner < OWNERS; owner++) {
                int pays = paid[owner] + (cutAhead(owner) < lacking ? 1 : 0);
                cash[owner] -= pays;
                together += Math.max(0, pays);
            }
            return together;
        }

        /** How many owners pay what is lacking rather than this one. */
        private int cutAhead(int owner) {
            int ahead = 0;
            for (int other = 0; other < OWNERS; other++) {
                if (cut[other] > cut[owner] || cut[other] == cut[owner] && other < owner) {
                    ahead++;
                }
            }
            return ahead;
        }
    }
}
