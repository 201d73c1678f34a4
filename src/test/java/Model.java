import java.util.ArrayList;
import java.util.HashSet;
import java.util.List;
import java.util.Set;

/**
 * The document once more, written another way: only the told events are kept, and each answer is found by going
 * through all of them from the first one on. It is slow, and shares no code with the class under test.
 */
final class Model {
    static final long IOOBE = Long.MIN_VALUE, IAE = Long.MIN_VALUE + 1, ISE = Long.MIN_VALUE + 2;
    static final int NEVER = Integer.MAX_VALUE;

    record Event(String act, int[] args, List<int[]> formula) { }

    static final class Edit {
        int number, column, row, who, event, from;
        List<int[]> words;
    }

    static final class Bid {
        int number, owner, column, many, limit, got, round = -1;
        boolean isBuy, isWithdrawn;
    }

    static final class Round {
        int column, price = -1, volume, fee, why, feeOwner, paid;
        int[] got;
    }

    /** What a bell that froze took from the column. */
    static final class Frozen {
        int price = -1, fee, why, feeOwner;
        boolean byShares;
    }

    /** All that holds at an event. */
    static final class State {
        int event;
        int[][] owner = new int[4][6];
        boolean[][][] let = new boolean[6][4][6];
        int[] notice = new int[4];
        boolean[] byShares = new boolean[4];
        Frozen[] frozen = new Frozen[4];
        List<Edit> edits = new ArrayList<>();
        List<Bid> bids = new ArrayList<>();
        List<List<Bid>> open = new ArrayList<>();
        List<Round> rounds = new ArrayList<>();
        long[][] due = new long[6][4];
        long[] cash = new long[6];
        int[] limit = new int[6];

        State() {
            for (int c = 0; c < 4; c++) {
                open.add(new ArrayList<>());
                for (int r = 0; r < 6; r++) {
                    owner[c][r] = c;
                }
            }
            java.util.Arrays.fill(limit, 100000);
        }

        boolean reads(int who, int column, int row) {
            return owner[column][row] == who || let[who][column][row];
        }
    }

    static final class Fault extends RuntimeException {
        private static final long serialVersionUID = 1;
        final int kind;

        Fault(int kind) {
            super(null, null, false, false);
            this.kind = kind;
        }
    }

    final List<Event> events = new ArrayList<>();
    final Set<Integer> struckBids = new HashSet<>();
    final Set<Integer> struckEdits = new HashSet<>();
    /** What was settled stays so, whatever is struck later: for each settling the column, and each owner's dues and cash. */
    final List<long[][]> settlings = new ArrayList<>();
    List<int[]> draft = new ArrayList<>();
    private State kept = null;
    private int steps;

    // ---- going through the events

    State now() {
        if (kept == null) {
            kept = replay(events.size());
        }
        return kept;
    }

    State replay(int until) {
        State s = new State();
        int settled = 0;
        for (int e = 0; e < until; e++) {
            s.event = e;
            int[] a = events.get(e).args();
            switch (events.get(e).act()) {
                case "give" -> s.owner[a[1]][a[2]] = a[3];
                case "let" -> {
                    for (int r = a[3]; r <= a[4]; r++) {
                        if (s.owner[a[2]][r] == a[0]) {
                            s.let[a[1]][a[2]][r] = a[5] == 1;
                        }
                    }
                }
                case "edit" -> {
                    Edit edit = new Edit();
                    edit.number = s.edits.size();
                    edit.who = a[0];
                    edit.column = a[1];
                    edit.row = a[2];
                    edit.event = e;
                    edit.from = s.notice[a[1]] == 0 ? e + 1 : e + s.notice[a[1]];
                    edit.words = events.get(e).formula();
                    s.edits.add(edit);
                }
                case "notice" -> s.notice[a[0]] = a[1];
                case "share" -> s.byShares[a[0]] = a[1] == 1;
                case "limit" -> s.limit[a[0]] = a[1];
                case "bid" -> {
                    Bid bid = new Bid();
                    bid.number = s.bids.size();
                    bid.owner = a[0];
                    bid.column = a[1];
                    bid.isBuy = a[2] == 1;
                    bid.many = a[3];
                    bid.limit = a[4];
                    s.bids.add(bid);
                    s.open.get(bid.column).add(bid);
                }
                case "withdraw" -> s.bids.get(a[0]).isWithdrawn = true;
                case "bell" -> ring(s, a[0]);
                case "settle" -> {
                    long[][] told = settlings.get(settled++);
                    for (int o = 0; o < 6; o++) {
                        s.due[o][a[0]] -= told[0][o];
                        s.cash[o] -= told[1][o];
                    }
                }
                default -> { }
            }
        }
        s.event = until;
        return s;
    }

    private void ring(State s, int column) {
        if (s.frozen[column] == null) {
            Frozen f = new Frozen();
            f.byShares = s.byShares[column];
            f.feeOwner = s.owner[column][1];
            if (formula(s, column, 0) == null) {
                f.why = 5;
            } else if (faultOf(s, column, 0) != 0) {
                f.why = faultOf(s, column, 0);
            } else if (valueOf(s, column, 0) < 0) {
                f.why = 6;
            } else {
                f.price = (int) valueOf(s, column, 0);
                long fee = formula(s, column, 1) == null || faultOf(s, column, 1) != 0 ? 0 : valueOf(s, column, 1);
                f.fee = fee < 0 ? 0 : fee > 1000 ? 1000 : (int) fee;
            }
            s.frozen[column] = f;
            return;
        }
        Frozen f = s.frozen[column];
        Round round = new Round();
        round.column = column;
        round.price = f.price;
        round.fee = f.fee;
        round.why = f.why;
        round.feeOwner = f.feeOwner;
        List<Bid> buys = new ArrayList<>();
        List<Bid> sells = new ArrayList<>();
        for (Bid bid : s.open.get(column)) {
            bid.round = s.rounds.size();
            if (f.why == 0 && !bid.isWithdrawn && !struckBids.contains(bid.number)) {
                if (bid.isBuy && bid.limit >= f.price) {
                    buys.add(bid);
                }
                if (!bid.isBuy && bid.limit <= f.price) {
                    sells.add(bid);
                }
            }
        }
        round.volume = Math.min(sum(buys), sum(sells));
        hand(buys, round.volume, f.byShares, -1);
        hand(sells, round.volume, f.byShares, 1);
        for (Bid bid : s.open.get(column)) {
            if (bid.got > 0) {
                long worth = (long) bid.got * f.price;
                long fee = bid.isBuy ? worth * f.fee / 1000 : 0;
                s.due[bid.owner][column] += bid.isBuy ? worth + fee : -worth;
                s.due[f.feeOwner][column] -= fee;
                round.paid += fee;
            }
        }
        s.rounds.add(round);
        s.frozen[column] = null;
        s.open.set(column, new ArrayList<>());
    }

    private static int sum(List<Bid> bids) {
        int sum = 0;
        for (Bid bid : bids) {
            sum += bid.many;
        }
        return sum;
    }

    private static void hand(List<Bid> side, int volume, boolean byShares, int sign) {
        int total = sum(side);
        List<Bid> row = new ArrayList<>(side);
        if (!byShares) {
            row.sort((x, y) -> x.limit != y.limit ? sign * Integer.compare(x.limit, y.limit) : x.number - y.number);
            int rest = volume;
            for (Bid bid : row) {
                bid.got = Math.min(rest, bid.many);
                rest -= bid.got;
            }
            return;
        }
        int all = volume;
        int left = volume;
        for (Bid bid : row) {
            bid.got = volume * bid.many / total;
            left -= bid.got;
        }
        row.sort((x, y) -> {
            int rx = all * x.many % total;
            int ry = all * y.many % total;
            return rx != ry ? ry - rx : x.number - y.number;
        });
        for (int i = 0; i < left; i++) {
            row.get(i).got++;
        }
    }

    // ---- formulas

    Edit counting(State s, int column, int row) {
        Edit last = null;
        for (Edit edit : s.edits) {
            if (edit.column == column && edit.row == row && edit.from <= s.event && !struckEdits.contains(edit.number)) {
                last = edit;
            }
        }
        return last;
    }

    List<int[]> formula(State s, int column, int row) {
        Edit edit = counting(s, column, row);
        return edit == null ? null : edit.words;
    }

    int faultOf(State s, int column, int row) {
        try {
            steps = 0;
            find(s, column, row, new ArrayList<>());
            return 0;
        } catch (Fault f) {
            return f.kind;
        }
    }

    long valueOf(State s, int column, int row) {
        try {
            steps = 0;
            return find(s, column, row, new ArrayList<>());
        } catch (Fault f) {
            return 0;
        }
    }

    /** Without keeping what was found: so it tells whether keeping it is right. */
    private long find(State s, int column, int row, List<Integer> sought) {
        if (++steps > 2000000) {
            throw new IllegalStateException("the run is too dear for the model");
        }
        List<int[]> words = formula(s, column, row);
        if (words == null) {
            return 0;
        }
        sought.add(column * 6 + row);
        List<Long> pile = new ArrayList<>();
        for (int[] w : words) {
            long number = oneWord(s, column, row, sought, pile, w);
            if (number < -1000000000L || number > 1000000000L) {
                throw new Fault(4);
            }
            pile.add(number);
        }
        sought.remove(sought.size() - 1);
        return pile.get(0);
    }

    private long oneWord(State s, int column, int row, List<Integer> sought, List<Long> pile, int[] w) {
        if (w[0] == 0) {
            return w[1];
        }
        if (w[0] == 1) {
            if (!s.reads(s.owner[column][row], w[1], w[2])) {
                throw new Fault(1);
            }
            if (sought.contains(w[1] * 6 + w[2])) {
                throw new Fault(2);
            }
            return find(s, w[1], w[2], sought);
        }
        if (w[0] <= 7) {
            return market(s, w[0], w[1]);
        }
        long upper = pile.remove(pile.size() - 1);
        long lower = pile.remove(pile.size() - 1);
        switch (w[0]) {
            case 8:
                return lower + upper;
            case 9:
                return lower - upper;
            case 10:
                return lower * upper;
            case 11:
                if (upper == 0) {
                    throw new Fault(3);
                }
                return lower / upper;
            case 12:
                return lower < upper ? lower : upper;
            case 13:
                return lower > upper ? lower : upper;
            default:
                long lowest = pile.remove(pile.size() - 1);
                return lowest > 0 ? lower : upper;
        }
    }

    private long market(State s, int what, int column) {
        if (what == 7) {
            for (int i = s.rounds.size() - 1; i >= 0; i--) {
                if (s.rounds.get(i).column == column && s.rounds.get(i).price >= 0) {
                    return s.rounds.get(i).price;
                }
            }
            return 0;
        }
        long greatest = 0;
        long least = -1;
        long buys = 0;
        long sells = 0;
        long many = 0;
        for (Bid bid : s.open.get(column)) {
            if (bid.isWithdrawn || struckBids.contains(bid.number)) {
                continue;
            }
            many++;
            if (bid.isBuy) {
                greatest = Math.max(greatest, bid.limit);
                buys += bid.many;
            } else {
                least = least < 0 ? bid.limit : Math.min(least, bid.limit);
                sells += bid.many;
            }
        }
        return new long[] {greatest, Math.max(0, least), buys, sells, many}[what - 2];
    }

    // ---- calls

    private static boolean off(int x, int count) {
        return x < 0 || x >= count;
    }

    private void tell(String act, List<int[]> formula, int... args) {
        events.add(new Event(act, args, formula));
        kept = null;
    }

    long give(int owner, int column, int row, int other) {
        if (off(owner, 6) || off(column, 4) || off(row, 6) || off(other, 6)) {
            return IOOBE;
        }
        if (now().owner[column][row] != owner) {
            return ISE;
        }
        tell("give", null, owner, column, row, other);
        int many = 0;
        for (int[] rows : now().owner) {
            for (int o : rows) {
                many += o == other ? 1 : 0;
            }
        }
        return many;
    }

    long let(int owner, int other, int column, int from, int to, boolean is) {
        if (off(owner, 6) || off(other, 6) || off(column, 4) || off(from, 6) || off(to, 6)) {
            return IOOBE;
        }
        if (owner == other || to < from) {
            return IAE;
        }
        tell("let", null, owner, other, column, from, to, is ? 1 : 0);
        int many = 0;
        for (int r = from; r <= to; r++) {
            many += now().owner[column][r] == owner ? 1 : 0;
        }
        return many;
    }

    long ownerOf(int column, int row) {
        return off(column, 4) || off(row, 6) ? IOOBE : now().owner[column][row];
    }

    long reads(int owner, int column, int row) {
        return off(owner, 6) || off(column, 4) || off(row, 6) ? IOOBE : now().reads(owner, column, row) ? 1 : 0;
    }

    private int height() {
        int height = 0;
        for (int[] w : draft) {
            height += w[0] == 14 ? -2 : w[0] >= 8 ? -1 : 1;
        }
        return height;
    }

    long word(int what, int one, int two) {
        if (what < 0 || what > 14 || what == 0 && (one < -1000000 || one > 1000000)
                || what >= 1 && what <= 7 && off(one, 4) || what == 1 && off(two, 6)) {
            return IAE;
        }
        if (draft.size() == 12 || height() < (what == 14 ? 3 : what >= 8 ? 2 : 0)) {
            return ISE;
        }
        draft.add(new int[] {what, one, two});
        return draft.size();
    }

    long wipe() {
        int many = draft.size();
        draft = new ArrayList<>();
        return many;
    }

    long enter(int owner, int column, int row) {
        if (off(owner, 6) || off(column, 4) || off(row, 6)) {
            return IOOBE;
        }
        State s = now();
        if (s.owner[column][row] != owner || s.frozen[column] != null || height() != 1 || s.edits.size() == 60) {
            return ISE;
        }
        tell("edit", draft, owner, column, row);
        draft = new ArrayList<>();
        return s.edits.size();
    }

    long empty(int owner, int column, int row) {
        if (off(owner, 6) || off(column, 4) || off(row, 6)) {
            return IOOBE;
        }
        State s = now();
        if (s.owner[column][row] != owner || s.frozen[column] != null || s.edits.size() == 60) {
            return ISE;
        }
        tell("edit", null, owner, column, row);
        return s.edits.size();
    }

    long notice(int column, int many) {
        if (off(column, 4)) {
            return IOOBE;
        }
        if (off(many, 51)) {
            return IAE;
        }
        long before = now().notice[column];
        tell("notice", null, column, many);
        return before;
    }

    long value(int owner, int column, int row) {
        if (off(owner, 6) || off(column, 4) || off(row, 6)) {
            return IOOBE;
        }
        return now().reads(owner, column, row) ? valueOf(now(), column, row) : ISE;
    }

    long fault(int owner, int column, int row) {
        if (off(owner, 6) || off(column, 4) || off(row, 6)) {
            return IOOBE;
        }
        return now().reads(owner, column, row) ? faultOf(now(), column, row) : ISE;
    }

    private List<Edit> editsOf(int column, int row) {
        List<Edit> all = new ArrayList<>();
        for (Edit edit : now().edits) {
            if (edit.column == column && edit.row == row) {
                all.add(edit);
            }
        }
        return all;
    }

    long edits(int column, int row) {
        return off(column, 4) || off(row, 6) ? IOOBE : editsOf(column, row).size();
    }

    long edit(int column, int row, int place, int what) {
        if (off(column, 4) || off(row, 6) || off(place, editsOf(column, row).size())) {
            return IOOBE;
        }
        if (off(what, 7)) {
            return IAE;
        }
        Edit e = editsOf(column, row).get(place);
        return new long[] {e.number, e.event, e.from, e.who, e.words == null ? 0 : e.words.size(),
            struckEdits.contains(e.number) ? 1 : 0, counting(now(), column, row) == e ? 1 : 0}[what];
    }

    long bid(int owner, int column, boolean isBuy, int many, int limit) {
        if (off(owner, 6) || off(column, 4)) {
            return IOOBE;
        }
        if (many < 1 || many > 100 || off(limit, 10000)) {
            return IAE;
        }
        State s = now();
        if (s.frozen[column] != null || s.bids.size() == 80
                || isBuy && exposure(owner) + (long) many * limit > s.limit[owner]) {
            return ISE;
        }
        tell("bid", null, owner, column, isBuy ? 1 : 0, many, limit);
        return s.bids.size();
    }

    long withdraw(int owner, int bid) {
        State s = now();
        if (off(owner, 6) || off(bid, s.bids.size())) {
            return IOOBE;
        }
        Bid b = s.bids.get(bid);
        if (b.owner != owner || b.isWithdrawn || s.frozen[b.column] != null || b.round >= 0) {
            return ISE;
        }
        tell("withdraw", null, bid);
        return b.many;
    }

    long share(int column, boolean byShares) {
        if (off(column, 4)) {
            return IOOBE;
        }
        long before = now().byShares[column] ? 1 : 0;
        tell("share", null, column, byShares ? 1 : 0);
        return before;
    }

    long bell(int column) {
        if (off(column, 4)) {
            return IOOBE;
        }
        State s = now();
        boolean clears = s.frozen[column] != null;
        int rounds = s.rounds.size();
        if (clears && rounds == 30) {
            return ISE;
        }
        tell("bell", null, column);
        return clears ? rounds : -1;
    }

    long isFrozen(int column) {
        return off(column, 4) ? IOOBE : now().frozen[column] != null ? 1 : 0;
    }

    long round(int round, int what) {
        if (off(round, now().rounds.size())) {
            return IOOBE;
        }
        if (off(what, 6)) {
            return IAE;
        }
        Round r = now().rounds.get(round);
        return new long[] {r.column, r.price, r.volume, r.fee, r.why, r.paid}[what];
    }

    long priceAnew(int round) {
        return round(round, 1);
    }

    long got(int bid) {
        return off(bid, now().bids.size()) ? IOOBE : now().bids.get(bid).got;
    }

    long due(int owner, int column) {
        return off(owner, 6) || off(column, 4) ? IOOBE : now().due[owner][column];
    }

    long settle(int column) {
        if (off(column, 4)) {
            return IOOBE;
        }
        State s = now();
        long[] dues = new long[6];
        long[] paid = new long[6];
        List<Integer> row = new ArrayList<>();
        long lacking = 0;
        for (int o = 0; o < 6; o++) {
            dues[o] = s.due[o][column];
            paid[o] = Math.floorDiv(dues[o], 10);
            lacking -= paid[o];
            row.add(o);
        }
        row.sort((x, y) -> Long.compare(Math.floorMod(dues[y], 10L), Math.floorMod(dues[x], 10L)));
        for (int i = 0; i < lacking; i++) {
            paid[row.get(i)]++;
        }
        settlings.add(new long[][] {dues, paid});
        tell("settle", null, column);
        long together = 0;
        long all = 0;
        for (long p : paid) {
            together += Math.max(0, p);
            all += p;
        }
        if (all != 0) {
            throw new IllegalStateException("what is paid does not come to 0");
        }
        return together;
    }

    long cash(int owner) {
        return off(owner, 6) ? IOOBE : now().cash[owner];
    }

    long limit(int owner, int limit) {
        if (off(owner, 6)) {
            return IOOBE;
        }
        if (off(limit, 1000000001)) {
            return IAE;
        }
        long before = now().limit[owner];
        tell("limit", null, owner, limit);
        return before;
    }

    long exposure(int owner) {
        if (off(owner, 6)) {
            return IOOBE;
        }
        long all = 0;
        for (int c = 0; c < 4; c++) {
            all += Math.max(0, now().due[owner][c]);
            for (Bid bid : now().open.get(c)) {
                if (bid.owner == owner && bid.isBuy && !bid.isWithdrawn) {
                    all += (long) bid.many * bid.limit;
                }
            }
        }
        return all;
    }

    long strikeBid(int bid) {
        if (off(bid, now().bids.size())) {
            return IOOBE;
        }
        if (now().bids.get(bid).round < 0 || struckBids.contains(bid)) {
            return ISE;
        }
        State before = now();
        struckBids.add(bid);
        tell("strike", null);
        return changed(before, now());
    }

    long strikeEdit(int edit) {
        if (off(edit, now().edits.size())) {
            return IOOBE;
        }
        if (struckEdits.contains(edit)) {
            return ISE;
        }
        State before = now();
        struckEdits.add(edit);
        tell("strike", null);
        return changed(before, now());
    }

    private static long changed(State before, State after) {
        Set<Integer> others = new HashSet<>();
        for (int i = 0; i < before.rounds.size(); i++) {
            Round x = before.rounds.get(i);
            Round y = after.rounds.get(i);
            if (x.price != y.price || x.volume != y.volume || x.fee != y.fee) {
                others.add(i);
            }
        }
        for (int i = 0; i < before.bids.size(); i++) {
            if (before.bids.get(i).got != after.bids.get(i).got) {
                others.add(before.bids.get(i).round);
            }
        }
        return others.size();
    }

    long events() {
        return events.size();
    }
}
