import java.util.ArrayList;
import java.util.List;
import java.util.function.ToLongFunction;

/** A Cellmarket that keeps its calls, so that they can be made again on a new one; the document promises 512 of them. */
final class Traced {
    static final int MOST_CALLS = 512;

    private final Cellmarket real = new Cellmarket();
    private final List<ToLongFunction<Cellmarket>> calls = new ArrayList<>();

    private int call(ToLongFunction<Cellmarket> call) {
        if (calls.size() == MOST_CALLS) {
            throw new AssertionError("the test makes more than " + MOST_CALLS + " calls on one object");
        }
        calls.add(call);
        return (int) call.applyAsLong(real);
    }

    private boolean is(ToLongFunction<Cellmarket> call) {
        return call(call) == 1;
    }

    int many() {
        return calls.size();
    }

    /** A new object on which the same calls were made. */
    Cellmarket again() {
        Cellmarket other = new Cellmarket();
        for (ToLongFunction<Cellmarket> call : calls) {
            try {
                call.applyAsLong(other);
            } catch (RuntimeException e) {
                // It was thrown the first time too.
                continue;
            }
        }
        return other;
    }

    int give(int owner, int column, int row, int other) {
        return call(m -> m.give(owner, column, row, other));
    }

    int let(int owner, int other, int column, int from, int to, boolean is) {
        return call(m -> m.let(owner, other, column, from, to, is));
    }

    int ownerOf(int column, int row) {
        return call(m -> m.ownerOf(column, row));
    }

    boolean reads(int owner, int column, int row) {
        return is(m -> m.reads(owner, column, row) ? 1 : 0);
    }

    int word(int what, int one, int two) {
        return call(m -> m.word(what, one, two));
    }

    int wipe() {
        return call(m -> m.wipe());
    }

    int enter(int owner, int column, int row) {
        return call(m -> m.enter(owner, column, row));
    }

    int empty(int owner, int column, int row) {
        return call(m -> m.empty(owner, column, row));
    }

    int notice(int column, int events) {
        return call(m -> m.notice(column, events));
    }

    int value(int owner, int column, int row) {
        return call(m -> m.value(owner, column, row));
    }

    int fault(int owner, int column, int row) {
        return call(m -> m.fault(owner, column, row));
    }

    int edits(int column, int row) {
        return call(m -> m.edits(column, row));
    }

    int edit(int column, int row, int place, int what) {
        return call(m -> m.edit(column, row, place, what));
    }

    int bid(int owner, int column, boolean isBuy, int many, int limit) {
        return call(m -> m.bid(owner, column, isBuy, many, limit));
    }

    int withdraw(int owner, int bid) {
        return call(m -> m.withdraw(owner, bid));
    }

    boolean share(int column, boolean byShares) {
        return is(m -> m.share(column, byShares) ? 1 : 0);
    }

    int bell(int column) {
        return call(m -> m.bell(column));
    }

    boolean isFrozen(int column) {
        return is(m -> m.isFrozen(column) ? 1 : 0);
    }

    int round(int round, int what) {
        return call(m -> m.round(round, what));
    }

    int priceAnew(int round) {
        return call(m -> m.priceAnew(round));
    }

    int got(int bid) {
        return call(m -> m.got(bid));
    }

    int due(int owner, int column) {
        return call(m -> m.due(owner, column));
    }

    int settle(int column) {
        return call(m -> m.settle(column));
    }

    int cash(int owner) {
        return call(m -> m.cash(owner));
    }

    int limit(int owner, int limit) {
        return call(m -> m.limit(owner, limit));
    }

    int exposure(int owner) {
        return call(m -> m.exposure(owner));
    }

    int strikeBid(int bid) {
        return call(m -> m.strikeBid(bid));
    }

    int strikeEdit(int edit) {
        return call(m -> m.strikeEdit(edit));
    }

    int events() {
        return call(m -> m.events());
    }
}
