import java.util.ArrayList;
import java.util.List;
import java.util.function.ToLongFunction;

/** Asks and does all that shows how an object stands, what only acts show too; so two objects can be compared. */
final class Probe {
    private static final long REFUSED = Long.MIN_VALUE;

    private final Cellmarket m;
    private int left;
    private final List<String> lines = new ArrayList<>();

    private Probe(Cellmarket m, int left) {
        this.m = m;
        this.left = left;
    }

    /** What the object answers, by as many calls as are left. The object has changed afterwards. */
    static List<String> of(Cellmarket m, int left) {
        Probe probe = new Probe(m, left);
        probe.askDraft();
        probe.askMoney();
        probe.askBidsAndRounds();
        probe.askCells();
        probe.askWhatWasSet();
        probe.askMarkets();
        probe.ringBells();
        probe.askReaders();
        return probe.lines;
    }

    /** Refused also if no call is left, so that loops end. */
    private long ask(String what, ToLongFunction<Cellmarket> call) {
        if (left == 0) {
            return REFUSED;
        }
        left--;
        long answer = REFUSED;
        String told;
        try {
            answer = call.applyAsLong(m);
            told = "" + answer;
        } catch (RuntimeException e) {
            told = e.getClass().getSimpleName();
        }
        lines.add(what + ": " + told);
        return answer;
    }

    private static long bit(boolean is) {
        return is ? 1 : 0;
    }

    private void askDraft() {
        ask("events", x -> x.events());
        for (int i = 0; i < 12 && ask("PLUS", x -> x.word(Cellmarket.PLUS, 0, 0)) != REFUSED; i++) {
            lines.add("the draft was longer");
        }
        for (int c = 0; c < 4; c++) {
            int column = c;
            long owner = ask("ownerOf", x -> x.ownerOf(column, 5));
            if (owner >= 0 && ask("enter", x -> x.enter((int) owner, column, 5)) != REFUSED) {
                ask("value of the draft", x -> x.value((int) owner, column, 5));
                break;
            }
        }
        ask("wipe", x -> x.wipe());
    }

    private void askMoney() {
        for (int i = 0; i < 24; i++) {
            int o = i / 4;
            int c = i % 4;
            ask("due(" + o + ", " + c + ")", x -> x.due(o, c));
            if (c == 0) {
                ask("cash(" + o + ")", x -> x.cash(o));
                ask("exposure(" + o + ")", x -> x.exposure(o));
            }
        }
    }

    private void askBidsAndRounds() {
        for (int i = 0; i < 4; i++) {
            int c = i;
            ask("isFrozen(" + c + ")", x -> bit(x.isFrozen(c)));
        }
        long got = 0;
        for (int i = 0; got != REFUSED; i++) {
            int b = i;
            got = ask("got(" + b + ")", x -> x.got(b));
        }
        long price = 0;
        for (int i = 0; price != REFUSED; i++) {
            int r = i;
            price = ask("round(" + r + ", 1)", x -> x.round(r, 1));
            if (price != REFUSED) {
                ask("round(" + r + ", 3)", x -> x.round(r, 3));
                ask("round(" + r + ", 4)", x -> x.round(r, 4));
            }
        }
    }

    private void askCells() {
        for (int i = 0; i < 24; i++) {
            int c = i / 6;
            int r = i % 6;
            String cell = "(" + c + ", " + r + ")";
            long owner = ask("ownerOf" + cell, x -> x.ownerOf(c, r));
            ask("value" + cell, x -> x.value((int) owner, c, r));
            long many = ask("edits" + cell, x -> x.edits(c, r));
            for (int p = 0; p < many; p++) {
                int place = p;
                ask("struck" + cell + place, x -> x.edit(c, r, place, 5));
                ask("counts" + cell + place, x -> x.edit(c, r, place, 2));
            }
        }
    }

    private void askWhatWasSet() {
        for (int i = 0; i < 4; i++) {
            int c = i;
            ask("notice(" + c + ")", x -> x.notice(c, 0));
            ask("share(" + c + ")", x -> bit(x.share(c, false)));
            ask("settle(" + c + ")", x -> x.settle(c));
        }
        for (int i = 0; i < 6; i++) {
            int o = i;
            ask("limit(" + o + ")", x -> x.limit(o, 1000000000));
            ask("cash(" + o + ") at last", x -> x.cash(o));
        }
    }

    private void askMarkets() {
        for (int i = 0; i < 4; i++) {
            int c = i;
            int[][] words = {{Cellmarket.BIDS, c}, {Cellmarket.BUYS, c}, {Cellmarket.NUMBER, 100}, {Cellmarket.TIMES, 0},
                {Cellmarket.PLUS, 0}, {Cellmarket.SELLS, c}, {Cellmarket.NUMBER, 10000}, {Cellmarket.TIMES, 0}, {Cellmarket.PLUS, 0}};
            for (int[] w : words) {
                ask("word", x -> x.word(w[0], w[1], 0));
            }
            for (int d = 0; d < 4; d++) {
                int column = d;
                long owner = ask("ownerOf", x -> x.ownerOf(column, 5));
                if (owner >= 0 && ask("enter", x -> x.enter((int) owner, column, 5)) != REFUSED) {
                    ask("bids in " + c, x -> x.value((int) owner, column, 5));
                    break;
                }
            }
            ask("wipe", x -> x.wipe());
        }
    }

    private void ringBells() {
        for (int i = 0; i < 8; i++) {
            int c = i % 4;
            long round = ask("bell(" + c + ")", x -> x.bell(c));
            if (round >= 0) {
                ask("price", x -> x.round((int) round, 1));
                ask("volume", x -> x.round((int) round, 2));
                ask("fee", x -> x.round((int) round, 3));
            }
        }
    }

    private void askReaders() {
        for (int i = 0; i < 144; i++) {
            int o = i / 24;
            int c = i / 6 % 4;
            int r = i % 6;
            ask("reads(" + o + ", " + c + ", " + r + ")", x -> bit(x.reads(o, c, r)));
        }
    }
}
