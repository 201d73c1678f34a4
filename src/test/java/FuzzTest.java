import java.util.function.LongSupplier;

/** Long runs of calls, the same ones each time, whose answers are compared with those of the Model. */
public final class FuzzTest {
    private static final int RUNS = 3000, CALLS = 512;
    private static long seed;
    private static int wrong = 0, acts = 0, clears = 0, volumes = 0, strikes = 0, changes = 0;
    private static int[] faults = new int[7];
    private static StringBuilder told = new StringBuilder();

    private Cellmarket x;
    private Model m;
    private int style, bells, strikesIn100, calls;

    /** All calls of a run are made. */
    private static final class Done extends RuntimeException {
        private static final long serialVersionUID = 1;

        Done() {
            super(null, null, false, false);
        }
    }

    private static int any(int bound) {
        seed = seed * 6364136223846793005L + 1442695040888963407L;
        return (int) ((seed >>> 33) % bound);
    }

    private static boolean chance(int percent) {
        return any(100) < percent;
    }

    /** Mostly within the bounds, now and then just outside them. */
    private static int near(int bound) {
        return chance(2) ? (chance(50) ? -1 : bound) : any(bound);
    }

    private static long answer(LongSupplier call) {
        try {
            return call.getAsLong();
        } catch (RuntimeException e) {
            return isThrownByTheClass(e) ? kindOf(e.getClass()) : Long.MAX_VALUE;
        }
    }

    /** Neither the machine nor the library may throw in a call: the class itself has to. */
    static boolean isThrownByTheClass(RuntimeException e) {
        StackTraceElement[] trace = e.getStackTrace();
        return trace.length > 0 && trace[0].getClassName().startsWith("Cellmarket");
    }

    private static long kindOf(Class<?> kind) {
        return kind == IndexOutOfBoundsException.class ? Model.IOOBE : kind == IllegalArgumentException.class ? Model.IAE
            : kind == IllegalStateException.class ? Model.ISE : Long.MAX_VALUE;
    }

    private static String name(long answer) {
        return answer == Model.IOOBE ? "IndexOutOfBoundsException" : answer == Model.IAE ? "IllegalArgumentException"
            : answer == Model.ISE ? "IllegalStateException" : answer == Long.MAX_VALUE ? "another exception" : "" + answer;
    }

    private long same(String call, LongSupplier got, LongSupplier want) {
        if (calls == CALLS || wrong > 0) {
            throw new Done();
        }
        calls++;
        long w = want.getAsLong();
        long g = answer(got);
        told.append(call).append(" = ").append(name(w)).append('\n');
        if (g != w) {
            wrong++;
            if (wrong <= 3) {
                System.out.println(told + call + " answered " + name(g) + ", due is " + name(w));
            }
        }
        return w;
    }

    private static long bit(boolean is) {
        return is ? 1 : 0;
    }

    private void word(int what, int one, int two) {
        same("word(" + what + ", " + one + ", " + two + ")", () -> x.word(what, one, two), () -> m.word(what, one, two));
    }

    private int number() {
        return switch (any(6)) {
            case 0 -> any(21) - 10;
            case 1 -> any(1201) - 100;
            case 2 -> chance(30) ? 1000000 : any(1000);
            case 3 -> any(60);
            default -> any(100);
        };
    }

    private void leaf() {
        int column = style == 2 ? any(4) : any(2);
        int kind = any(10);
        if (kind < 4) {
            word(0, number(), any(9));
        } else if (kind < 7) {
            word(1, column, near(6));
        } else {
            word(2 + any(6), column, any(9));
        }
    }

    private void oddWord() {
        word(any(17) - 1, chance(50) ? near(4) : chance(50) ? 1000000 + any(2) : -1000000 - any(2), near(6));
    }

    /** Puts a formula into the draft that mostly can be entered. */
    private void writeFormula() {
        if (chance(5)) {
            for (int i = 0; i < 13; i++) {
                leaf();
            }
            same("wipe()", () -> x.wipe(), () -> m.wipe());
        }
        int height = 0;
        int many = 1 + any(3);
        for (int i = 0; i < many; i++) {
            leaf();
            height++;
            if (chance(3)) {
                oddWord();
            }
        }
        for (int i = 0; i < 3 && height > 1; i++) {
            int what = height >= 3 && chance(40) ? 14 : 8 + any(6);
            word(what, any(9), any(9));
            height -= what == 14 ? 2 : 1;
        }
    }

    /** A formula that mostly comes to a price at which some trade, or to a fee. */
    private void writePrice(int row) {
        int kind = any(4);
        if (chance(5)) {
            word(0, chance(50) ? 1000000 : -1000000, 0);
            word(0, 1000 + any(2), 0);
            word(10, 0, 0);
        } else if (kind == 0 || row == 1) {
            word(0, row == 1 ? any(400) : 20 + any(100), 0);
        } else if (kind == 1) {
            int column = any(2);
            word(2, column, 0);
            word(3, any(2), 0);
            word(8, 0, 0);
            word(0, 2, 0);
            word(11, 0, 0);
        } else if (kind == 2) {
            word(7, any(2), 0);
            word(0, any(40), 0);
            word(13, 0, 0);
            word(6, any(2), 0);
            word(8, 0, 0);
        } else {
            word(0, 30 + any(60), 0);
            word(1, any(2), 2 + any(4));
            word(8, 0, 0);
        }
    }

    private void enterCell(int column, int row) {
        int owner = chance(93) && column >= 0 && column < 4 && row >= 0 && row < 6 ? (int) m.ownerOf(column, row) : near(6);
        String args = "(" + owner + ", " + column + ", " + row + ")";
        if (chance(12)) {
            same("empty" + args, () -> x.empty(owner, column, row), () -> m.empty(owner, column, row));
            return;
        }
        if (row < 2 && chance(60)) {
            writePrice(row);
        } else {
            writeFormula();
        }
        long e = same("enter" + args, () -> x.enter(owner, column, row), () -> m.enter(owner, column, row));
        if (e < 0 && chance(70)) {
            same("wipe()", () -> x.wipe(), () -> m.wipe());
        }
    }

    private void makeBid(int column) {
        int owner = near(6);
        boolean isBuy = chance(50);
        int many = chance(3) ? (chance(50) ? 0 : 101) : chance(80) ? 1 + any(12) : 1 + any(100);
        int limit = chance(3) ? (chance(50) ? -1 : 10000) : chance(4) ? 9999 : chance(20) ? 50 : isBuy ? any(250) : any(90);
        same("bid(" + owner + ", " + column + ", " + isBuy + ", " + many + ", " + limit + ")",
            () -> x.bid(owner, column, isBuy, many, limit), () -> m.bid(owner, column, isBuy, many, limit));
    }

    private void ring(int column) {
        long number = same("bell(" + column + ")", () -> x.bell(column), () -> m.bell(column));
        if (number >= 0) {
            clears++;
            int round = (int) number;
            volumes += m.round(round, 2) > 0 ? 1 : 0;
            faults[(int) m.round(round, 4)]++;
            for (int what = 0; what < 6; what++) {
                int w = what;
                same("round(" + round + ", " + w + ")", () -> x.round(round, w), () -> m.round(round, w));
            }
        }
    }

    private void strike() {
        strikes++;
        if (chance(60)) {
            int bid = near(Math.max(1, m.now().bids.size()));
            changes += same("strikeBid(" + bid + ")", () -> x.strikeBid(bid), () -> m.strikeBid(bid)) > 0 ? 1 : 0;
        } else {
            int edit = near(Math.max(1, m.now().edits.size()));
            changes += same("strikeEdit(" + edit + ")", () -> x.strikeEdit(edit), () -> m.strikeEdit(edit)) > 0 ? 1 : 0;
        }
    }

    private void ask() {
        int owner = near(6);
        int column = near(4);
        int row = near(6);
        int what = any(9) - 1;
        int round = near(Math.max(1, m.now().rounds.size()));
        String cell = "(" + owner + ", " + column + ", " + row + ")";
        switch (any(6)) {
            case 0 -> same("value" + cell, () -> x.value(owner, column, row), () -> m.value(owner, column, row));
            case 1 -> same("fault" + cell, () -> x.fault(owner, column, row), () -> m.fault(owner, column, row));
            case 2 -> {
                int place = near(4);
                same("edit(" + column + ", " + row + ", " + place + ", " + what + ")",
                    () -> x.edit(column, row, place, what), () -> m.edit(column, row, place, what));
            }
            case 3 -> same("priceAnew(" + round + ")", () -> x.priceAnew(round), () -> m.priceAnew(round));
            case 4 -> same("round(" + round + ", " + what + ")", () -> x.round(round, what), () -> m.round(round, what));
            default -> same("exposure(" + owner + ")", () -> x.exposure(owner), () -> m.exposure(owner));
        }
    }

    private void anyCall() {
        int column = chance(70) ? any(2) : near(4);
        int row = chance(40) ? any(2) : near(6);
        int owner = near(6);
        int other = near(6);
        int kind = any(100);
        if (kind < 18) {
            enterCell(column, row);
        } else if (kind < 40) {
            makeBid(column);
        } else if (kind < 44) {
            int bid = near(Math.max(1, m.now().bids.size()));
            int whose = bid >= 0 && bid < m.now().bids.size() && chance(90) ? m.now().bids.get(bid).owner : owner;
            same("withdraw(" + whose + ", " + bid + ")", () -> x.withdraw(whose, bid), () -> m.withdraw(whose, bid));
        } else if (kind < 58) {
            boolean isShut = m.isFrozen(column) == 1;
            if (isShut || chance(bells)) {
                ring(column);
            } else {
                makeBid(column);
            }
        } else if (kind < 64) {
            int from = near(6);
            int to = near(6);
            boolean is = chance(80);
            same("let(" + owner + ", " + other + ", " + column + ", " + from + ", " + to + ", " + is + ")",
                () -> x.let(owner, other, column, from, to, is), () -> m.let(owner, other, column, from, to, is));
        } else if (kind < 67) {
            int whose = chance(80) && m.ownerOf(column, row) >= 0 ? (int) m.ownerOf(column, row) : owner;
            same("give(" + whose + ", " + column + ", " + row + ", " + other + ")",
                () -> x.give(whose, column, row, other), () -> m.give(whose, column, row, other));
        } else if (kind < 70) {
            int many = chance(10) ? (chance(50) ? 51 : -1) : chance(80) ? any(12) : any(51);
            same("notice(" + column + ", " + many + ")", () -> x.notice(column, many), () -> m.notice(column, many));
        } else if (kind < 73) {
            boolean is = chance(50);
            same("share(" + column + ", " + is + ")", () -> bit(x.share(column, is)), () -> m.share(column, is));
        } else if (kind < 77) {
            same("settle(" + column + ")", () -> x.settle(column), () -> m.settle(column));
        } else if (kind < 79) {
            int limit = chance(10) ? (chance(50) ? -1 : 1000000001) : chance(30) ? any(2000) : 100000 + any(900000);
            same("limit(" + owner + ", " + limit + ")", () -> x.limit(owner, limit), () -> m.limit(owner, limit));
        } else if (kind < 79 + strikesIn100) {
            strike();
        } else {
            ask();
        }
    }

    private void maybe(String call, LongSupplier got, LongSupplier want) {
        if (chance(40)) {
            same(call, got, want);
        }
    }

    /** All that can be asked, each question now and then, so that nothing goes wrong unseen. */
    private void askAll() {
        maybe("events()", () -> x.events(), () -> m.events());
        for (int i = 0; i < 24; i++) {
            int c = i / 6;
            int r = i % 6;
            int o = (int) m.ownerOf(c, r);
            maybe("ownerOf", () -> x.ownerOf(c, r), () -> m.ownerOf(c, r));
            maybe("value(" + o + ", " + c + ", " + r + ")", () -> x.value(o, c, r), () -> m.value(o, c, r));
            maybe("fault(" + o + ", " + c + ", " + r + ")", () -> x.fault(o, c, r), () -> m.fault(o, c, r));
            maybe("edits(" + c + ", " + r + ")", () -> x.edits(c, r), () -> m.edits(c, r));
            for (int p = 0; p < m.edits(c, r) * 7; p++) {
                int place = p / 7;
                int what = p % 7;
                maybe("edit(" + c + ", " + r + ", " + place + ", " + what + ")",
                    () -> x.edit(c, r, place, what), () -> m.edit(c, r, place, what));
            }
            for (int w = 0; w < 6; w++) {
                int who = w;
                maybe("reads(" + who + ", " + c + ", " + r + ")", () -> bit(x.reads(who, c, r)), () -> m.reads(who, c, r));
            }
        }
        for (int i = 0; i < 24; i++) {
            int o = i / 4;
            int c = i % 4;
            maybe("due(" + o + ", " + c + ")", () -> x.due(o, c), () -> m.due(o, c));
            maybe("isFrozen(" + c + ")", () -> bit(x.isFrozen(c)), () -> m.isFrozen(c));
        }
        for (int i = 0; i < 6; i++) {
            int o = i;
            maybe("cash(" + o + ")", () -> x.cash(o), () -> m.cash(o));
            maybe("exposure(" + o + ")", () -> x.exposure(o), () -> m.exposure(o));
        }
        for (int i = -1; i <= m.now().bids.size(); i++) {
            int b = i;
            maybe("got(" + b + ")", () -> x.got(b), () -> m.got(b));
        }
        for (int i = -1; i <= m.now().rounds.size(); i++) {
            int r = i;
            maybe("priceAnew(" + r + ")", () -> x.priceAnew(r), () -> m.priceAnew(r));
            for (int w = 0; w < 6; w++) {
                int what = w;
                maybe("round(" + r + ", " + what + ")", () -> x.round(r, what), () -> m.round(r, what));
            }
        }
    }

    private void run(int number) {
        seed = number * 7919L + 17;
        any(2);
        x = new Cellmarket();
        m = new Model();
        style = number % 3;
        bells = number % 5 == 0 ? 100 : 25;
        strikesIn100 = number % 4 == 0 ? 8 : 3;
        told.setLength(0);
        told.append("run ").append(number).append('\n');
        int start = style == 0 ? 2 : style == 1 ? 4 : 0;
        for (int i = 0; i < start; i++) {
            int c = i % 2;
            int r = i / 2;
            word(0, r == 0 ? 40 + any(60) : any(300), 0);
            same("enter", () -> x.enter(c, c, r), () -> m.enter(c, c, r));
        }
        for (int o = 0; o < 4; o++) {
            int who = o;
            for (int p = 0; p < 6; p++) {
                int other = p;
                boolean all = style != 2 || chance(85);
                if (all && other != who) {
                    same("let", () -> x.let(who, other, who, 0, 5, true), () -> m.let(who, other, who, 0, 5, true));
                }
            }
        }
        int most = 60 + any(400);
        try {
            for (int i = 0; i < most; i++) {
                anyCall();
            }
            for (int i = 0; i < CALLS; i++) {
                askAll();
            }
        } catch (Done e) {
            acts += m.events.size();
        }
    }

    public static void main(String[] args) {
        int runs = args.length > 0 ? Integer.parseInt(args[0]) : RUNS;
        for (int i = 0; i < runs && wrong == 0; i++) {
            new FuzzTest().run(i);
        }
        System.out.println("FuzzTest: " + runs + " runs, " + acts + " acts, " + clears + " rounds, " + volumes
            + " with a volume, void by kind " + java.util.Arrays.toString(faults) + ", " + strikes + " strikes, " + changes
            + " that changed rounds; " + wrong + " answers wrong");
        if (wrong != 0) {
            System.exit(1);
        }
    }
}
