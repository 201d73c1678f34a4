import java.util.ArrayList;
import java.util.List;
import java.util.function.Consumer;
import java.util.function.ObjIntConsumer;
import java.util.function.Supplier;

/** What the tests of promises and of sentences have in common: checks, and short ways to make a sheet. */
abstract class Check {
    static final Class<IndexOutOfBoundsException> OUT = IndexOutOfBoundsException.class;
    static final Class<IllegalArgumentException> BAD = IllegalArgumentException.class;
    static final Class<IllegalStateException> NOT = IllegalStateException.class;
    static final int N = Cellmarket.NUMBER, C = Cellmarket.CELL;
    static final int PLUS = Cellmarket.PLUS, MINUS = Cellmarket.MINUS, TIMES = Cellmarket.TIMES, OVER = Cellmarket.OVER, WHEN = Cellmarket.WHEN;

    /** The sentences of the document that have a test, each behind its promise; 0 for what is said ahead of them. */
    static final List<String> SENTENCES = new ArrayList<>();
    static int checks = 0, wrong = 0;
    static String where = "";

    static void fail(String what) {
        wrong++;
        System.out.println(where + ": " + what);
    }

    static void due(String what, long got, long want) {
        checks++;
        if (got != want) {
            fail(what + " is " + got + ", due is " + want);
        }
    }

    static void due(String what, boolean got, boolean want) {
        due(what, got ? 1 : 0, want ? 1 : 0);
    }

    /** A test of a sentence: one that is broken off, or that checks nothing, is wrong too. */
    static void about(int promise, String sentence, Runnable test) {
        where = "promise " + promise + ", " + sentence;
        SENTENCES.add(promise + " " + sentence);
        int before = checks;
        try {
            test.run();
        } catch (RuntimeException | AssertionError e) {
            fail("broken off by " + e + " at " + placeOf(e));
        }
        if (checks == before) {
            fail("nothing is checked");
        }
    }

    private static String placeOf(Throwable e) {
        for (StackTraceElement place : e.getStackTrace()) {
            if (place.getFileName() != null && place.getFileName().matches("(Edges|Promises).*")) {
                return place.toString();
            }
        }
        return "no place of a test";
    }

    static String thrownBy(Cellmarket x, Consumer<Cellmarket> call) {
        try {
            call.accept(x);
            return "nothing";
        } catch (RuntimeException e) {
            return FuzzTest.isThrownByTheClass(e) ? e.getClass().getName() : "not by itself " + e;
        }
    }

    /** The call throws just that exception, and changes nothing: all stands as on a sheet where it was not made. */
    static void refused(Traced x, String what, Class<? extends RuntimeException> kind, Consumer<Cellmarket> call) {
        checks++;
        Cellmarket called = x.again();
        String thrown = thrownBy(called, call);
        if (!thrown.equals(kind.getName())) {
            fail(what + " throws " + thrown + ", due is " + kind.getName());
            return;
        }
        same(x, called, what);
    }

    /** The call returns, and changes nothing. */
    static void unchanged(Traced x, String what, Consumer<Cellmarket> call) {
        checks++;
        Cellmarket called = x.again();
        String thrown = thrownBy(called, call);
        if (!thrown.equals("nothing")) {
            fail(what + " throws " + thrown + ", due is nothing");
            return;
        }
        same(x, called, what);
    }

    private static void same(Traced x, Cellmarket called, String what) {
        int left = Traced.MOST_CALLS - x.many() - 1;
        List<String> is = Probe.of(called, left);
        List<String> wanted = Probe.of(x.again(), left);
        for (int i = 0; i < is.size(); i++) {
            if (i >= wanted.size() || !is.get(i).equals(wanted.get(i))) {
                fail(what + " changes something: " + is.get(i) + " instead of " + (i < wanted.size() ? wanted.get(i) : "nothing"));
                return;
            }
        }
    }

    /** The call returns; what it answers does not matter here. */
    static void allowed(Traced x, String what, Consumer<Cellmarket> call) {
        checks++;
        String thrown = thrownBy(x.again(), call);
        if (!thrown.equals("nothing")) {
            fail(what + " throws " + thrown + ", due is nothing");
        }
    }

    /** A number that may go from first to last: both are allowed, those just outside and far outside are not. */
    static void range(Supplier<Traced> sheet, String name, int first, int last, Class<? extends RuntimeException> kind, ObjIntConsumer<Cellmarket> call) {
        Traced x = sheet.get();
        allowed(x, name + " " + first, m -> call.accept(m, first));
        allowed(x, name + " " + last, m -> call.accept(m, last));
        for (int off : new int[] {first - 1, last + 1, Integer.MIN_VALUE, Integer.MAX_VALUE}) {
            refused(x, name + " " + off, kind, m -> call.accept(m, off));
        }
    }

    // ---- making a sheet

    static Traced fresh() {
        return new Traced();
    }

    static void write(Traced x, int... words) {
        for (int i = 0; i < words.length; i += 3) {
            x.word(words[i], words[i + 1], words[i + 2]);
        }
    }

    /** Enters words, three numbers each, by whoever owns the cell; returns the number of the edit. */
    static int formula(Traced x, int column, int row, int... words) {
        write(x, words);
        return x.enter(x.ownerOf(column, row), column, row);
    }

    static int number(Traced x, int column, int row, int number) {
        return formula(x, column, row, N, number, 0);
    }

    /** A thousand million, or with another sign, is more than one word can tell. */
    static int great(Traced x, int column, int row, int sign) {
        return formula(x, column, row, N, sign * 1000000, 0, N, 1000, 0, TIMES, 0, 0);
    }

    static int round(Traced x, int column) {
        x.bell(column);
        return x.bell(column);
    }

    static int seen(Traced x, int column, int row) {
        return x.value(x.ownerOf(column, row), column, row);
    }

    static int faultOf(Traced x, int column, int row) {
        return x.fault(x.ownerOf(column, row), column, row);
    }

    /** Something that passes time. */
    static void wait(Traced x, int events) {
        for (int i = 0; i < events; i++) {
            x.limit(5, 100000);
        }
    }

    static void letAll(Traced x) {
        for (int owner = 0; owner < 4; owner++) {
            for (int other = 0; other < 6; other++) {
                if (owner != other) {
                    x.let(owner, other, owner, 0, 5, true);
                }
            }
        }
    }

    static void buy(Traced x, int owner, int column, int many, int limit) {
        x.bid(owner, column, true, many, limit);
    }

    static void sell(Traced x, int owner, int column, int many, int limit) {
        x.bid(owner, column, false, many, limit);
    }

    static void expectGot(Traced x, int first, int... want) {
        for (int i = 0; i < want.length; i++) {
            due("got(" + (first + i) + ")", x.got(first + i), want[i]);
        }
    }

    static void expectCash(Traced x, int... want) {
        for (int o = 0; o < 6; o++) {
            due("cash(" + o + ")", x.cash(o), want[o]);
        }
    }

    static void expectDues(Traced x, int column, int... want) {
        for (int o = 0; o < 6; o++) {
            due("due(" + o + ", " + column + ")", x.due(o, column), want[o]);
        }
    }

    static void expectEdit(Traced x, int column, int row, int place, int... want) {
        for (int what = 0; what < 7; what++) {
            due("edit(" + column + ", " + row + ", " + place + ", " + what + ")", x.edit(column, row, place, what), want[what]);
        }
    }

    static void expectRound(Traced x, int round, int... want) {
        for (int what = 0; what < 6; what++) {
            due("round(" + round + ", " + what + ")", x.round(round, what), want[what]);
        }
    }
}
