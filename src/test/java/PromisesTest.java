import java.util.Arrays;

/** The promises of the document one by one: ordinary calls, the edges that are named, and wrong calls. */
public final class PromisesTest {
    private static final Class<IndexOutOfBoundsException> OUT = IndexOutOfBoundsException.class;
    private static final Class<IllegalArgumentException> BAD = IllegalArgumentException.class;
    private static final Class<IllegalStateException> NOT = IllegalStateException.class;
    private static final int N = Cellmarket.NUMBER, C = Cellmarket.CELL;
    private static int checks = 0, wrong = 0;
    private static int promise = 0;

    private static void due(String what, long got, long want) {
        checks++;
        if (got != want) {
            wrong++;
            System.out.println("promise " + promise + ": " + what + " is " + got + ", due is " + want);
        }
    }

    private static void due(String what, boolean got, boolean want) {
        due(what, got ? 1 : 0, want ? 1 : 0);
    }

    /** The call throws just that exception, and all that can be asked stays as it was. */
    private static void refused(Cellmarket x, String what, Class<? extends RuntimeException> kind, Runnable call) {
        checks++;
        String before = picture(x);
        String thrown = "nothing";
        try {
            call.run();
        } catch (RuntimeException e) {
            thrown = FuzzTest.isThrownByTheClass(e) ? e.getClass().getName() : "not by itself " + e;
        }
        if (!thrown.equals(kind.getName())) {
            wrong++;
            System.out.println("promise " + promise + ": " + what + " throws " + thrown + ", due is " + kind.getName());
        }
        if (!before.equals(picture(x))) {
            wrong++;
            System.out.println("promise " + promise + ": " + what + " throws, and changes something");
        }
    }

    private static String picture(Cellmarket x) {
        StringBuilder all = new StringBuilder();
        all.append(x.events());
        for (int i = 0; i < 24; i++) {
            int c = i / 6;
            int r = i % 6;
            int o = x.ownerOf(c, r);
            all.append('|').append(o).append(' ').append(x.value(o, c, r)).append(' ').append(x.fault(o, c, r));
            for (int who = 0; who < 6; who++) {
                all.append(x.reads(who, c, r) ? '+' : '-');
            }
            for (int p = 0; p < x.edits(c, r); p++) {
                for (int what = 0; what < 7; what++) {
                    all.append(' ').append(x.edit(c, r, p, what));
                }
            }
            all.append(' ').append(x.due(i % 6, c));
        }
        for (int c = 0; c < 4; c++) {
            all.append(x.isFrozen(c) ? '#' : '.');
        }
        for (int o = 0; o < 6; o++) {
            all.append(' ').append(x.cash(o)).append(' ').append(x.exposure(o));
        }
        all.append("|rounds");
        try {
            for (int round = 0; round < 40; round++) {
                for (int what = 0; what < 6; what++) {
                    all.append(' ').append(x.round(round, what));
                }
            }
        } catch (IndexOutOfBoundsException e) {
            all.append("|bids");
        }
        try {
            for (int bid = 0; bid < 100; bid++) {
                all.append(' ').append(x.got(bid));
            }
        } catch (IndexOutOfBoundsException e) {
            all.append('.');
        }
        return all.toString();
    }

    private static void write(Cellmarket x, int... words) {
        for (int i = 0; i < words.length; i += 3) {
            x.word(words[i], words[i + 1], words[i + 2]);
        }
    }

    /** Enters words, three numbers each, by whoever owns the cell; returns the number of the edit. */
    private static int formula(Cellmarket x, int column, int row, int... words) {
        write(x, words);
        return x.enter(x.ownerOf(column, row), column, row);
    }

    private static int number(Cellmarket x, int column, int row, int number) {
        return formula(x, column, row, N, number, 0);
    }

    private static int round(Cellmarket x, int column) {
        x.bell(column);
        return x.bell(column);
    }

    private static int seen(Cellmarket x, int column, int row) {
        return x.value(x.ownerOf(column, row), column, row);
    }

    private static int faultOf(Cellmarket x, int column, int row) {
        return x.fault(x.ownerOf(column, row), column, row);
    }

    /** Something that passes time. */
    private static void wait(Cellmarket x, int events) {
        for (int i = 0; i < events; i++) {
            x.limit(5, 100000);
        }
    }

    private static void letAll(Cellmarket x) {
        for (int owner = 0; owner < 4; owner++) {
            for (int other = 0; other < 6; other++) {
                if (owner != other) {
                    x.let(owner, other, owner, 0, 5, true);
                }
            }
        }
    }

    // ---- cells

    private static void newObject() {
        Cellmarket x = new Cellmarket();
        for (int c = 0; c < 4; c++) {
            due("isFrozen", x.isFrozen(c), false);
            for (int r = 0; r < 6; r++) {
                due("ownerOf", x.ownerOf(c, r), c);
                due("edits", x.edits(c, r), 0);
                due("value", x.value(c, c, r), 0);
                due("fault", x.fault(c, c, r), 0);
                for (int o = 0; o < 6; o++) {
                    due("reads", x.reads(o, c, r), o == c);
                    due("due", x.due(o, c), 0);
                }
            }
            due("notice before", x.notice(c, 0), 0);
            due("share before", x.share(c, false), false);
        }
        due("events", x.events(), 8);
        for (int o = 0; o < 6; o++) {
            due("cash", x.cash(o), 0);
            due("exposure", x.exposure(o), 0);
            due("limit before", x.limit(o, 5), 100000);
        }
        due("wipe", x.wipe(), 0);
        Cellmarket y = new Cellmarket();
        due("another object's events", y.events(), 0);
        due("another object's limit", y.limit(0, 1), 100000);
    }

    private static void give() {
        Cellmarket x = new Cellmarket();
        due("give", x.give(0, 0, 5, 4), 1);
        due("give", x.give(0, 0, 4, 4), 2);
        due("give on", x.give(4, 0, 4, 1), 7);
        due("give to oneself", x.give(1, 0, 4, 1), 7);
        due("give to oneself", x.give(2, 2, 0, 2), 6);
        due("ownerOf", x.ownerOf(0, 5), 4);
        due("ownerOf", x.ownerOf(0, 4), 1);
        due("ownerOf", x.ownerOf(0, 3), 0);
        due("events", x.events(), 5);
        due("reads", x.reads(0, 0, 5), false);
        due("reads", x.reads(4, 0, 5), true);
        for (int off : new int[] {-1, 6, Integer.MIN_VALUE, Integer.MAX_VALUE}) {
            refused(x, "give, owner " + off, OUT, () -> x.give(off, 0, 0, 1));
            refused(x, "give, row " + off, OUT, () -> x.give(0, 0, off, 1));
            refused(x, "give, other " + off, OUT, () -> x.give(0, 0, 0, off));
            refused(x, "give, other's cell and other " + off, OUT, () -> x.give(1, 0, 0, off));
        }
        refused(x, "give, column -1", OUT, () -> x.give(0, -1, 0, 1));
        refused(x, "give, column 4", OUT, () -> x.give(0, 4, 0, 1));
        refused(x, "give, not the owner's", NOT, () -> x.give(0, 0, 5, 1));
        refused(x, "give, not the owner's, to the owner", NOT, () -> x.give(0, 1, 0, 1));
        due("give the last one", x.give(3, 3, 5, 5), 1);
        due("give the first one", x.give(0, 0, 0, 5), 2);
        due("give it back", x.give(5, 0, 0, 0), 4);
    }

    private static void giveTakesFees() {
        Cellmarket x = new Cellmarket();
        number(x, 0, 0, 10);
        number(x, 0, 1, 100);
        x.bid(1, 0, true, 10, 10);
        x.bid(2, 0, false, 10, 10);
        x.give(0, 0, 1, 4);
        x.bell(0);
        x.give(4, 0, 1, 5);
        due("bell", x.bell(0), 0);
        due("fees go to the owner when it froze", x.due(4, 0), -10);
        due("due of the later owner", x.due(5, 0), 0);
        due("due of the former owner", x.due(0, 0), 0);
        due("teller stays", x.edit(0, 1, 0, 3), 0);
    }

    private static void let() {
        Cellmarket x = new Cellmarket();
        due("let", x.let(0, 1, 0, 2, 4, true), 3);
        for (int r = 0; r < 6; r++) {
            due("reads row " + r, x.reads(1, 0, r), r >= 2 && r <= 4);
            due("another reads row " + r, x.reads(2, 0, r), false);
        }
        due("let one row no more", x.let(0, 1, 0, 3, 3, false), 1);
        due("reads", x.reads(1, 0, 2), true);
        due("reads", x.reads(1, 0, 3), false);
        due("reads", x.reads(1, 0, 4), true);
        due("let what is let", x.let(0, 1, 0, 0, 5, true), 6);
        due("let none", x.let(1, 0, 0, 0, 5, false), 0);
        due("a stranger's let does not count", x.reads(1, 0, 0), true);
        x.give(0, 0, 2, 3);
        due("let but the one given away", x.let(0, 5, 0, 0, 5, true), 5);
        due("reads", x.reads(5, 0, 1), true);
        due("reads the one given away", x.reads(5, 0, 2), false);
        due("what the owner told then stays", x.reads(1, 0, 2), true);
        due("let by the new owner", x.let(3, 1, 0, 2, 2, false), 1);
        due("reads", x.reads(1, 0, 2), false);
        due("let the former owner", x.let(3, 0, 0, 2, 2, true), 1);
        due("reads", x.reads(0, 0, 2), true);
        due("owners read their own, whatever was told", x.let(0, 4, 0, 0, 0, false), 1);
        x.give(0, 0, 0, 4);
        due("reads", x.reads(4, 0, 0), true);
        due("events", x.events(), 10);
    }

    private static void letRefused() {
        Cellmarket x = new Cellmarket();
        for (int off : new int[] {-1, 6, Integer.MIN_VALUE, Integer.MAX_VALUE}) {
            refused(x, "let, owner " + off, OUT, () -> x.let(off, 1, 0, 0, 0, true));
            refused(x, "let, other " + off, OUT, () -> x.let(0, off, 0, 0, 0, true));
            refused(x, "let, from " + off, OUT, () -> x.let(0, 1, 0, off, 5, true));
            refused(x, "let, to " + off, OUT, () -> x.let(0, 1, 0, 0, off, true));
            refused(x, "let, both the same, to " + off, OUT, () -> x.let(0, 0, 0, 0, off, true));
            refused(x, "let, both " + off, OUT, () -> x.let(off, off, 0, 0, 0, true));
        }
        refused(x, "let, column -1", OUT, () -> x.let(0, 1, -1, 0, 0, true));
        refused(x, "let, column 4", OUT, () -> x.let(0, 1, 4, 0, 0, true));
        refused(x, "let, column 4, to below from", OUT, () -> x.let(0, 1, 4, 3, 2, true));
        refused(x, "let, both the same", BAD, () -> x.let(2, 2, 2, 0, 0, true));
        refused(x, "let, to below from", BAD, () -> x.let(0, 1, 0, 1, 0, true));
        refused(x, "let, both the same of no cells", BAD, () -> x.let(5, 5, 0, 0, 0, true));
        due("let row 5", x.let(0, 1, 0, 5, 5, true), 1);
        due("let row 0", x.let(0, 1, 0, 0, 0, true), 1);
    }

    private static void ownerOf() {
        Cellmarket x = new Cellmarket();
        due("ownerOf", x.ownerOf(3, 5), 3);
        x.give(3, 3, 5, 0);
        due("ownerOf", x.ownerOf(3, 5), 0);
        refused(x, "ownerOf(-1, 0)", OUT, () -> x.ownerOf(-1, 0));
        refused(x, "ownerOf(4, 0)", OUT, () -> x.ownerOf(4, 0));
        refused(x, "ownerOf(0, -1)", OUT, () -> x.ownerOf(0, -1));
        refused(x, "ownerOf(0, 6)", OUT, () -> x.ownerOf(0, 6));
        refused(x, "ownerOf(3, 6)", OUT, () -> x.ownerOf(3, 6));
    }

    private static void reads() {
        Cellmarket x = new Cellmarket();
        due("reads", x.reads(3, 3, 5), true);
        due("reads", x.reads(5, 3, 5), false);
        x.let(3, 5, 3, 5, 5, true);
        due("reads", x.reads(5, 3, 5), true);
        due("reads", x.reads(5, 3, 4), false);
        due("reads", x.reads(4, 3, 5), false);
        refused(x, "reads(-1, 0, 0)", OUT, () -> x.reads(-1, 0, 0));
        refused(x, "reads(6, 0, 0)", OUT, () -> x.reads(6, 0, 0));
        refused(x, "reads(0, -1, 0)", OUT, () -> x.reads(0, -1, 0));
        refused(x, "reads(0, 4, 0)", OUT, () -> x.reads(0, 4, 0));
        refused(x, "reads(0, 0, -1)", OUT, () -> x.reads(0, 0, -1));
        refused(x, "reads(0, 0, 6)", OUT, () -> x.reads(0, 0, 6));
    }

    // ---- formulas

    private static void word() {
        Cellmarket x = new Cellmarket();
        refused(x, "word(-1)", BAD, () -> x.word(-1, 0, 0));
        refused(x, "word(15)", BAD, () -> x.word(15, 0, 0));
        refused(x, "NUMBER 1000001", BAD, () -> x.word(N, 1000001, 0));
        refused(x, "NUMBER -1000001", BAD, () -> x.word(N, -1000001, 0));
        refused(x, "NUMBER least int", BAD, () -> x.word(N, Integer.MIN_VALUE, 0));
        for (int what = Cellmarket.CELL; what <= Cellmarket.LAST; what++) {
            int w = what;
            refused(x, "word " + w + " of column -1", BAD, () -> x.word(w, -1, 0));
            refused(x, "word " + w + " of column 4", BAD, () -> x.word(w, 4, 0));
        }
        refused(x, "CELL of row -1", BAD, () -> x.word(C, 0, -1));
        refused(x, "CELL of row 6", BAD, () -> x.word(C, 0, 6));
        for (int what = Cellmarket.PLUS; what <= Cellmarket.WHEN; what++) {
            int w = what;
            refused(x, "word " + w + " with nothing on the pile", NOT, () -> x.word(w, 0, 0));
        }
        due("NUMBER 1000000, whatever two is", x.word(N, 1000000, -77), 1);
        for (int what = Cellmarket.PLUS; what <= Cellmarket.WHEN; what++) {
            int w = what;
            refused(x, "word " + w + " with one on the pile", NOT, () -> x.word(w, 0, 0));
        }
        due("NUMBER -1000000", x.word(N, -1000000, 77), 2);
        refused(x, "WHEN with two on the pile", NOT, () -> x.word(Cellmarket.WHEN, 0, 0));
        due("PLUS, whatever one and two are", x.word(Cellmarket.PLUS, Integer.MIN_VALUE, Integer.MAX_VALUE), 3);
        for (int what = Cellmarket.BUY; what <= Cellmarket.LAST; what++) {
            due("word " + what, x.word(what, 3, 99), what + 2);
        }
        due("WHEN", x.word(Cellmarket.WHEN, -9, -9), 10);
        due("CELL", x.word(C, 3, 5), 11);
        due("CELL", x.word(C, 0, 0), 12);
        refused(x, "a 13th word", NOT, () -> x.word(N, 0, 0));
        refused(x, "a 13th word that takes", NOT, () -> x.word(Cellmarket.PLUS, 0, 0));
        refused(x, "a 13th word out of range", BAD, () -> x.word(N, 1000001, 0));
        refused(x, "a 13th word that is none", BAD, () -> x.word(15, 0, 0));
        due("words aren't acts", x.events(), 0);
        due("wipe", x.wipe(), 12);
    }

    private static void wipe() {
        Cellmarket x = new Cellmarket();
        due("wipe", x.wipe(), 0);
        write(x, N, 1, 0, N, 2, 0, N, 3, 0);
        due("wipe", x.wipe(), 3);
        due("wipe again", x.wipe(), 0);
        refused(x, "PLUS on an empty draft", NOT, () -> x.word(Cellmarket.PLUS, 0, 0));
        due("word", x.word(N, 4, 0), 1);
        due("enter", x.enter(0, 0, 0), 0);
        due("value", x.value(0, 0, 0), 4);
        due("wipe after enter", x.wipe(), 0);
        due("events", x.events(), 1);
    }

    private static void enter() {
        Cellmarket x = new Cellmarket();
        refused(x, "enter nothing", NOT, () -> x.enter(0, 0, 0));
        write(x, N, 7, 0);
        refused(x, "enter, owner -1", OUT, () -> x.enter(-1, 0, 0));
        refused(x, "enter, owner 6", OUT, () -> x.enter(6, 0, 0));
        refused(x, "enter, column -1", OUT, () -> x.enter(0, -1, 0));
        refused(x, "enter, column 4", OUT, () -> x.enter(0, 4, 0));
        refused(x, "enter, row -1", OUT, () -> x.enter(0, 0, -1));
        refused(x, "enter, row 6", OUT, () -> x.enter(0, 0, 6));
        refused(x, "enter, not the owner's", NOT, () -> x.enter(1, 0, 0));
        x.bell(0);
        refused(x, "enter, frozen", NOT, () -> x.enter(0, 0, 0));
        refused(x, "enter, frozen, row 6", OUT, () -> x.enter(0, 0, 6));
        x.bell(0);
        write(x, N, 8, 0);
        refused(x, "enter two numbers", NOT, () -> x.enter(0, 0, 0));
        due("the draft is kept", x.word(Cellmarket.MINUS, 0, 0), 3);
        due("enter", x.enter(0, 0, 0), 0);
        due("value", x.value(0, 0, 0), -1);
        due("the draft is empty", x.wipe(), 0);
        refused(x, "enter nothing", NOT, () -> x.enter(0, 0, 0));
        x.give(0, 0, 5, 5);
        write(x, N, 6, 0);
        refused(x, "enter, given away", NOT, () -> x.enter(0, 0, 5));
        due("enter", x.enter(5, 0, 5), 1);
        due("value", x.value(5, 0, 5), 6);
        due("events", x.events(), 5);
        write(x, N, 1, 0, N, 1, 0, 8, 0, 0, N, 1, 0, 8, 0, 0, N, 1, 0, 8, 0, 0, N, 1, 0, 8, 0, 0, N, 1, 0);
        refused(x, "twelve words that leave two", NOT, () -> x.enter(1, 1, 0));
        x.wipe();
        write(x, N, 0, 0, N, 1, 0, 8, 0, 0, N, 1, 0, 8, 0, 0, N, 1, 0, 8, 0, 0, N, 1, 0, N, 1, 0, 14, 0, 0, C, 0, 0);
        x.wipe();
        write(x, N, 1, 0, N, 2, 0, N, 3, 0, N, 4, 0, 8, 0, 0, 8, 0, 0, 8, 0, 0, N, 5, 0, N, 6, 0, 14, 0, 0);
        due("enter ten words", x.enter(1, 1, 0), 2);
        due("value", x.value(1, 1, 0), 5);
        due("words", x.edit(1, 0, 0, 4), 10);
    }

    private static void sixtyEdits() {
        Cellmarket x = new Cellmarket();
        for (int i = 0; i < 60; i++) {
            due("edit", i % 2 == 0 ? number(x, i % 4, i % 6, i) : x.empty(i % 4, i % 4, i % 6), i);
        }
        write(x, N, 1, 0);
        refused(x, "a 61st edit", NOT, () -> x.enter(0, 0, 0));
        refused(x, "a 61st edit that empties", NOT, () -> x.empty(0, 0, 0));
        refused(x, "a 61st edit, no such row", OUT, () -> x.empty(0, 0, 6));
        x.strikeEdit(0);
        refused(x, "a 61st edit, one struck", NOT, () -> x.enter(0, 0, 0));
        due("the draft is kept", x.wipe(), 1);
        due("strikeEdit(59)", x.strikeEdit(59), 0);
        refused(x, "strikeEdit(60)", OUT, () -> x.strikeEdit(60));
    }

    private static void empty() {
        Cellmarket x = new Cellmarket();
        number(x, 0, 0, 9);
        write(x, N, 1, 0);
        refused(x, "empty, owner -1", OUT, () -> x.empty(-1, 0, 0));
        refused(x, "empty, owner 6", OUT, () -> x.empty(6, 0, 0));
        refused(x, "empty, column -1", OUT, () -> x.empty(0, -1, 0));
        refused(x, "empty, column 4", OUT, () -> x.empty(0, 4, 0));
        refused(x, "empty, row -1", OUT, () -> x.empty(0, 0, -1));
        refused(x, "empty, row 6", OUT, () -> x.empty(0, 0, 6));
        refused(x, "empty, not the owner's", NOT, () -> x.empty(1, 0, 0));
        due("empty", x.empty(0, 0, 0), 1);
        due("value", x.value(0, 0, 0), 0);
        due("edits", x.edits(0, 0), 2);
        due("words", x.edit(0, 0, 1, 4), 0);
        due("empty again", x.empty(0, 0, 0), 2);
        due("empty what was never told", x.empty(3, 3, 3), 3);
        due("the draft stays", x.word(N, 2, 0), 2);
        due("events", x.events(), 4);
        x.bell(0);
        refused(x, "empty, frozen", NOT, () -> x.empty(0, 0, 0));
        due("another column", x.empty(1, 1, 0), 4);
        x.bell(0);
        due("open again", x.empty(0, 0, 0), 5);
    }

    private static void notice() {
        Cellmarket x = new Cellmarket();
        due("notice", x.notice(0, 50), 0);
        due("notice", x.notice(0, 3), 50);
        due("another column's notice", x.notice(3, 0), 0);
        refused(x, "notice of -1", BAD, () -> x.notice(0, -1));
        refused(x, "notice of 51", BAD, () -> x.notice(0, 51));
        refused(x, "notice, column -1", OUT, () -> x.notice(-1, 51));
        refused(x, "notice, column 4", OUT, () -> x.notice(4, 0));
        number(x, 0, 0, 5);
        due("first event at which it counts", x.edit(0, 0, 0, 2), 6);
        due("notice", x.notice(0, 0), 3);
        due("value at 5", x.value(0, 0, 0), 0);
        due("not yet", x.edit(0, 0, 0, 6), 0);
        wait(x, 1);
        due("value at 6", x.value(0, 0, 0), 5);
        due("now", x.edit(0, 0, 0, 6), 1);
        number(x, 0, 1, 6);
        due("value with a notice of 0", x.value(0, 0, 1), 6);
        due("first event with a notice of 0", x.edit(0, 1, 0, 2), 7);
        x.notice(0, 1);
        number(x, 0, 1, 7);
        due("value with a notice of 1", x.value(0, 0, 1), 7);
        due("first event with a notice of 1", x.edit(0, 1, 1, 2), 9);
        x.notice(0, 2);
        number(x, 0, 1, 8);
        due("value with a notice of 2", x.value(0, 0, 1), 7);
        wait(x, 1);
        due("value an event later", x.value(0, 0, 1), 8);
    }

    private static void laterToldCounts() {
        Cellmarket x = new Cellmarket();
        x.notice(1, 5);
        number(x, 1, 0, 11);
        x.notice(1, 0);
        number(x, 1, 0, 22);
        due("value", x.value(1, 1, 0), 22);
        wait(x, 10);
        due("the one told last counts, not the one that counts last", x.value(1, 1, 0), 22);
        due("its formula", x.edit(1, 0, 0, 6), 0);
        due("its formula", x.edit(1, 0, 1, 6), 1);
        x.strikeEdit(1);
        due("value without it", x.value(1, 1, 0), 11);
        x.notice(1, 50);
        int e = number(x, 1, 1, 3);
        due("first event", x.edit(1, 1, 0, 2), x.edit(1, 1, 0, 1) + 50);
        wait(x, 48);
        due("49 events behind it", x.value(1, 1, 1), 0);
        wait(x, 1);
        due("50 events behind it", x.value(1, 1, 1), 3);
        due("strikeEdit", x.strikeEdit(e), 0);
        due("struck", x.value(1, 1, 1), 0);
    }

    private static void reckoning() {
        Cellmarket x = new Cellmarket();
        int[][] sums = {
            {8, 7, -9, -2}, {9, 7, -9, 16}, {10, 7, -9, -63}, {11, 7, -9, 0}, {11, -7, 2, -3}, {11, 7, -2, -3}, {11, -7, -2, 3},
            {11, 6, 3, 2}, {12, 7, -9, -9}, {12, -9, 7, -9}, {13, 7, -9, 7}, {13, -9, 7, 7}, {11, 0, 5, 0}, {9, 3, 3, 0}
        };
        for (int[] s : sums) {
            formula(x, 0, 2, N, s[1], 0, N, s[2], 0, s[0], 0, 0);
            due("word " + s[0] + " of " + s[1] + " and " + s[2], x.value(0, 0, 2), s[3]);
            due("fault", x.fault(0, 0, 2), 0);
        }
        for (int lowest = -1; lowest <= 2; lowest++) {
            formula(x, 0, 2, N, lowest, 0, N, 8, 0, N, 9, 0, Cellmarket.WHEN, 0, 0);
            due("WHEN of " + lowest, x.value(0, 0, 2), lowest > 0 ? 8 : 9);
        }
        formula(x, 0, 3, N, 1, 0, N, 2, 0, N, 3, 0, N, 4, 0, 9, 0, 0, 14, 0, 0);
        due("WHEN of 1, 2, and 3 - 4", x.value(0, 0, 3), 2);
        formula(x, 0, 3, N, 0, 0, N, 2, 0, N, 3, 0, N, 4, 0, 9, 0, 0, 14, 0, 0);
        due("WHEN of 0, 2, and 3 - 4", x.value(0, 0, 3), -1);
        formula(x, 0, 4, C, 0, 5, N, 1, 0, 8, 0, 0);
        due("an empty cell is 0", x.value(0, 0, 4), 1);
        number(x, 0, 5, 1000000);
        due("a cell's value goes on", x.value(0, 0, 4), 1000001);
        due("values are no acts", x.events(), 22);
    }

    private static void value() {
        Cellmarket x = new Cellmarket();
        number(x, 2, 5, 31);
        due("value", x.value(2, 2, 5), 31);
        refused(x, "value, not read", NOT, () -> x.value(0, 2, 5));
        refused(x, "value of an empty cell, not read", NOT, () -> x.value(0, 2, 4));
        x.let(2, 0, 2, 5, 5, true);
        due("value, read", x.value(0, 2, 5), 31);
        x.let(2, 0, 2, 5, 5, false);
        refused(x, "value, read no more", NOT, () -> x.value(0, 2, 5));
        refused(x, "value, owner -1", OUT, () -> x.value(-1, 0, 0));
        refused(x, "value, owner 6", OUT, () -> x.value(6, 0, 0));
        refused(x, "value, column -1", OUT, () -> x.value(0, -1, 0));
        refused(x, "value, column 4", OUT, () -> x.value(0, 4, 0));
        refused(x, "value, row -1", OUT, () -> x.value(0, 0, -1));
        refused(x, "value, row 6", OUT, () -> x.value(0, 0, 6));
        formula(x, 2, 4, C, 2, 5, N, 0, 0, Cellmarket.OVER, 0, 0);
        due("value with a fault", x.value(2, 2, 4), 0);
        x.give(2, 2, 5, 1);
        refused(x, "value, given away", NOT, () -> x.value(2, 2, 5));
        due("value for the new owner", x.value(1, 2, 5), 31);
    }

    private static void valueOfTheMarket() {
        Cellmarket x = new Cellmarket();
        for (int r = 0; r < 5; r++) {
            formula(x, 3, r, Cellmarket.BUY + r, 1, 0);
        }
        int[] before = {0, 0, 0, 0, 0};
        expectMarket(x, before);
        x.bid(0, 1, true, 3, 10);
        expectMarket(x, 10, 0, 3, 0, 1);
        x.bid(0, 1, true, 4, 30);
        x.bid(0, 1, true, 5, 20);
        expectMarket(x, 30, 0, 12, 0, 3);
        x.bid(2, 1, false, 6, 9);
        expectMarket(x, 30, 9, 12, 6, 4);
        x.bid(2, 1, false, 7, 9999);
        x.bid(2, 1, false, 8, 0);
        expectMarket(x, 30, 0, 12, 21, 6);
        x.bid(2, 0, false, 8, 5);
        x.bid(2, 0, true, 8, 500);
        expectMarket(x, 30, 0, 12, 21, 6);
        x.withdraw(0, 1);
        x.withdraw(2, 5);
        expectMarket(x, 20, 9, 8, 13, 4);
        x.bell(1);
        expectMarket(x, 20, 9, 8, 13, 4);
        x.bell(1);
        expectMarket(x, before);
        x.bid(0, 1, true, 2, 7);
        expectMarket(x, 7, 0, 2, 0, 1);
    }

    private static void expectMarket(Cellmarket x, int... want) {
        for (int r = 0; r < 5; r++) {
            due("market word " + (Cellmarket.BUY + r), x.value(3, 3, r), want[r]);
        }
    }

    private static void valueOfLast() {
        Cellmarket x = new Cellmarket();
        formula(x, 0, 0, Cellmarket.LAST, 1, 0);
        due("LAST without", x.value(0, 0, 0), 0);
        round(x, 1);
        due("LAST after a void round", x.value(0, 0, 0), 0);
        number(x, 1, 0, 40);
        x.bell(1);
        due("LAST, frozen", x.value(0, 0, 0), 0);
        x.bell(1);
        due("LAST", x.value(0, 0, 0), 40);
        number(x, 2, 0, 77);
        round(x, 2);
        due("LAST of another column", x.value(0, 0, 0), 40);
        number(x, 1, 0, -1);
        round(x, 1);
        due("LAST that has a price", x.value(0, 0, 0), 40);
        number(x, 1, 0, 0);
        round(x, 1);
        due("LAST of 0", x.value(0, 0, 0), 0);
        int e = number(x, 1, 0, 60);
        round(x, 1);
        due("LAST", x.value(0, 0, 0), 60);
        x.strikeEdit(e);
        due("LAST, struck", x.value(0, 0, 0), 0);
        x.strikeEdit(3);
        due("LAST, the round before has none", x.value(0, 0, 0), 0);
    }

    private static void fault() {
        Cellmarket x = new Cellmarket();
        formula(x, 0, 0, N, 5, 0, N, 0, 0, Cellmarket.OVER, 0, 0);
        due("DIVISION", x.fault(0, 0, 0), Cellmarket.DIVISION);
        formula(x, 0, 1, C, 0, 0);
        due("a fault goes on", x.fault(0, 0, 1), Cellmarket.DIVISION);
        formula(x, 0, 2, C, 0, 2);
        due("CIRCLE of one", x.fault(0, 0, 2), Cellmarket.CIRCLE);
        formula(x, 0, 3, C, 0, 4);
        formula(x, 0, 4, C, 0, 3);
        due("CIRCLE of two", x.fault(0, 0, 3), Cellmarket.CIRCLE);
        due("CIRCLE of two", x.fault(0, 0, 4), Cellmarket.CIRCLE);
        formula(x, 0, 5, C, 0, 3);
        due("a cell that leads to a circle", x.fault(0, 0, 5), Cellmarket.CIRCLE);
        formula(x, 0, 5, C, 1, 0);
        due("HIDDEN, also of an empty cell", x.fault(0, 0, 5), Cellmarket.HIDDEN);
        x.let(1, 0, 1, 0, 0, true);
        due("read", x.fault(0, 0, 5), 0);
        formula(x, 1, 0, C, 0, 5);
        due("HIDDEN ahead of CIRCLE", x.fault(0, 0, 5), Cellmarket.HIDDEN);
        due("HIDDEN", x.fault(1, 1, 0), Cellmarket.HIDDEN);
        x.let(0, 1, 0, 5, 5, true);
        due("CIRCLE then", x.fault(0, 0, 5), Cellmarket.CIRCLE);
        due("CIRCLE then", x.fault(1, 1, 0), Cellmarket.CIRCLE);
        formula(x, 0, 5, N, 1, 0, N, 0, 0, Cellmarket.OVER, 0, 0, C, 3, 0, 8, 0, 0);
        due("the first fault counts", x.fault(0, 0, 5), Cellmarket.DIVISION);
        formula(x, 0, 5, C, 3, 0, N, 1, 0, N, 0, 0, Cellmarket.OVER, 0, 0, 8, 0, 0);
        due("the first fault counts", x.fault(0, 0, 5), Cellmarket.HIDDEN);
        formula(x, 0, 5, N, 1, 0, N, 2, 0, C, 0, 0, Cellmarket.WHEN, 0, 0);
        due("WHEN does not spare the one not taken", x.fault(0, 0, 5), Cellmarket.DIVISION);
    }

    private static void faultOfRange() {
        Cellmarket x = new Cellmarket();
        int[][] edges = {{1000000, 1000, 0, 0}, {1000000, 1000, 1, 4}, {-1000000, 1000, 0, 0}, {-1000000, 1000, -1, 4},
            {1000000, 1000, -1, 0}, {1000000, 1001, 0, 4}, {1000000, 1000000, 0, 4}};
        for (int[] e : edges) {
            formula(x, 0, 0, N, e[0], 0, N, e[1], 0, Cellmarket.TIMES, 0, 0, N, e[2], 0, Cellmarket.PLUS, 0, 0);
            due("fault of " + Arrays.toString(e), x.fault(0, 0, 0), e[3]);
            due("value of " + Arrays.toString(e), x.value(0, 0, 0), e[3] == 0 ? e[0] * e[1] + e[2] : 0);
        }
        formula(x, 0, 0, N, 1000000, 0, N, 1000, 0, Cellmarket.TIMES, 0, 0);
        formula(x, 0, 1, C, 0, 0, C, 0, 0, Cellmarket.TIMES, 0, 0);
        due("greatest squared", x.fault(0, 0, 1), Cellmarket.RANGE);
        formula(x, 0, 1, C, 0, 0, N, -1, 0, Cellmarket.MINUS, 0, 0);
        due("MINUS too much", x.fault(0, 0, 1), Cellmarket.RANGE);
        formula(x, 0, 1, N, 1, 0, N, 1000, 0, N, 1000000, 0, N, 5000, 0, 10, 0, 0, 14, 0, 0);
        due("what is not taken is out of range", x.fault(0, 0, 1), Cellmarket.RANGE);
    }

    private static void faultIsAskedBy() {
        Cellmarket x = new Cellmarket();
        refused(x, "fault, not read", NOT, () -> x.fault(0, 2, 5));
        refused(x, "fault, owner -1", OUT, () -> x.fault(-1, 0, 0));
        refused(x, "fault, owner 6", OUT, () -> x.fault(6, 0, 0));
        refused(x, "fault, column -1", OUT, () -> x.fault(0, -1, 0));
        refused(x, "fault, column 4", OUT, () -> x.fault(0, 4, 0));
        refused(x, "fault, row -1", OUT, () -> x.fault(0, 0, -1));
        refused(x, "fault, row 6", OUT, () -> x.fault(0, 0, 6));
        number(x, 1, 0, 6);
        formula(x, 0, 0, C, 1, 0);
        due("the owner of the asking cell counts", x.fault(0, 0, 0), Cellmarket.HIDDEN);
        x.let(0, 1, 0, 0, 0, true);
        due("not who asks", x.fault(1, 0, 0), Cellmarket.HIDDEN);
        x.give(0, 0, 0, 1);
        due("the new owner reads it", x.fault(1, 0, 0), 0);
        due("value", x.value(1, 0, 0), 6);
        x.give(1, 1, 0, 2);
        due("the asked cell was given away", x.fault(1, 0, 0), Cellmarket.HIDDEN);
    }

    /** Each cell asks the next one several times: without keeping what was found this would not end in time. */
    private static void longChain() {
        Cellmarket x = new Cellmarket();
        letAll(x);
        for (int i = 0; i < 23; i++) {
            int c = (i + 1) / 6;
            int r = (i + 1) % 6;
            formula(x, i / 6, i % 6, C, c, r, C, c, r, 12, 0, 0, C, c, r, 12, 0, 0, C, c, r, 13, 0, 0, C, c, r, 12, 0, 0, C, c, r, 12, 0, 0);
        }
        number(x, 3, 5, 9);
        due("24 cells deep", x.value(0, 0, 0), 9);
        due("no fault", x.fault(0, 0, 0), 0);
        formula(x, 3, 5, N, 1, 0, N, 2, 0, N, 3, 0, N, 4, 0, N, 5, 0, N, 6, 0, N, 7, 0, N, 8, 0, 14, 0, 0, 14, 0, 0, 14, 0, 0, 8, 0, 0);
        due("24 cells deep, and a high pile there", x.value(0, 0, 0), 4);
        formula(x, 3, 5, C, 0, 0);
        due("a circle of 24", x.fault(0, 0, 0), Cellmarket.CIRCLE);
        due("a circle of 24", x.fault(2, 2, 3), Cellmarket.CIRCLE);
    }

    private static void pileOfEachCell() {
        Cellmarket x = new Cellmarket();
        formula(x, 0, 0, N, 1000, 0, N, 200, 0, C, 0, 1, 9, 0, 0, 9, 0, 0);
        formula(x, 0, 1, N, 50, 0, N, 7, 0, C, 0, 2, N, 4, 0, 14, 0, 0, 9, 0, 0);
        formula(x, 0, 2, N, 30, 0, N, 20, 0, N, 10, 0, 9, 0, 0, 9, 0, 0);
        due("30 - (20 - 10)", x.value(0, 0, 2), 20);
        due("50 - 20, as 7 is above 0", x.value(0, 0, 1), 30);
        due("1000 - (200 - 30)", x.value(0, 0, 0), 830);
    }

    private static void edits() {
        Cellmarket x = new Cellmarket();
        number(x, 0, 0, 1);
        number(x, 0, 1, 1);
        x.empty(0, 0, 0);
        number(x, 1, 0, 1);
        due("edits", x.edits(0, 0), 2);
        due("edits", x.edits(0, 1), 1);
        due("edits", x.edits(1, 0), 1);
        due("edits", x.edits(1, 1), 0);
        x.strikeEdit(0);
        due("edits, one struck", x.edits(0, 0), 2);
        refused(x, "edits(-1, 0)", OUT, () -> x.edits(-1, 0));
        refused(x, "edits(4, 0)", OUT, () -> x.edits(4, 0));
        refused(x, "edits(0, -1)", OUT, () -> x.edits(0, -1));
        refused(x, "edits(0, 6)", OUT, () -> x.edits(0, 6));
    }

    private static void edit() {
        Cellmarket x = new Cellmarket();
        wait(x, 3);
        number(x, 0, 0, 1);
        x.give(0, 0, 1, 5);
        x.notice(0, 4);
        formula(x, 0, 1, N, 1, 0, N, 2, 0, Cellmarket.PLUS, 0, 0);
        x.empty(5, 0, 1);
        expectEdit(x, 0, 0, 0, 0, 3, 4, 0, 1, 0, 1);
        expectEdit(x, 0, 1, 0, 1, 6, 10, 5, 3, 0, 0);
        expectEdit(x, 0, 1, 1, 2, 7, 11, 5, 0, 0, 0);
        wait(x, 2);
        expectEdit(x, 0, 1, 0, 1, 6, 10, 5, 3, 0, 1);
        expectEdit(x, 0, 1, 1, 2, 7, 11, 5, 0, 0, 0);
        wait(x, 1);
        expectEdit(x, 0, 1, 0, 1, 6, 10, 5, 3, 0, 0);
        expectEdit(x, 0, 1, 1, 2, 7, 11, 5, 0, 0, 1);
        x.strikeEdit(2);
        x.give(5, 0, 1, 4);
        expectEdit(x, 0, 1, 0, 1, 6, 10, 5, 3, 0, 1);
        expectEdit(x, 0, 1, 1, 2, 7, 11, 5, 0, 1, 0);
        for (int off : new int[] {-1, 7, Integer.MIN_VALUE, Integer.MAX_VALUE}) {
            refused(x, "edit, what " + off, BAD, () -> x.edit(0, 0, 0, off));
            refused(x, "edit, place 1 and what " + off, OUT, () -> x.edit(0, 0, 1, off));
        }
        refused(x, "edit, place -1", OUT, () -> x.edit(0, 0, -1, 0));
        refused(x, "edit, place 2", OUT, () -> x.edit(0, 1, 2, 0));
        refused(x, "edit of a cell without", OUT, () -> x.edit(1, 0, 0, 0));
        refused(x, "edit, column -1", OUT, () -> x.edit(-1, 0, 0, 0));
        refused(x, "edit, column 4", OUT, () -> x.edit(4, 0, 0, 0));
        refused(x, "edit, row -1", OUT, () -> x.edit(0, -1, 0, 0));
        refused(x, "edit, row 6", OUT, () -> x.edit(0, 6, 0, 0));
    }

    private static void expectEdit(Cellmarket x, int column, int row, int place, int... want) {
        for (int what = 0; what < 7; what++) {
            due("edit(" + column + ", " + row + ", " + place + ", " + what + ")", x.edit(column, row, place, what), want[what]);
        }
    }

    // ---- bids and rounds

    private static void bid() {
        Cellmarket x = new Cellmarket();
        due("bid", x.bid(0, 0, true, 1, 0), 0);
        due("bid", x.bid(5, 3, false, 100, 9999), 1);
        due("bid", x.bid(5, 3, true, 10, 9999), 2);
        refused(x, "bid, owner -1", OUT, () -> x.bid(-1, 0, true, 0, 0));
        refused(x, "bid, owner 6", OUT, () -> x.bid(6, 0, true, 1, 0));
        refused(x, "bid, column -1", OUT, () -> x.bid(0, -1, true, 1, -1));
        refused(x, "bid, column 4", OUT, () -> x.bid(0, 4, true, 1, 0));
        refused(x, "bid for 0", BAD, () -> x.bid(0, 0, true, 0, 0));
        refused(x, "bid for 101", BAD, () -> x.bid(0, 0, true, 101, 0));
        refused(x, "bid for the least int", BAD, () -> x.bid(0, 0, false, Integer.MIN_VALUE, 0));
        refused(x, "bid at -1", BAD, () -> x.bid(0, 0, false, 1, -1));
        refused(x, "bid at 10000", BAD, () -> x.bid(0, 0, true, 1, 10000));
        x.bell(0);
        refused(x, "bid, frozen", NOT, () -> x.bid(0, 0, false, 1, 1));
        refused(x, "bid, frozen and for 0", BAD, () -> x.bid(0, 0, false, 0, 1));
        due("bid in another column", x.bid(0, 1, false, 1, 1), 3);
        x.bell(0);
        due("bid, open again", x.bid(0, 0, false, 1, 1), 4);
        due("events", x.events(), 7);
    }

    private static void bidAndLimit() {
        Cellmarket x = new Cellmarket();
        due("up to the limit", x.bid(0, 0, true, 100, 1000), 0);
        refused(x, "above the limit", NOT, () -> x.bid(0, 0, true, 1, 1));
        due("with a limit of 0", x.bid(0, 1, true, 100, 0), 1);
        due("to sell", x.bid(0, 0, false, 100, 9999), 2);
        due("another owner", x.bid(1, 0, true, 99, 1000), 3);
        refused(x, "above the limit", NOT, () -> x.bid(1, 3, true, 1, 1001));
        due("up to the limit", x.bid(1, 3, true, 1, 1000), 4);
        x.withdraw(1, 4);
        due("instead of what was withdrawn", x.bid(1, 2, true, 1, 1000), 5);
        x.limit(1, 0);
        refused(x, "above a limit of 0", NOT, () -> x.bid(1, 3, true, 1, 1));
        refused(x, "even at 0, as there are others", NOT, () -> x.bid(1, 3, true, 1, 0));
        x.limit(2, 0);
        due("at 0 with a limit of 0", x.bid(2, 3, true, 1, 0), 6);
        x.bell(0);
        refused(x, "frozen bids count", NOT, () -> x.bid(0, 1, true, 1, 1));
        x.bell(0);
        due("cleared bids don't count", x.bid(0, 1, true, 100, 1000), 7);
    }

    private static void bidAndDues() {
        Cellmarket x = new Cellmarket();
        number(x, 0, 0, 50);
        x.limit(1, 1000);
        x.bid(1, 0, true, 10, 60);
        x.bid(2, 0, false, 10, 50);
        round(x, 0);
        due("due", x.due(1, 0), 500);
        refused(x, "a due counts", NOT, () -> x.bid(1, 1, true, 1, 501));
        due("up to the limit with a due", x.bid(1, 1, true, 1, 500), 2);
        due("exposure", x.exposure(1), 1000);
        x.limit(2, 100);
        refused(x, "a due below 0 doesn't count", NOT, () -> x.bid(2, 1, true, 1, 101));
        due("a due below 0 doesn't count", x.bid(2, 1, true, 1, 100), 3);
        x.settle(0);
        due("a settled due doesn't count", x.bid(1, 1, true, 1, 500), 4);
    }

    private static void eightyBids() {
        Cellmarket x = new Cellmarket();
        for (int i = 0; i < 80; i++) {
            due("bid", x.bid(i % 6, i % 4, i % 2 == 0, 1, i), i);
        }
        refused(x, "an 81st bid", NOT, () -> x.bid(0, 0, false, 1, 1));
        refused(x, "an 81st bid, for 0", BAD, () -> x.bid(0, 0, false, 0, 1));
        refused(x, "an 81st bid, owner 6", OUT, () -> x.bid(6, 0, false, 1, 1));
        x.withdraw(0, 0);
        refused(x, "an 81st bid, one withdrawn", NOT, () -> x.bid(0, 0, false, 1, 1));
        round(x, 0);
        x.strikeBid(0);
        refused(x, "an 81st bid, one struck", NOT, () -> x.bid(0, 0, false, 1, 1));
        due("got", x.got(79), 0);
        refused(x, "got(80)", OUT, () -> x.got(80));
    }

    private static void withdraw() {
        Cellmarket x = new Cellmarket();
        refused(x, "withdraw, none made", OUT, () -> x.withdraw(0, 0));
        x.bid(0, 0, true, 3, 10);
        x.bid(1, 0, true, 4, 10);
        x.bid(1, 1, false, 5, 10);
        refused(x, "withdraw, owner -1", OUT, () -> x.withdraw(-1, 0));
        refused(x, "withdraw, owner 6", OUT, () -> x.withdraw(6, 0));
        refused(x, "withdraw, bid -1", OUT, () -> x.withdraw(0, -1));
        refused(x, "withdraw, bid 3", OUT, () -> x.withdraw(0, 3));
        refused(x, "withdraw another's", NOT, () -> x.withdraw(0, 1));
        due("withdraw", x.withdraw(0, 0), 3);
        due("exposure", x.exposure(0), 0);
        refused(x, "withdraw again", NOT, () -> x.withdraw(0, 0));
        x.bell(0);
        refused(x, "withdraw, frozen", NOT, () -> x.withdraw(1, 1));
        due("withdraw in another column", x.withdraw(1, 2), 5);
        x.bell(0);
        refused(x, "withdraw, cleared", NOT, () -> x.withdraw(1, 1));
        due("events", x.events(), 7);
        number(x, 0, 0, 10);
        x.bid(1, 0, true, 2, 10);
        x.bid(2, 0, false, 2, 10);
        x.withdraw(1, 3);
        round(x, 0);
        due("what is withdrawn does not take part", x.round(1, 2), 0);
        due("got", x.got(3), 0);
    }

    private static void share() {
        Cellmarket x = new Cellmarket();
        due("share", x.share(0, true), false);
        due("share again", x.share(0, true), true);
        due("share of another column", x.share(1, true), false);
        due("share back", x.share(0, false), true);
        due("share back again", x.share(0, false), false);
        due("events", x.events(), 5);
        refused(x, "share, column -1", OUT, () -> x.share(-1, true));
        refused(x, "share, column 4", OUT, () -> x.share(4, true));
    }

    private static void sharingByOrder() {
        Cellmarket x = new Cellmarket();
        number(x, 0, 0, 50);
        int[] limits = {50, 60, 49, 60, 99, 50};
        for (int i = 0; i < 6; i++) {
            x.bid(i, 0, true, 10, limits[i]);
        }
        x.bid(0, 0, false, 15, 50);
        x.bid(1, 0, false, 14, 0);
        x.bid(2, 0, false, 4, 51);
        x.bid(3, 0, false, 1, 49);
        x.bid(4, 0, false, 5, 50);
        round(x, 0);
        due("volume", x.round(0, 2), 35);
        expectGot(x, 0, 5, 10, 0, 10, 10, 0, 15, 14, 0, 1, 5);
        x.bid(0, 0, true, 17, 50);
        x.bid(1, 0, false, 10, 50);
        x.bid(2, 0, false, 10, 40);
        x.bid(3, 0, false, 10, 40);
        round(x, 0);
        expectGot(x, 11, 17, 0, 10, 7);
    }

    private static void sharingByShares() {
        Cellmarket x = new Cellmarket();
        number(x, 0, 0, 50);
        x.share(0, true);
        x.bid(0, 0, true, 5, 50);
        x.bid(1, 0, true, 3, 99);
        x.bid(2, 0, true, 3, 50);
        x.bid(3, 0, true, 50, 49);
        x.bid(4, 0, false, 7, 50);
        round(x, 0);
        // 35, 21 and 21 elevenths: 3, 1 and 1 with remainders 2, 10 and 10
        expectGot(x, 0, 3, 2, 2, 0, 7);
        x.bid(0, 0, false, 1, 50);
        x.bid(1, 0, false, 1, 1);
        x.bid(2, 0, false, 1, 50);
        x.bid(3, 0, true, 2, 50);
        round(x, 0);
        // by remainders alike, those made first, whatever their limits
        expectGot(x, 5, 1, 1, 0, 2);
        x.bid(0, 0, false, 100, 50);
        x.bid(1, 0, true, 100, 60);
        round(x, 0);
        expectGot(x, 9, 100, 100);
        x.bid(0, 0, false, 100, 50);
        round(x, 0);
        expectGot(x, 11, 0);
        due("volume with one side alone", x.round(3, 2), 0);
        due("price with one side alone", x.round(3, 1), 50);
    }

    private static void shareCountsAtTheFreezing() {
        Cellmarket x = new Cellmarket();
        number(x, 0, 0, 50);
        x.bid(0, 0, true, 4, 50);
        x.bid(1, 0, true, 4, 60);
        x.bid(2, 0, false, 4, 50);
        x.bell(0);
        x.share(0, true);
        x.bell(0);
        expectGot(x, 0, 0, 4, 4);
        x.bid(0, 0, true, 4, 50);
        x.bid(1, 0, true, 4, 60);
        x.bid(2, 0, false, 4, 50);
        x.bell(0);
        x.share(0, false);
        x.bell(0);
        expectGot(x, 3, 2, 2, 4);
        int e = number(x, 3, 3, 1);
        due("reckoned again alike", x.strikeEdit(e), 0);
        expectGot(x, 0, 0, 4, 4, 2, 2, 4);
    }

    private static void expectGot(Cellmarket x, int first, int... want) {
        for (int i = 0; i < want.length; i++) {
            due("got(" + (first + i) + ")", x.got(first + i), want[i]);
        }
    }

    private static void bell() {
        Cellmarket x = new Cellmarket();
        due("bell", x.bell(3), Cellmarket.NONE);
        due("isFrozen", x.isFrozen(3), true);
        due("isFrozen", x.isFrozen(0), false);
        due("bell", x.bell(0), Cellmarket.NONE);
        due("bell", x.bell(0), 0);
        due("bell", x.bell(3), 1);
        due("isFrozen", x.isFrozen(3), false);
        due("column", x.round(0, 0), 0);
        due("column", x.round(1, 0), 3);
        due("events", x.events(), 4);
        refused(x, "bell(-1)", OUT, () -> x.bell(-1));
        refused(x, "bell(4)", OUT, () -> x.bell(4));
        for (int i = 2; i < 30; i++) {
            due("round", round(x, i % 4), i);
        }
        for (int c = 0; c < 4; c++) {
            int column = c;
            due("freezing is not refused", x.bell(c), Cellmarket.NONE);
            refused(x, "a 31st round", NOT, () -> x.bell(column));
            due("isFrozen", x.isFrozen(c), true);
        }
        refused(x, "bell(4)", OUT, () -> x.bell(4));
        due("the last round", x.round(29, 4), Cellmarket.EMPTY);
    }

    private static void bellTakesWhatHeldThen() {
        Cellmarket x = new Cellmarket();
        letAll(x);
        number(x, 1, 2, 30);
        formula(x, 0, 0, C, 1, 2, Cellmarket.BUYS, 1, 0, 8, 0, 0, Cellmarket.LAST, 1, 0, 8, 0, 0);
        number(x, 1, 0, 1000);
        x.bid(4, 1, true, 5, 1);
        x.bell(0);
        x.bid(4, 1, true, 50, 1);
        x.withdraw(4, 0);
        number(x, 1, 2, 31);
        x.give(1, 1, 2, 5);
        round(x, 1);
        due("value now", x.fault(0, 0, 0), 0);
        due("value now", x.value(0, 0, 0), 1031);
        x.let(5, 0, 1, 2, 2, false);
        due("value now", x.fault(0, 0, 0), Cellmarket.HIDDEN);
        int round = x.bell(0);
        due("price by what held at the freezing", x.round(round, 1), 35);
        x.strikeBid(0);
        due("struck, and withdrawn later", x.round(round, 1), 30);
        due("priceAnew", x.priceAnew(round), 30);
        x.bid(4, 0, true, 5, 1);
        round(x, 0);
        due("void", x.round(round + 1, 4), Cellmarket.HIDDEN);
    }

    private static void bellAndNotice() {
        Cellmarket x = new Cellmarket();
        number(x, 0, 0, 5);
        x.notice(0, 3);
        number(x, 0, 0, 6);
        wait(x, 1);
        x.bell(0);
        due("value ahead of it", x.value(0, 0, 0), 6);
        x.bell(0);
        due("not yet at the freezing", x.round(0, 1), 5);
        number(x, 0, 0, 7);
        wait(x, 2);
        x.bell(0);
        x.bell(0);
        due("just then", x.round(1, 1), 7);
    }

    private static void isFrozen() {
        Cellmarket x = new Cellmarket();
        for (int c = 0; c < 4; c++) {
            due("isFrozen", x.isFrozen(c), false);
            x.bell(c);
            due("isFrozen", x.isFrozen(c), true);
        }
        x.bell(2);
        due("isFrozen", x.isFrozen(2), false);
        due("isFrozen", x.isFrozen(1), true);
        due("events", x.events(), 5);
        refused(x, "isFrozen(-1)", OUT, () -> x.isFrozen(-1));
        refused(x, "isFrozen(4)", OUT, () -> x.isFrozen(4));
    }

    private static void round() {
        Cellmarket x = new Cellmarket();
        refused(x, "round, none cleared", OUT, () -> x.round(0, 0));
        x.bell(2);
        refused(x, "round, only frozen", OUT, () -> x.round(0, 0));
        x.bell(2);
        expectRound(x, 0, 2, -1, 0, 0, Cellmarket.EMPTY, 0);
        number(x, 2, 0, 21);
        x.bid(0, 2, true, 5, 21);
        x.bid(1, 2, true, 6, 22);
        x.bid(3, 2, false, 10, 20);
        number(x, 2, 1, 100);
        round(x, 2);
        // 4 * 21 * 100 / 1000 is 8.4, 6 * 21 * 100 / 1000 is 12.6
        expectRound(x, 1, 2, 21, 10, 100, 0, 20);
        number(x, 2, 0, -1);
        round(x, 2);
        expectRound(x, 2, 2, -1, 0, 0, Cellmarket.NEGATIVE, 0);
        number(x, 2, 0, 0);
        x.bid(0, 2, true, 5, 0);
        x.bid(3, 2, false, 5, 0);
        round(x, 2);
        expectRound(x, 3, 2, 0, 5, 100, 0, 0);
        for (int off : new int[] {-1, 6, Integer.MIN_VALUE, Integer.MAX_VALUE}) {
            refused(x, "round, what " + off, BAD, () -> x.round(0, off));
            refused(x, "round 4, what " + off, OUT, () -> x.round(4, off));
        }
        refused(x, "round -1", OUT, () -> x.round(-1, 0));
        refused(x, "round 4", OUT, () -> x.round(4, 0));
    }

    private static void roundVoidByFaults() {
        Cellmarket x = new Cellmarket();
        formula(x, 0, 0, C, 1, 0);
        round(x, 0);
        expectRound(x, 0, 0, -1, 0, 0, Cellmarket.HIDDEN, 0);
        formula(x, 0, 0, C, 0, 0);
        round(x, 0);
        expectRound(x, 1, 0, -1, 0, 0, Cellmarket.CIRCLE, 0);
        formula(x, 0, 0, N, 1, 0, N, 0, 0, 11, 0, 0);
        round(x, 0);
        expectRound(x, 2, 0, -1, 0, 0, Cellmarket.DIVISION, 0);
        formula(x, 0, 0, N, 1000000, 0, N, -1001, 0, 10, 0, 0);
        x.bid(0, 0, true, 1, 9999);
        x.bid(0, 0, false, 1, 0);
        round(x, 0);
        expectRound(x, 3, 0, -1, 0, 0, Cellmarket.RANGE, 0);
        number(x, 0, 0, 5);
        x.empty(0, 0, 0);
        number(x, 0, 1, 5);
        round(x, 0);
        expectRound(x, 4, 0, -1, 0, 0, Cellmarket.EMPTY, 0);
        formula(x, 0, 0, N, 1000000, 0, N, 1000, 0, 10, 0, 0);
        x.bid(0, 0, true, 1, 9999);
        x.bid(0, 0, false, 1, 0);
        round(x, 0);
        expectRound(x, 5, 0, 1000000000, 0, 5, 0, 0);
    }

    private static void roundFee() {
        Cellmarket x = new Cellmarket();
        number(x, 0, 0, 10);
        int[][] fees = {{-1, 0}, {0, 0}, {1, 1}, {999, 999}, {1000, 1000}, {1001, 1000}, {1000000, 1000}};
        for (int[] fee : fees) {
            number(x, 0, 1, fee[0]);
            due("fee of " + fee[0], x.round(round(x, 0), 3), fee[1]);
        }
        x.empty(0, 0, 1);
        due("fee of an empty cell", x.round(round(x, 0), 3), 0);
        formula(x, 0, 1, C, 1, 1);
        due("fee of a hidden cell", x.round(round(x, 0), 3), 0);
        formula(x, 0, 1, C, 0, 0);
        due("fee like the price", x.round(round(x, 0), 3), 10);
        formula(x, 0, 0, C, 0, 1);
        round(x, 0);
        due("price in a circle", x.round(10, 4), Cellmarket.CIRCLE);
    }

    private static void expectRound(Cellmarket x, int round, int... want) {
        for (int what = 0; what < 6; what++) {
            due("round(" + round + ", " + what + ")", x.round(round, what), want[what]);
        }
    }

    private static void priceAnew() {
        Cellmarket x = new Cellmarket();
        refused(x, "priceAnew, none cleared", OUT, () -> x.priceAnew(0));
        formula(x, 0, 0, Cellmarket.LAST, 0, 0, N, 10, 0, 8, 0, 0);
        x.bid(0, 0, true, 4, 99);
        x.bid(1, 0, false, 3, 1);
        for (int i = 0; i < 5; i++) {
            round(x, 0);
        }
        for (int i = 0; i < 5; i++) {
            due("priceAnew(" + i + ")", x.priceAnew(i), 10 * (i + 1));
        }
        x.empty(0, 0, 0);
        round(x, 0);
        due("priceAnew without", x.priceAnew(5), Cellmarket.NONE);
        String before = picture(x);
        due("priceAnew of an early one", x.priceAnew(1), 20);
        due("nothing changed", before.equals(picture(x)), true);
        x.strikeEdit(0);
        due("priceAnew, struck", x.priceAnew(4), Cellmarket.NONE);
        refused(x, "priceAnew(-1)", OUT, () -> x.priceAnew(-1));
        refused(x, "priceAnew(6)", OUT, () -> x.priceAnew(6));
    }

    private static void got() {
        Cellmarket x = new Cellmarket();
        refused(x, "got, none made", OUT, () -> x.got(0));
        number(x, 0, 0, 10);
        x.bid(0, 0, true, 4, 10);
        x.bid(1, 0, false, 3, 10);
        due("got, open", x.got(0), 0);
        x.bell(0);
        due("got, frozen", x.got(0), 0);
        x.bell(0);
        due("got", x.got(0), 3);
        due("got", x.got(1), 3);
        round(x, 0);
        due("got once", x.got(0), 3);
        due("volume of the next one", x.round(1, 2), 0);
        x.strikeBid(1);
        due("got, struck", x.got(1), 0);
        due("got, the other one struck", x.got(0), 0);
        refused(x, "got(-1)", OUT, () -> x.got(-1));
        refused(x, "got(2)", OUT, () -> x.got(2));
    }

    // ---- settling, limits

    private static void due() {
        Cellmarket x = new Cellmarket();
        number(x, 0, 0, 7);
        number(x, 0, 1, 333);
        x.bid(1, 0, true, 3, 7);
        x.bid(1, 0, true, 3, 7);
        x.bid(2, 0, false, 6, 7);
        round(x, 0);
        // 21 * 333 / 1000 is 6.99, rounded down bid by bid
        due("who buys", x.due(1, 0), 54);
        due("who sells", x.due(2, 0), -42);
        due("who gets the fees", x.due(0, 0), -12);
        due("in another column", x.due(1, 1), 0);
        x.bid(0, 0, true, 10, 7);
        x.bid(0, 0, false, 10, 7);
        round(x, 0);
        due("from and to oneself", x.due(0, 0), -12);
        due("fees", x.round(1, 5), 23);
        number(x, 1, 0, 100);
        x.bid(2, 1, true, 1, 100);
        x.bid(1, 1, false, 1, 100);
        round(x, 1);
        due("by columns", x.due(1, 0), 54);
        due("by columns", x.due(1, 1), -100);
        due("by columns", x.due(2, 1), 100);
        refused(x, "due(-1, 0)", OUT, () -> x.due(-1, 0));
        refused(x, "due(6, 0)", OUT, () -> x.due(6, 0));
        refused(x, "due(0, -1)", OUT, () -> x.due(0, -1));
        refused(x, "due(0, 4)", OUT, () -> x.due(0, 4));
    }

    private static void settle() {
        Cellmarket x = new Cellmarket();
        due("settle nothing", x.settle(0), 0);
        due("settle is an act", x.events(), 1);
        number(x, 0, 0, 1);
        x.bid(0, 0, true, 13, 1);
        x.bid(1, 0, true, 6, 1);
        x.bid(2, 0, true, 3, 1);
        x.bid(3, 0, false, 17, 1);
        x.bid(4, 0, false, 5, 1);
        round(x, 0);
        // dues 13, 6, 3, -17, -5: tenths 1, 0, 0, -2, -1 with 3, 6, 3, 3, 5 cut off; 2 are lacking
        due("settle", x.settle(0), 2);
        expectCash(x, -1, -1, 0, 2, 0, 0);
        for (int o = 0; o < 6; o++) {
            due("due", x.due(o, 0), 0);
        }
        due("settle again", x.settle(0), 0);
        expectCash(x, -1, -1, 0, 2, 0, 0);
        refused(x, "settle(-1)", OUT, () -> x.settle(-1));
        refused(x, "settle(4)", OUT, () -> x.settle(4));
    }

    private static void settleTies() {
        Cellmarket x = new Cellmarket();
        number(x, 1, 0, 1);
        x.bid(5, 1, true, 4, 1);
        x.bid(3, 1, true, 4, 1);
        x.bid(2, 1, true, 4, 1);
        x.bid(0, 1, false, 12, 1);
        x.bell(1);
        due("settle while frozen", x.settle(1), 0);
        x.bell(1);
        due("settle another column", x.settle(0), 0);
        // dues -12, 4, 4, 4: tenths -2, 0, 0, 0 with 8, 4, 4, 4 cut off; 2 are lacking
        due("settle", x.settle(1), 1);
        expectCash(x, 1, 0, -1, 0, 0, 0);
        x.strikeBid(0);
        due("due anew", x.due(5, 1), -4);
        due("due anew", x.due(0, 1), 4);
        // tenths 0 and -1 with 4 and 6 cut off
        due("settle anew", x.settle(1), 0);
        expectCash(x, 1, 0, -1, 0, 0, 0);
        due("due", x.due(5, 1), 0);
        x.strikeBid(3);
        due("due anew", x.due(0, 1), 8);
        // dues 8, -4, -4: tenths 0, -1, -1 with 8, 6, 6 cut off; 2 are lacking
        due("settle anew", x.settle(1), 1);
        expectCash(x, 0, 0, -1, 1, 0, 0);
    }

    private static void expectCash(Cellmarket x, int... want) {
        for (int o = 0; o < 6; o++) {
            due("cash(" + o + ")", x.cash(o), want[o]);
        }
    }

    private static void cash() {
        Cellmarket x = new Cellmarket();
        number(x, 0, 0, 100);
        number(x, 1, 0, 100);
        x.bid(0, 0, true, 1, 100);
        x.bid(5, 0, false, 1, 100);
        x.bid(5, 1, true, 3, 100);
        x.bid(0, 1, false, 3, 100);
        round(x, 0);
        round(x, 1);
        due("not settled yet", x.cash(0), 0);
        x.settle(0);
        due("cash", x.cash(0), -10);
        due("cash", x.cash(5), 10);
        x.settle(1);
        due("cash", x.cash(0), 20);
        due("cash", x.cash(5), -20);
        refused(x, "cash(-1)", OUT, () -> x.cash(-1));
        refused(x, "cash(6)", OUT, () -> x.cash(6));
    }

    private static void limit() {
        Cellmarket x = new Cellmarket();
        due("limit", x.limit(0, 0), 100000);
        due("limit", x.limit(0, 1000000000), 0);
        due("limit", x.limit(0, 7), 1000000000);
        due("another's limit", x.limit(5, 7), 100000);
        refused(x, "limit of -1", BAD, () -> x.limit(0, -1));
        refused(x, "limit of 1000000001", BAD, () -> x.limit(0, 1000000001));
        refused(x, "limit, owner -1", OUT, () -> x.limit(-1, -1));
        refused(x, "limit, owner 6", OUT, () -> x.limit(6, 0));
        due("limit", x.limit(0, 8), 7);
        due("events", x.events(), 5);
        x.limit(1, 1000000000);
        for (int i = 0; i < 79; i++) {
            x.bid(1, 0, true, 100, 9999);
        }
        due("exposure", x.exposure(1), 79 * 999900);
        x.limit(1, 80 * 999900 - 1);
        refused(x, "one too much", NOT, () -> x.bid(1, 0, true, 100, 9999));
        x.limit(1, 80 * 999900);
        due("just enough", x.bid(1, 0, true, 100, 9999), 79);
    }

    private static void exposure() {
        Cellmarket x = new Cellmarket();
        number(x, 0, 0, 50);
        number(x, 1, 0, 50);
        x.bid(0, 0, true, 3, 70);
        x.bid(0, 1, true, 2, 60);
        x.bid(0, 2, false, 5, 90);
        due("bids to buy", x.exposure(0), 330);
        x.withdraw(0, 1);
        due("not those withdrawn", x.exposure(0), 210);
        x.bell(0);
        due("those frozen too", x.exposure(0), 210);
        x.bell(0);
        due("not those cleared", x.exposure(0), 0);
        x.bid(0, 0, true, 3, 70);
        x.bid(1, 0, false, 3, 10);
        round(x, 0);
        due("dues", x.exposure(0), 150);
        due("dues below 0", x.exposure(1), 0);
        x.bid(0, 1, false, 9, 10);
        x.bid(1, 1, true, 9, 60);
        round(x, 1);
        due("a due below 0 takes nothing off", x.exposure(0), 150);
        due("dues", x.exposure(1), 450);
        x.settle(0);
        due("not those settled", x.exposure(0), 0);
        refused(x, "exposure(-1)", OUT, () -> x.exposure(-1));
        refused(x, "exposure(6)", OUT, () -> x.exposure(6));
    }

    // ---- disputes

    private static void strikeBid() {
        Cellmarket x = new Cellmarket();
        refused(x, "strikeBid, none made", OUT, () -> x.strikeBid(0));
        number(x, 0, 0, 10);
        x.bid(0, 0, true, 4, 20);
        x.bid(1, 0, true, 4, 10);
        x.bid(2, 0, false, 5, 10);
        x.bid(3, 0, true, 4, 10);
        x.bid(4, 0, true, 4, 9);
        x.withdraw(3, 3);
        refused(x, "strikeBid, open", NOT, () -> x.strikeBid(0));
        x.bell(0);
        refused(x, "strikeBid, frozen", NOT, () -> x.strikeBid(0));
        x.bell(0);
        expectGot(x, 0, 4, 1, 5, 0, 0);
        due("strike one that has got nothing", x.strikeBid(4), 0);
        due("strike one that was withdrawn", x.strikeBid(3), 0);
        refused(x, "strikeBid again", NOT, () -> x.strikeBid(3));
        due("strikeBid", x.strikeBid(0), 1);
        expectGot(x, 0, 0, 4, 4, 0, 0);
        due("volume", x.round(0, 2), 4);
        due("due", x.due(0, 0), 0);
        due("due", x.due(1, 0), 40);
        refused(x, "strikeBid again", NOT, () -> x.strikeBid(0));
        refused(x, "strikeBid(-1)", OUT, () -> x.strikeBid(-1));
        refused(x, "strikeBid(5)", OUT, () -> x.strikeBid(5));
        due("the volume alike, others get it", fourOfTwo(), 1);
    }

    /** Strikes a bid, so that the volume stays and other bids get it. */
    private static int fourOfTwo() {
        Cellmarket x = new Cellmarket();
        number(x, 0, 0, 10);
        x.bid(0, 0, true, 4, 20);
        x.bid(1, 0, true, 4, 10);
        x.bid(2, 0, false, 4, 10);
        round(x, 0);
        int changed = x.strikeBid(0);
        due("volume", x.round(0, 2), 4);
        expectGot(x, 0, 0, 4, 4);
        return changed;
    }

    private static void strikeBidOfOthersThen() {
        Cellmarket x = new Cellmarket();
        formula(x, 0, 0, Cellmarket.BUY, 1, 0);
        formula(x, 2, 0, Cellmarket.LAST, 0, 0, N, 1, 0, 8, 0, 0);
        x.bid(1, 1, true, 1, 30);
        x.bell(0);
        x.bid(1, 1, true, 1, 40);
        x.bell(1);
        x.bell(0);
        x.bell(2);
        x.bell(2);
        due("price", x.round(0, 1), 30);
        due("price", x.round(1, 1), 31);
        refused(x, "its round was not cleared", NOT, () -> x.strikeBid(0));
        x.bell(1);
        due("a bid made later changes nothing", x.strikeBid(1), 0);
        due("a bid in another column", x.strikeBid(0), 2);
        due("price", x.round(0, 1), 0);
        due("price", x.round(1, 1), 1);
        due("priceAnew", x.priceAnew(1), 1);
        due("reason", x.round(2, 4), Cellmarket.EMPTY);
    }

    private static void strikeAheadOfClearing() {
        Cellmarket x = new Cellmarket();
        formula(x, 0, 0, Cellmarket.BUYS, 1, 0, N, 10, 0, 8, 0, 0);
        number(x, 0, 1, 50);
        x.bid(1, 1, true, 7, 1);
        x.bell(0);
        round(x, 1);
        due("nothing cleared changes", x.strikeBid(0), 0);
        due("nothing cleared changes", x.strikeEdit(1), 0);
        due("bell", x.bell(0), 1);
        due("what was struck while frozen counts no more", x.round(1, 1), 10);
        due("fee", x.round(1, 3), 0);
    }

    private static void strikeEdit() {
        Cellmarket x = new Cellmarket();
        refused(x, "strikeEdit, none told", OUT, () -> x.strikeEdit(0));
        number(x, 0, 0, 10);
        number(x, 0, 1, 100);
        number(x, 0, 0, 12);
        number(x, 0, 5, 1);
        x.bid(0, 0, true, 4, 11);
        x.bid(1, 0, false, 4, 5);
        round(x, 0);
        due("volume", x.round(0, 2), 0);
        due("strike one that matters not", x.strikeEdit(3), 0);
        due("strike a price", x.strikeEdit(2), 1);
        due("price", x.round(0, 1), 10);
        due("volume", x.round(0, 2), 4);
        due("got", x.got(0), 4);
        due("due", x.due(0, 0), 40);
        due("due", x.due(1, 0), -40);
        x.bid(2, 0, true, 10, 11);
        x.bid(1, 0, false, 10, 5);
        round(x, 0);
        due("due", x.due(2, 0), 110);
        due("strike a fee", x.strikeEdit(1), 2);
        due("due", x.due(2, 0), 100);
        x.settle(0);
        due("strike all prices", x.strikeEdit(0), 2);
        due("what was settled stays", x.cash(2), -10);
        due("due", x.due(2, 0), -100);
        due("reason", x.round(1, 4), Cellmarket.EMPTY);
        x.settle(0);
        due("settled anew", x.cash(2), 0);
        refused(x, "strikeEdit again", NOT, () -> x.strikeEdit(0));
        refused(x, "strikeEdit(-1)", OUT, () -> x.strikeEdit(-1));
        refused(x, "strikeEdit(4)", OUT, () -> x.strikeEdit(4));
        x.bell(0);
        number(x, 1, 0, 5);
        due("strike while another is frozen", x.strikeEdit(4), 0);
    }

    private static void strikeAnEmptying() {
        Cellmarket x = new Cellmarket();
        number(x, 0, 0, 10);
        x.empty(0, 0, 0);
        round(x, 0);
        due("reason", x.round(0, 4), Cellmarket.EMPTY);
        due("strike", x.strikeEdit(1), 1);
        due("price", x.round(0, 1), 10);
        number(x, 0, 0, -5);
        round(x, 0);
        due("reason", x.round(1, 4), Cellmarket.NEGATIVE);
        x.empty(0, 0, 0);
        round(x, 0);
        formula(x, 0, 0, C, 1, 1);
        round(x, 0);
        due("reason", x.round(3, 4), Cellmarket.HIDDEN);
        due("another reason alone is no change", x.strikeEdit(4), 0);
        due("reason", x.round(3, 4), Cellmarket.EMPTY);
        due("the void get a price", x.strikeEdit(3), 0);
        due("reason", x.round(2, 4), Cellmarket.NEGATIVE);
        due("the void get a price", x.strikeEdit(2), 3);
        due("price", x.round(3, 1), 10);
    }

    private static void events() {
        Cellmarket x = new Cellmarket();
        due("events", x.events(), 0);
        x.give(0, 0, 5, 0);
        x.let(0, 1, 0, 0, 0, true);
        x.word(N, 5, 0);
        x.enter(0, 0, 0);
        x.empty(1, 1, 0);
        x.notice(0, 0);
        x.share(0, false);
        x.bid(0, 0, true, 1, 5);
        x.withdraw(0, 0);
        x.bell(0);
        x.bell(0);
        x.settle(0);
        x.limit(0, 5);
        x.strikeBid(0);
        x.strikeEdit(0);
        due("acts", x.events(), 14);
        x.wipe();
        x.ownerOf(0, 0);
        x.reads(0, 0, 0);
        x.value(0, 0, 0);
        x.fault(0, 0, 0);
        x.edits(0, 0);
        x.edit(0, 0, 0, 0);
        x.isFrozen(0);
        x.round(0, 0);
        x.priceAnew(0);
        x.got(0);
        x.due(0, 0);
        x.cash(0);
        x.exposure(0);
        due("what is asked is no act", x.events(), 14);
        refused(x, "give", NOT, () -> x.give(5, 0, 0, 0));
        due("what is refused is no act", x.events(), 14);
    }

    private static void promisesOfCells() {
        promise = 1;
        newObject();
        promise = 2;
        give();
        giveTakesFees();
        promise = 3;
        let();
        letRefused();
        promise = 4;
        ownerOf();
        promise = 5;
        reads();
    }

    private static void promisesOfFormulas() {
        promise = 6;
        word();
        promise = 7;
        wipe();
        promise = 8;
        enter();
        sixtyEdits();
        promise = 9;
        empty();
        promise = 10;
        notice();
        laterToldCounts();
        promise = 11;
        reckoning();
        value();
        valueOfTheMarket();
        valueOfLast();
        promise = 12;
        fault();
        faultOfRange();
        faultIsAskedBy();
        longChain();
        pileOfEachCell();
        promise = 13;
        edits();
        promise = 14;
        edit();
    }

    private static void promisesOfRounds() {
        promise = 15;
        bid();
        bidAndLimit();
        bidAndDues();
        eightyBids();
        promise = 16;
        withdraw();
        promise = 17;
        share();
        sharingByOrder();
        sharingByShares();
        shareCountsAtTheFreezing();
        promise = 18;
        bell();
        bellTakesWhatHeldThen();
        bellAndNotice();
        promise = 19;
        isFrozen();
        promise = 20;
        round();
        roundVoidByFaults();
        roundFee();
        promise = 21;
        priceAnew();
        promise = 22;
        got();
    }

    private static void promisesOfSettling() {
        promise = 23;
        due();
        promise = 24;
        settle();
        settleTies();
        promise = 25;
        cash();
        promise = 26;
        limit();
        promise = 27;
        exposure();
        promise = 28;
        strikeBid();
        strikeBidOfOthersThen();
        strikeAheadOfClearing();
        promise = 29;
        strikeEdit();
        strikeAnEmptying();
        promise = 30;
        events();
    }

    public static void main(String[] args) {
        promisesOfCells();
        promisesOfFormulas();
        promisesOfRounds();
        promisesOfSettling();
        System.out.println("PromisesTest: " + checks + " checks, " + wrong + " wrong");
        if (wrong != 0) {
            System.exit(1);
        }
    }
}
