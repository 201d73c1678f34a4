import java.util.Arrays;

/** The promises of the document one by one: ordinary calls, the edges that are named, and wrong calls. */
public final class PromisesTest extends Check {
    // ---- cells

    private static void newObject() {
        Traced x = new Traced();
        for (int c = 0; c < 4; c++) {
            due("isFrozen", x.isFrozen(c), false);
            for (int r = 0; r < 6; r++) {
                due("ownerOf", x.ownerOf(c, r), c);
                due("edits", x.edits(c, r), 0);
                due("value", x.value(c, c, r), 0);
                due("fault", x.fault(c, c, r), 0);
                for (int o = 0; o < 6; o++) {
                    due("reads", x.reads(o, c, r), o == c);
                    due("due", x.due(o, c), 0);
                }
            }
            due("notice before", x.notice(c, 0), 0);
            due("share before", x.share(c, false), false);
        }
        due("events", x.events(), 8);
        for (int o = 0; o < 6; o++) {
            due("cash", x.cash(o), 0);
            due("exposure", x.exposure(o), 0);
            due("limit before", x.limit(o, 5), 100000);
        }
        due("wipe", x.wipe(), 0);
        Traced y = new Traced();
        due("another object's events", y.events(), 0);
        due("another object's limit", y.limit(0, 1), 100000);
    }

    private static void give() {
        Traced x = new Traced();
        due("give", x.give(0, 0, 5, 4), 1);
        due("give", x.give(0, 0, 4, 4), 2);
        due("give on", x.give(4, 0, 4, 1), 7);
        due("give to oneself", x.give(1, 0, 4, 1), 7);
        due("give to oneself", x.give(2, 2, 0, 2), 6);
        due("ownerOf", x.ownerOf(0, 5), 4);
        due("ownerOf", x.ownerOf(0, 4), 1);
        due("ownerOf", x.ownerOf(0, 3), 0);
        due("events", x.events(), 5);
        due("reads", x.reads(0, 0, 5), false);
        due("reads", x.reads(4, 0, 5), true);
        for (int off : new int[] {-1, 6, Integer.MIN_VALUE, Integer.MAX_VALUE}) {
            refused(x, "give, owner " + off, OUT, m -> m.give(off, 0, 0, 1));
            refused(x, "give, row " + off, OUT, m -> m.give(0, 0, off, 1));
            refused(x, "give, other " + off, OUT, m -> m.give(0, 0, 0, off));
            refused(x, "give, other's cell and other " + off, OUT, m -> m.give(1, 0, 0, off));
        }
        refused(x, "give, column -1", OUT, m -> m.give(0, -1, 0, 1));
        refused(x, "give, column 4", OUT, m -> m.give(0, 4, 0, 1));
        refused(x, "give, not the owner's", NOT, m -> m.give(0, 0, 5, 1));
        refused(x, "give, not the owner's, to the owner", NOT, m -> m.give(0, 1, 0, 1));
        due("give the last one", x.give(3, 3, 5, 5), 1);
        due("give the first one", x.give(0, 0, 0, 5), 2);
        due("give it back", x.give(5, 0, 0, 0), 4);
    }

    private static void giveTakesFees() {
        Traced x = new Traced();
        number(x, 0, 0, 10);
        number(x, 0, 1, 100);
        x.bid(1, 0, true, 10, 10);
        x.bid(2, 0, false, 10, 10);
        x.give(0, 0, 1, 4);
        x.bell(0);
        x.give(4, 0, 1, 5);
        due("bell", x.bell(0), 0);
        due("fees go to the owner when it froze", x.due(4, 0), -10);
        due("due of the later owner", x.due(5, 0), 0);
        due("due of the former owner", x.due(0, 0), 0);
        due("teller stays", x.edit(0, 1, 0, 3), 0);
    }

    private static void let() {
        Traced x = new Traced();
        due("let", x.let(0, 1, 0, 2, 4, true), 3);
        for (int r = 0; r < 6; r++) {
            due("reads row " + r, x.reads(1, 0, r), r >= 2 && r <= 4);
            due("another reads row " + r, x.reads(2, 0, r), false);
        }
        due("let one row no more", x.let(0, 1, 0, 3, 3, false), 1);
        due("reads", x.reads(1, 0, 2), true);
        due("reads", x.reads(1, 0, 3), false);
        due("reads", x.reads(1, 0, 4), true);
        due("let what is let", x.let(0, 1, 0, 0, 5, true), 6);
        due("let none", x.let(1, 0, 0, 0, 5, false), 0);
        due("a stranger's let does not count", x.reads(1, 0, 0), true);
        x.give(0, 0, 2, 3);
        due("let but the one given away", x.let(0, 5, 0, 0, 5, true), 5);
        due("reads", x.reads(5, 0, 1), true);
        due("reads the one given away", x.reads(5, 0, 2), false);
        due("what the owner told then stays", x.reads(1, 0, 2), true);
        due("let by the new owner", x.let(3, 1, 0, 2, 2, false), 1);
        due("reads", x.reads(1, 0, 2), false);
        due("let the former owner", x.let(3, 0, 0, 2, 2, true), 1);
        due("reads", x.reads(0, 0, 2), true);
        due("owners read their own, whatever was told", x.let(0, 4, 0, 0, 0, false), 1);
        x.give(0, 0, 0, 4);
        due("reads", x.reads(4, 0, 0), true);
        due("events", x.events(), 10);
    }

    private static void letRefused() {
        Traced x = new Traced();
        for (int off : new int[] {-1, 6, Integer.MIN_VALUE, Integer.MAX_VALUE}) {
            refused(x, "let, owner " + off, OUT, m -> m.let(off, 1, 0, 0, 0, true));
            refused(x, "let, other " + off, OUT, m -> m.let(0, off, 0, 0, 0, true));
            refused(x, "let, from " + off, OUT, m -> m.let(0, 1, 0, off, 5, true));
            refused(x, "let, to " + off, OUT, m -> m.let(0, 1, 0, 0, off, true));
            refused(x, "let, both the same, to " + off, OUT, m -> m.let(0, 0, 0, 0, off, true));
            refused(x, "let, both " + off, OUT, m -> m.let(off, off, 0, 0, 0, true));
        }
        refused(x, "let, column -1", OUT, m -> m.let(0, 1, -1, 0, 0, true));
        refused(x, "let, column 4", OUT, m -> m.let(0, 1, 4, 0, 0, true));
        refused(x, "let, column 4, to below from", OUT, m -> m.let(0, 1, 4, 3, 2, true));
        refused(x, "let, both the same", BAD, m -> m.let(2, 2, 2, 0, 0, true));
        refused(x, "let, to below from", BAD, m -> m.let(0, 1, 0, 1, 0, true));
        refused(x, "let, both the same of no cells", BAD, m -> m.let(5, 5, 0, 0, 0, true));
        due("let row 5", x.let(0, 1, 0, 5, 5, true), 1);
        due("let row 0", x.let(0, 1, 0, 0, 0, true), 1);
    }

    private static void ownerOf() {
        Traced x = new Traced();
        due("ownerOf", x.ownerOf(3, 5), 3);
        x.give(3, 3, 5, 0);
        due("ownerOf", x.ownerOf(3, 5), 0);
        refused(x, "ownerOf(-1, 0)", OUT, m -> m.ownerOf(-1, 0));
        refused(x, "ownerOf(4, 0)", OUT, m -> m.ownerOf(4, 0));
        refused(x, "ownerOf(0, -1)", OUT, m -> m.ownerOf(0, -1));
        refused(x, "ownerOf(0, 6)", OUT, m -> m.ownerOf(0, 6));
        refused(x, "ownerOf(3, 6)", OUT, m -> m.ownerOf(3, 6));
    }

    private static void reads() {
        Traced x = new Traced();
        due("reads", x.reads(3, 3, 5), true);
        due("reads", x.reads(5, 3, 5), false);
        x.let(3, 5, 3, 5, 5, true);
        due("reads", x.reads(5, 3, 5), true);
        due("reads", x.reads(5, 3, 4), false);
        due("reads", x.reads(4, 3, 5), false);
        refused(x, "reads(-1, 0, 0)", OUT, m -> m.reads(-1, 0, 0));
        refused(x, "reads(6, 0, 0)", OUT, m -> m.reads(6, 0, 0));
        refused(x, "reads(0, -1, 0)", OUT, m -> m.reads(0, -1, 0));
        refused(x, "reads(0, 4, 0)", OUT, m -> m.reads(0, 4, 0));
        refused(x, "reads(0, 0, -1)", OUT, m -> m.reads(0, 0, -1));
        refused(x, "reads(0, 0, 6)", OUT, m -> m.reads(0, 0, 6));
    }

    // ---- formulas

    private static void word() {
        Traced x = new Traced();
        refused(x, "word(-1)", BAD, m -> m.word(-1, 0, 0));
        refused(x, "word(15)", BAD, m -> m.word(15, 0, 0));
        refused(x, "NUMBER 1000001", BAD, m -> m.word(N, 1000001, 0));
        refused(x, "NUMBER -1000001", BAD, m -> m.word(N, -1000001, 0));
        refused(x, "NUMBER least int", BAD, m -> m.word(N, Integer.MIN_VALUE, 0));
        for (int what = Cellmarket.CELL; what <= Cellmarket.LAST; what++) {
            int w = what;
            refused(x, "word " + w + " of column -1", BAD, m -> m.word(w, -1, 0));
            refused(x, "word " + w + " of column 4", BAD, m -> m.word(w, 4, 0));
        }
        refused(x, "CELL of row -1", BAD, m -> m.word(C, 0, -1));
        refused(x, "CELL of row 6", BAD, m -> m.word(C, 0, 6));
        for (int what = Cellmarket.PLUS; what <= Cellmarket.WHEN; what++) {
            int w = what;
            refused(x, "word " + w + " with nothing on the pile", NOT, m -> m.word(w, 0, 0));
        }
        due("NUMBER 1000000, whatever two is", x.word(N, 1000000, -77), 1);
        for (int what = Cellmarket.PLUS; what <= Cellmarket.WHEN; what++) {
            int w = what;
            refused(x, "word " + w + " with one on the pile", NOT, m -> m.word(w, 0, 0));
        }
        due("NUMBER -1000000", x.word(N, -1000000, 77), 2);
        refused(x, "WHEN with two on the pile", NOT, m -> m.word(Cellmarket.WHEN, 0, 0));
        due("PLUS, whatever one and two are", x.word(Cellmarket.PLUS, Integer.MIN_VALUE, Integer.MAX_VALUE), 3);
        for (int what = Cellmarket.BUY; what <= Cellmarket.LAST; what++) {
            due("word " + what, x.word(what, 3, 99), what + 2);
        }
        due("WHEN", x.word(Cellmarket.WHEN, -9, -9), 10);
        due("CELL", x.word(C, 3, 5), 11);
        due("CELL", x.word(C, 0, 0), 12);
        refused(x, "a 13th word", NOT, m -> m.word(N, 0, 0));
        refused(x, "a 13th word that takes", NOT, m -> m.word(Cellmarket.PLUS, 0, 0));
        refused(x, "a 13th word out of range", BAD, m -> m.word(N, 1000001, 0));
        refused(x, "a 13th word that is none", BAD, m -> m.word(15, 0, 0));
        due("words aren't acts", x.events(), 0);
        due("wipe", x.wipe(), 12);
    }

    private static void wipe() {
        Traced x = new Traced();
        due("wipe", x.wipe(), 0);
        write(x, N, 1, 0, N, 2, 0, N, 3, 0);
        due("wipe", x.wipe(), 3);
        due("wipe again", x.wipe(), 0);
        refused(x, "PLUS on an empty draft", NOT, m -> m.word(Cellmarket.PLUS, 0, 0));
        due("word", x.word(N, 4, 0), 1);
        due("enter", x.enter(0, 0, 0), 0);
        due("value", x.value(0, 0, 0), 4);
        due("wipe after enter", x.wipe(), 0);
        due("events", x.events(), 1);
    }

    private static void enter() {
        Traced x = new Traced();
        refused(x, "enter nothing", NOT, m -> m.enter(0, 0, 0));
        write(x, N, 7, 0);
        refused(x, "enter, owner -1", OUT, m -> m.enter(-1, 0, 0));
        refused(x, "enter, owner 6", OUT, m -> m.enter(6, 0, 0));
        refused(x, "enter, column -1", OUT, m -> m.enter(0, -1, 0));
        refused(x, "enter, column 4", OUT, m -> m.enter(0, 4, 0));
        refused(x, "enter, row -1", OUT, m -> m.enter(0, 0, -1));
        refused(x, "enter, row 6", OUT, m -> m.enter(0, 0, 6));
        refused(x, "enter, not the owner's", NOT, m -> m.enter(1, 0, 0));
        x.bell(0);
        refused(x, "enter, frozen", NOT, m -> m.enter(0, 0, 0));
        refused(x, "enter, frozen, row 6", OUT, m -> m.enter(0, 0, 6));
        x.bell(0);
        write(x, N, 8, 0);
        refused(x, "enter two numbers", NOT, m -> m.enter(0, 0, 0));
        due("the draft is kept", x.word(Cellmarket.MINUS, 0, 0), 3);
        due("enter", x.enter(0, 0, 0), 0);
        due("value", x.value(0, 0, 0), -1);
        due("the draft is empty", x.wipe(), 0);
        refused(x, "enter nothing", NOT, m -> m.enter(0, 0, 0));
        x.give(0, 0, 5, 5);
        write(x, N, 6, 0);
        refused(x, "enter, given away", NOT, m -> m.enter(0, 0, 5));
        due("enter", x.enter(5, 0, 5), 1);
        due("value", x.value(5, 0, 5), 6);
        due("events", x.events(), 5);
        write(x, N, 1, 0, N, 1, 0, 8, 0, 0, N, 1, 0, 8, 0, 0, N, 1, 0, 8, 0, 0, N, 1, 0, 8, 0, 0, N, 1, 0);
        refused(x, "twelve words that leave two", NOT, m -> m.enter(1, 1, 0));
        x.wipe();
        write(x, N, 0, 0, N, 1, 0, 8, 0, 0, N, 1, 0, 8, 0, 0, N, 1, 0, 8, 0, 0, N, 1, 0, N, 1, 0, 14, 0, 0, C, 0, 0);
        x.wipe();
        write(x, N, 1, 0, N, 2, 0, N, 3, 0, N, 4, 0, 8, 0, 0, 8, 0, 0, 8, 0, 0, N, 5, 0, N, 6, 0, 14, 0, 0);
        due("enter ten words", x.enter(1, 1, 0), 2);
        due("value", x.value(1, 1, 0), 5);
        due("words", x.edit(1, 0, 0, 4), 10);
    }

    private static void sixtyEdits() {
        Traced x = new Traced();
        for (int i = 0; i < 60; i++) {
            due("edit", i % 2 == 0 ? number(x, i % 4, i % 6, i) : x.empty(i % 4, i % 4, i % 6), i);
        }
        write(x, N, 1, 0);
        refused(x, "a 61st edit", NOT, m -> m.enter(0, 0, 0));
        refused(x, "a 61st edit that empties", NOT, m -> m.empty(0, 0, 0));
        refused(x, "a 61st edit, no such row", OUT, m -> m.empty(0, 0, 6));
        x.strikeEdit(0);
        refused(x, "a 61st edit, one struck", NOT, m -> m.enter(0, 0, 0));
        due("the draft is kept", x.wipe(), 1);
        due("strikeEdit(59)", x.strikeEdit(59), 0);
        refused(x, "strikeEdit(60)", OUT, m -> m.strikeEdit(60));
    }

    private static void empty() {
        Traced x = new Traced();
        number(x, 0, 0, 9);
        write(x, N, 1, 0);
        refused(x, "empty, owner -1", OUT, m -> m.empty(-1, 0, 0));
        refused(x, "empty, owner 6", OUT, m -> m.empty(6, 0, 0));
        refused(x, "empty, column -1", OUT, m -> m.empty(0, -1, 0));
        refused(x, "empty, column 4", OUT, m -> m.empty(0, 4, 0));
        refused(x, "empty, row -1", OUT, m -> m.empty(0, 0, -1));
        refused(x, "empty, row 6", OUT, m -> m.empty(0, 0, 6));
        refused(x, "empty, not the owner's", NOT, m -> m.empty(1, 0, 0));
        due("empty", x.empty(0, 0, 0), 1);
        due("value", x.value(0, 0, 0), 0);
        due("edits", x.edits(0, 0), 2);
        due("words", x.edit(0, 0, 1, 4), 0);
        due("empty again", x.empty(0, 0, 0), 2);
        due("empty what was never told", x.empty(3, 3, 3), 3);
        due("the draft stays", x.word(N, 2, 0), 2);
        due("events", x.events(), 4);
        x.bell(0);
        refused(x, "empty, frozen", NOT, m -> m.empty(0, 0, 0));
        due("another column", x.empty(1, 1, 0), 4);
        x.bell(0);
        due("open again", x.empty(0, 0, 0), 5);
    }

    private static void notice() {
        Traced x = new Traced();
        due("notice", x.notice(0, 50), 0);
        due("notice", x.notice(0, 3), 50);
        due("another column's notice", x.notice(3, 0), 0);
        refused(x, "notice of -1", BAD, m -> m.notice(0, -1));
        refused(x, "notice of 51", BAD, m -> m.notice(0, 51));
        refused(x, "notice, column -1", OUT, m -> m.notice(-1, 51));
        refused(x, "notice, column 4", OUT, m -> m.notice(4, 0));
        number(x, 0, 0, 5);
        due("first event at which it counts", x.edit(0, 0, 0, 2), 6);
        due("notice", x.notice(0, 0), 3);
        due("value at 5", x.value(0, 0, 0), 0);
        due("not yet", x.edit(0, 0, 0, 6), 0);
        wait(x, 1);
        due("value at 6", x.value(0, 0, 0), 5);
        due("now", x.edit(0, 0, 0, 6), 1);
        number(x, 0, 1, 6);
        due("value with a notice of 0", x.value(0, 0, 1), 6);
        due("first event with a notice of 0", x.edit(0, 1, 0, 2), 7);
        x.notice(0, 1);
        number(x, 0, 1, 7);
        due("value with a notice of 1", x.value(0, 0, 1), 7);
        due("first event with a notice of 1", x.edit(0, 1, 1, 2), 9);
        x.notice(0, 2);
        number(x, 0, 1, 8);
        due("value with a notice of 2", x.value(0, 0, 1), 7);
        wait(x, 1);
        due("value an event later", x.value(0, 0, 1), 8);
    }

    private static void laterToldCounts() {
        Traced x = new Traced();
        x.notice(1, 5);
        number(x, 1, 0, 11);
        x.notice(1, 0);
        number(x, 1, 0, 22);
        due("value", x.value(1, 1, 0), 22);
        wait(x, 10);
        due("the one told last counts, not the one that counts last", x.value(1, 1, 0), 22);
        due("its formula", x.edit(1, 0, 0, 6), 0);
        due("its formula", x.edit(1, 0, 1, 6), 1);
        x.strikeEdit(1);
        due("value without it", x.value(1, 1, 0), 11);
        x.notice(1, 50);
        int e = number(x, 1, 1, 3);
        due("first event", x.edit(1, 1, 0, 2), x.edit(1, 1, 0, 1) + 50);
        wait(x, 48);
        due("49 events behind it", x.value(1, 1, 1), 0);
        wait(x, 1);
        due("50 events behind it", x.value(1, 1, 1), 3);
        due("strikeEdit", x.strikeEdit(e), 0);
        due("struck", x.value(1, 1, 1), 0);
    }

    private static void reckoning() {
        Traced x = new Traced();
        int[][] sums = {
            {8, 7, -9, -2}, {9, 7, -9, 16}, {10, 7, -9, -63}, {11, 7, -9, 0}, {11, -7, 2, -3}, {11, 7, -2, -3}, {11, -7, -2, 3},
            {11, 6, 3, 2}, {12, 7, -9, -9}, {12, -9, 7, -9}, {13, 7, -9, 7}, {13, -9, 7, 7}, {11, 0, 5, 0}, {9, 3, 3, 0}
        };
        for (int[] s : sums) {
            formula(x, 0, 2, N, s[1], 0, N, s[2], 0, s[0], 0, 0);
            due("word " + s[0] + " of " + s[1] + " and " + s[2], x.value(0, 0, 2), s[3]);
            due("fault", x.fault(0, 0, 2), 0);
        }
        for (int lowest = -1; lowest <= 2; lowest++) {
            formula(x, 0, 2, N, lowest, 0, N, 8, 0, N, 9, 0, Cellmarket.WHEN, 0, 0);
            due("WHEN of " + lowest, x.value(0, 0, 2), lowest > 0 ? 8 : 9);
        }
        formula(x, 0, 3, N, 1, 0, N, 2, 0, N, 3, 0, N, 4, 0, 9, 0, 0, 14, 0, 0);
        due("WHEN of 1, 2, and 3 - 4", x.value(0, 0, 3), 2);
        formula(x, 0, 3, N, 0, 0, N, 2, 0, N, 3, 0, N, 4, 0, 9, 0, 0, 14, 0, 0);
        due("WHEN of 0, 2, and 3 - 4", x.value(0, 0, 3), -1);
        formula(x, 0, 4, C, 0, 5, N, 1, 0, 8, 0, 0);
        due("an empty cell is 0", x.value(0, 0, 4), 1);
        number(x, 0, 5, 1000000);
        due("a cell's value goes on", x.value(0, 0, 4), 1000001);
        due("values are no acts", x.events(), 22);
    }

    private static void value() {
        Traced x = new Traced();
        number(x, 2, 5, 31);
        due("value", x.value(2, 2, 5), 31);
        refused(x, "value, not read", NOT, m -> m.value(0, 2, 5));
        refused(x, "value of an empty cell, not read", NOT, m -> m.value(0, 2, 4));
        x.let(2, 0, 2, 5, 5, true);
        due("value, read", x.value(0, 2, 5), 31);
        x.let(2, 0, 2, 5, 5, false);
        refused(x, "value, read no more", NOT, m -> m.value(0, 2, 5));
        refused(x, "value, owner -1", OUT, m -> m.value(-1, 0, 0));
        refused(x, "value, owner 6", OUT, m -> m.value(6, 0, 0));
        refused(x, "value, column -1", OUT, m -> m.value(0, -1, 0));
        refused(x, "value, column 4", OUT, m -> m.value(0, 4, 0));
        refused(x, "value, row -1", OUT, m -> m.value(0, 0, -1));
        refused(x, "value, row 6", OUT, m -> m.value(0, 0, 6));
        formula(x, 2, 4, C, 2, 5, N, 0, 0, Cellmarket.OVER, 0, 0);
        due("value with a fault", x.value(2, 2, 4), 0);
        x.give(2, 2, 5, 1);
        refused(x, "value, given away", NOT, m -> m.value(2, 2, 5));
        due("value for the new owner", x.value(1, 2, 5), 31);
    }

    private static void valueOfTheMarket() {
        Traced x = new Traced();
        for (int r = 0; r < 5; r++) {
            formula(x, 3, r, Cellmarket.BUY + r, 1, 0);
        }
        int[] before = {0, 0, 0, 0, 0};
        expectMarket(x, before);
        x.bid(0, 1, true, 3, 10);
        expectMarket(x, 10, 0, 3, 0, 1);
        x.bid(0, 1, true, 4, 30);
        x.bid(0, 1, true, 5, 20);
        expectMarket(x, 30, 0, 12, 0, 3);
        x.bid(2, 1, false, 6, 9);
        expectMarket(x, 30, 9, 12, 6, 4);
        x.bid(2, 1, false, 7, 9999);
        x.bid(2, 1, false, 8, 0);
        expectMarket(x, 30, 0, 12, 21, 6);
        x.bid(2, 0, false, 8, 5);
        x.bid(2, 0, true, 8, 500);
        expectMarket(x, 30, 0, 12, 21, 6);
        x.withdraw(0, 1);
        x.withdraw(2, 5);
        expectMarket(x, 20, 9, 8, 13, 4);
        x.bell(1);
        expectMarket(x, 20, 9, 8, 13, 4);
        x.bell(1);
        expectMarket(x, before);
        x.bid(0, 1, true, 2, 7);
        expectMarket(x, 7, 0, 2, 0, 1);
    }

    private static void expectMarket(Traced x, int... want) {
        for (int r = 0; r < 5; r++) {
            due("market word " + (Cellmarket.BUY + r), x.value(3, 3, r), want[r]);
        }
    }

    private static void valueOfLast() {
        Traced x = new Traced();
        formula(x, 0, 0, Cellmarket.LAST, 1, 0);
        due("LAST without", x.value(0, 0, 0), 0);
        round(x, 1);
        due("LAST after a void round", x.value(0, 0, 0), 0);
        number(x, 1, 0, 40);
        x.bell(1);
        due("LAST, frozen", x.value(0, 0, 0), 0);
        x.bell(1);
        due("LAST", x.value(0, 0, 0), 40);
        number(x, 2, 0, 77);
        round(x, 2);
        due("LAST of another column", x.value(0, 0, 0), 40);
        number(x, 1, 0, -1);
        round(x, 1);
        due("LAST that has a price", x.value(0, 0, 0), 40);
        number(x, 1, 0, 0);
        round(x, 1);
        due("LAST of 0", x.value(0, 0, 0), 0);
        int e = number(x, 1, 0, 60);
        round(x, 1);
        due("LAST", x.value(0, 0, 0), 60);
        x.strikeEdit(e);
        due("LAST, struck", x.value(0, 0, 0), 0);
        x.strikeEdit(3);
        due("LAST, the round before has none", x.value(0, 0, 0), 0);
    }

    private static void fault() {
        Traced x = new Traced();
        formula(x, 0, 0, N, 5, 0, N, 0, 0, Cellmarket.OVER, 0, 0);
        due("DIVISION", x.fault(0, 0, 0), Cellmarket.DIVISION);
        formula(x, 0, 1, C, 0, 0);
        due("a fault goes on", x.fault(0, 0, 1), Cellmarket.DIVISION);
        formula(x, 0, 2, C, 0, 2);
        due("CIRCLE of one", x.fault(0, 0, 2), Cellmarket.CIRCLE);
        formula(x, 0, 3, C, 0, 4);
        formula(x, 0, 4, C, 0, 3);
        due("CIRCLE of two", x.fault(0, 0, 3), Cellmarket.CIRCLE);
        due("CIRCLE of two", x.fault(0, 0, 4), Cellmarket.CIRCLE);
        formula(x, 0, 5, C, 0, 3);
        due("a cell that leads to a circle", x.fault(0, 0, 5), Cellmarket.CIRCLE);
        formula(x, 0, 5, C, 1, 0);
        due("HIDDEN, also of an empty cell", x.fault(0, 0, 5), Cellmarket.HIDDEN);
        x.let(1, 0, 1, 0, 0, true);
        due("read", x.fault(0, 0, 5), 0);
        formula(x, 1, 0, C, 0, 5);
        due("HIDDEN ahead of CIRCLE", x.fault(0, 0, 5), Cellmarket.HIDDEN);
        due("HIDDEN", x.fault(1, 1, 0), Cellmarket.HIDDEN);
        x.let(0, 1, 0, 5, 5, true);
        due("CIRCLE then", x.fault(0, 0, 5), Cellmarket.CIRCLE);
        due("CIRCLE then", x.fault(1, 1, 0), Cellmarket.CIRCLE);
        formula(x, 0, 5, N, 1, 0, N, 0, 0, Cellmarket.OVER, 0, 0, C, 3, 0, 8, 0, 0);
        due("the first fault counts", x.fault(0, 0, 5), Cellmarket.DIVISION);
        formula(x, 0, 5, C, 3, 0, N, 1, 0, N, 0, 0, Cellmarket.OVER, 0, 0, 8, 0, 0);
        due("the first fault counts", x.fault(0, 0, 5), Cellmarket.HIDDEN);
        formula(x, 0, 5, N, 1, 0, N, 2, 0, C, 0, 0, Cellmarket.WHEN, 0, 0);
        due("WHEN does not spare the one not taken", x.fault(0, 0, 5), Cellmarket.DIVISION);
    }

    private static void faultOfRange() {
        Traced x = new Traced();
        int[][] edges = {{1000000, 1000, 0, 0}, {1000000, 1000, 1, 4}, {-1000000, 1000, 0, 0}, {-1000000, 1000, -1, 4},
            {1000000, 1000, -1, 0}, {1000000, 1001, 0, 4}, {1000000, 1000000, 0, 4}};
        for (int[] e : edges) {
            formula(x, 0, 0, N, e[0], 0, N, e[1], 0, Cellmarket.TIMES, 0, 0, N, e[2], 0, Cellmarket.PLUS, 0, 0);
            due("fault of " + Arrays.toString(e), x.fault(0, 0, 0), e[3]);
            due("value of " + Arrays.toString(e), x.value(0, 0, 0), e[3] == 0 ? e[0] * e[1] + e[2] : 0);
        }
        formula(x, 0, 0, N, 1000000, 0, N, 1000, 0, Cellmarket.TIMES, 0, 0);
        formula(x, 0, 1, C, 0, 0, C, 0, 0, Cellmarket.TIMES, 0, 0);
        due("greatest squared", x.fault(0, 0, 1), Cellmarket.RANGE);
        formula(x, 0, 1, C, 0, 0, N, -1, 0, Cellmarket.MINUS, 0, 0);
        due("MINUS too much", x.fault(0, 0, 1), Cellmarket.RANGE);
        formula(x, 0, 1, N, 1, 0, N, 1000, 0, N, 1000000, 0, N, 5000, 0, 10, 0, 0, 14, 0, 0);
        due("what is not taken is out of range", x.fault(0, 0, 1), Cellmarket.RANGE);
    }

    private static void faultIsAskedBy() {
        Traced x = new Traced();
        refused(x, "fault, not read", NOT, m -> m.fault(0, 2, 5));
        refused(x, "fault, owner -1", OUT, m -> m.fault(-1, 0, 0));
        refused(x, "fault, owner 6", OUT, m -> m.fault(6, 0, 0));
        refused(x, "fault, column -1", OUT, m -> m.fault(0, -1, 0));
        refused(x, "fault, column 4", OUT, m -> m.fault(0, 4, 0));
        refused(x, "fault, row -1", OUT, m -> m.fault(0, 0, -1));
        refused(x, "fault, row 6", OUT, m -> m.fault(0, 0, 6));
        number(x, 1, 0, 6);
        formula(x, 0, 0, C, 1, 0);
        due("the owner of the asking cell counts", x.fault(0, 0, 0), Cellmarket.HIDDEN);
        x.let(0, 1, 0, 0, 0, true);
        due("not who asks", x.fault(1, 0, 0), Cellmarket.HIDDEN);
        x.give(0, 0, 0, 1);
        due("the new owner reads it", x.fault(1, 0, 0), 0);
        due("value", x.value(1, 0, 0), 6);
        x.give(1, 1, 0, 2);
        due("the asked cell was given away", x.fault(1, 0, 0), Cellmarket.HIDDEN);
    }

    /** Each cell asks the next one several times: without keeping what was found this would not end in time. */
    private static void longChain() {
        Traced x = new Traced();
        letAll(x);
        for (int i = 0; i < 23; i++) {
            int c = (i + 1) / 6;
            int r = (i + 1) % 6;
            formula(x, i / 6, i % 6, C, c, r, C, c, r, 12, 0, 0, C, c, r, 12, 0, 0, C, c, r, 13, 0, 0, C, c, r, 12, 0, 0, C, c, r, 12, 0, 0);
        }
        number(x, 3, 5, 9);
        due("24 cells deep", x.value(0, 0, 0), 9);
        due("no fault", x.fault(0, 0, 0), 0);
        formula(x, 3, 5, N, 1, 0, N, 2, 0, N, 3, 0, N, 4, 0, N, 5, 0, N, 6, 0, N, 7, 0, N, 8, 0, 14, 0, 0, 14, 0, 0, 14, 0, 0, 8, 0, 0);
        due("24 cells deep, and a high pile there", x.value(0, 0, 0), 4);
        formula(x, 3, 5, C, 0, 0);
        due("a circle of 24", x.fault(0, 0, 0), Cellmarket.CIRCLE);
        due("a circle of 24", x.fault(2, 2, 3), Cellmarket.CIRCLE);
    }

    private static void pileOfEachCell() {
        Traced x = new Traced();
        formula(x, 0, 0, N, 1000, 0, N, 200, 0, C, 0, 1, 9, 0, 0, 9, 0, 0);
        formula(x, 0, 1, N, 50, 0, N, 7, 0, C, 0, 2, N, 4, 0, 14, 0, 0, 9, 0, 0);
        formula(x, 0, 2, N, 30, 0, N, 20, 0, N, 10, 0, 9, 0, 0, 9, 0, 0);
        due("30 - (20 - 10)", x.value(0, 0, 2), 20);
        due("50 - 20, as 7 is above 0", x.value(0, 0, 1), 30);
        due("1000 - (200 - 30)", x.value(0, 0, 0), 830);
    }

    private static void edits() {
        Traced x = new Traced();
        number(x, 0, 0, 1);
        number(x, 0, 1, 1);
        x.empty(0, 0, 0);
        number(x, 1, 0, 1);
        due("edits", x.edits(0, 0), 2);
        due("edits", x.edits(0, 1), 1);
        due("edits", x.edits(1, 0), 1);
        due("edits", x.edits(1, 1), 0);
        x.strikeEdit(0);
        due("edits, one struck", x.edits(0, 0), 2);
        refused(x, "edits(-1, 0)", OUT, m -> m.edits(-1, 0));
        refused(x, "edits(4, 0)", OUT, m -> m.edits(4, 0));
        refused(x, "edits(0, -1)", OUT, m -> m.edits(0, -1));
        refused(x, "edits(0, 6)", OUT, m -> m.edits(0, 6));
    }

    private static void edit() {
        Traced x = new Traced();
        wait(x, 3);
        number(x, 0, 0, 1);
        x.give(0, 0, 1, 5);
        x.notice(0, 4);
        formula(x, 0, 1, N, 1, 0, N, 2, 0, Cellmarket.PLUS, 0, 0);
        x.empty(5, 0, 1);
        expectEdit(x, 0, 0, 0, 0, 3, 4, 0, 1, 0, 1);
        expectEdit(x, 0, 1, 0, 1, 6, 10, 5, 3, 0, 0);
        expectEdit(x, 0, 1, 1, 2, 7, 11, 5, 0, 0, 0);
        wait(x, 2);
        expectEdit(x, 0, 1, 0, 1, 6, 10, 5, 3, 0, 1);
        expectEdit(x, 0, 1, 1, 2, 7, 11, 5, 0, 0, 0);
        wait(x, 1);
        expectEdit(x, 0, 1, 0, 1, 6, 10, 5, 3, 0, 0);
        expectEdit(x, 0, 1, 1, 2, 7, 11, 5, 0, 0, 1);
        x.strikeEdit(2);
        x.give(5, 0, 1, 4);
        expectEdit(x, 0, 1, 0, 1, 6, 10, 5, 3, 0, 1);
        expectEdit(x, 0, 1, 1, 2, 7, 11, 5, 0, 1, 0);
        for (int off : new int[] {-1, 7, Integer.MIN_VALUE, Integer.MAX_VALUE}) {
            refused(x, "edit, what " + off, BAD, m -> m.edit(0, 0, 0, off));
            refused(x, "edit, place 1 and what " + off, OUT, m -> m.edit(0, 0, 1, off));
        }
        refused(x, "edit, place -1", OUT, m -> m.edit(0, 0, -1, 0));
        refused(x, "edit, place 2", OUT, m -> m.edit(0, 1, 2, 0));
        refused(x, "edit of a cell without", OUT, m -> m.edit(1, 0, 0, 0));
        refused(x, "edit, column -1", OUT, m -> m.edit(-1, 0, 0, 0));
        refused(x, "edit, column 4", OUT, m -> m.edit(4, 0, 0, 0));
        refused(x, "edit, row -1", OUT, m -> m.edit(0, -1, 0, 0));
        refused(x, "edit, row 6", OUT, m -> m.edit(0, 6, 0, 0));
    }

    // ---- bids and rounds

    private static void bid() {
        Traced x = new Traced();
        due("bid", x.bid(0, 0, true, 1, 0), 0);
        due("bid", x.bid(5, 3, false, 100, 9999), 1);
        due("bid", x.bid(5, 3, true, 10, 9999), 2);
        refused(x, "bid, owner -1", OUT, m -> m.bid(-1, 0, true, 0, 0));
        refused(x, "bid, owner 6", OUT, m -> m.bid(6, 0, true, 1, 0));
        refused(x, "bid, column -1", OUT, m -> m.bid(0, -1, true, 1, -1));
        refused(x, "bid, column 4", OUT, m -> m.bid(0, 4, true, 1, 0));
        refused(x, "bid for 0", BAD, m -> m.bid(0, 0, true, 0, 0));
        refused(x, "bid for 101", BAD, m -> m.bid(0, 0, true, 101, 0));
        refused(x, "bid for the least int", BAD, m -> m.bid(0, 0, false, Integer.MIN_VALUE, 0));
        refused(x, "bid at -1", BAD, m -> m.bid(0, 0, false, 1, -1));
        refused(x, "bid at 10000", BAD, m -> m.bid(0, 0, true, 1, 10000));
        x.bell(0);
        refused(x, "bid, frozen", NOT, m -> m.bid(0, 0, false, 1, 1));
        refused(x, "bid, frozen and for 0", BAD, m -> m.bid(0, 0, false, 0, 1));
        due("bid in another column", x.bid(0, 1, false, 1, 1), 3);
        x.bell(0);
        due("bid, open again", x.bid(0, 0, false, 1, 1), 4);
        due("events", x.events(), 7);
    }

    private static void bidAndLimit() {
        Traced x = new Traced();
        due("up to the limit", x.bid(0, 0, true, 100, 1000), 0);
        refused(x, "above the limit", NOT, m -> m.bid(0, 0, true, 1, 1));
        due("with a limit of 0", x.bid(0, 1, true, 100, 0), 1);
        due("to sell", x.bid(0, 0, false, 100, 9999), 2);
        due("another owner", x.bid(1, 0, true, 99, 1000), 3);
        refused(x, "above the limit", NOT, m -> m.bid(1, 3, true, 1, 1001));
        due("up to the limit", x.bid(1, 3, true, 1, 1000), 4);
        x.withdraw(1, 4);
        due("instead of what was withdrawn", x.bid(1, 2, true, 1, 1000), 5);
        x.limit(1, 0);
        refused(x, "above a limit of 0", NOT, m -> m.bid(1, 3, true, 1, 1));
        refused(x, "even at 0, as there are others", NOT, m -> m.bid(1, 3, true, 1, 0));
        x.limit(2, 0);
        due("at 0 with a limit of 0", x.bid(2, 3, true, 1, 0), 6);
        x.bell(0);
        refused(x, "frozen bids count", NOT, m -> m.bid(0, 1, true, 1, 1));
        x.bell(0);
        due("cleared bids don't count", x.bid(0, 1, true, 100, 1000), 7);
    }

    private static void bidAndDues() {
        Traced x = new Traced();
        number(x, 0, 0, 50);
        x.limit(1, 1000);
        x.bid(1, 0, true, 10, 60);
        x.bid(2, 0, false, 10, 50);
        round(x, 0);
        due("due", x.due(1, 0), 500);
        refused(x, "a due counts", NOT, m -> m.bid(1, 1, true, 1, 501));
        due("up to the limit with a due", x.bid(1, 1, true, 1, 500), 2);
        due("exposure", x.exposure(1), 1000);
        x.limit(2, 100);
        refused(x, "a due below 0 doesn't count", NOT, m -> m.bid(2, 1, true, 1, 101));
        due("a due below 0 doesn't count", x.bid(2, 1, true, 1, 100), 3);
        x.settle(0);
        due("a settled due doesn't count", x.bid(1, 1, true, 1, 500), 4);
    }

    private static void eightyBids() {
        Traced x = new Traced();
        for (int i = 0; i < 80; i++) {
            due("bid", x.bid(i % 6, i % 4, i % 2 == 0, 1, i), i);
        }
        refused(x, "an 81st bid", NOT, m -> m.bid(0, 0, false, 1, 1));
        refused(x, "an 81st bid, for 0", BAD, m -> m.bid(0, 0, false, 0, 1));
        refused(x, "an 81st bid, owner 6", OUT, m -> m.bid(6, 0, false, 1, 1));
        x.withdraw(0, 0);
        refused(x, "an 81st bid, one withdrawn", NOT, m -> m.bid(0, 0, false, 1, 1));
        round(x, 0);
        x.strikeBid(0);
        refused(x, "an 81st bid, one struck", NOT, m -> m.bid(0, 0, false, 1, 1));
        due("got", x.got(79), 0);
        refused(x, "got(80)", OUT, m -> m.got(80));
    }

    private static void withdraw() {
        Traced x = new Traced();
        refused(x, "withdraw, none made", OUT, m -> m.withdraw(0, 0));
        x.bid(0, 0, true, 3, 10);
        x.bid(1, 0, true, 4, 10);
        x.bid(1, 1, false, 5, 10);
        refused(x, "withdraw, owner -1", OUT, m -> m.withdraw(-1, 0));
        refused(x, "withdraw, owner 6", OUT, m -> m.withdraw(6, 0));
        refused(x, "withdraw, bid -1", OUT, m -> m.withdraw(0, -1));
        refused(x, "withdraw, bid 3", OUT, m -> m.withdraw(0, 3));
        refused(x, "withdraw another's", NOT, m -> m.withdraw(0, 1));
        due("withdraw", x.withdraw(0, 0), 3);
        due("exposure", x.exposure(0), 0);
        refused(x, "withdraw again", NOT, m -> m.withdraw(0, 0));
        x.bell(0);
        refused(x, "withdraw, frozen", NOT, m -> m.withdraw(1, 1));
        due("withdraw in another column", x.withdraw(1, 2), 5);
        x.bell(0);
        refused(x, "withdraw, cleared", NOT, m -> m.withdraw(1, 1));
        due("events", x.events(), 7);
        number(x, 0, 0, 10);
        x.bid(1, 0, true, 2, 10);
        x.bid(2, 0, false, 2, 10);
        x.withdraw(1, 3);
        round(x, 0);
        due("what is withdrawn does not take part", x.round(1, 2), 0);
        due("got", x.got(3), 0);
    }

    private static void share() {
        Traced x = new Traced();
        due("share", x.share(0, true), false);
        due("share again", x.share(0, true), true);
        due("share of another column", x.share(1, true), false);
        due("share back", x.share(0, false), true);
        due("share back again", x.share(0, false), false);
        due("events", x.events(), 5);
        refused(x, "share, column -1", OUT, m -> m.share(-1, true));
        refused(x, "share, column 4", OUT, m -> m.share(4, true));
    }

    private static void sharingByOrder() {
        Traced x = new Traced();
        number(x, 0, 0, 50);
        int[] limits = {50, 60, 49, 60, 99, 50};
        for (int i = 0; i < 6; i++) {
            x.bid(i, 0, true, 10, limits[i]);
        }
        x.bid(0, 0, false, 15, 50);
        x.bid(1, 0, false, 14, 0);
        x.bid(2, 0, false, 4, 51);
        x.bid(3, 0, false, 1, 49);
        x.bid(4, 0, false, 5, 50);
        round(x, 0);
        due("volume", x.round(0, 2), 35);
        expectGot(x, 0, 5, 10, 0, 10, 10, 0, 15, 14, 0, 1, 5);
        x.bid(0, 0, true, 17, 50);
        x.bid(1, 0, false, 10, 50);
        x.bid(2, 0, false, 10, 40);
        x.bid(3, 0, false, 10, 40);
        round(x, 0);
        expectGot(x, 11, 17, 0, 10, 7);
    }

    private static void sharingByShares() {
        Traced x = new Traced();
        number(x, 0, 0, 50);
        x.share(0, true);
        x.bid(0, 0, true, 5, 50);
        x.bid(1, 0, true, 3, 99);
        x.bid(2, 0, true, 3, 50);
        x.bid(3, 0, true, 50, 49);
        x.bid(4, 0, false, 7, 50);
        round(x, 0);
        // 35, 21 and 21 elevenths: 3, 1 and 1 with remainders 2, 10 and 10
        expectGot(x, 0, 3, 2, 2, 0, 7);
        x.bid(0, 0, false, 1, 50);
        x.bid(1, 0, false, 1, 1);
        x.bid(2, 0, false, 1, 50);
        x.bid(3, 0, true, 2, 50);
        round(x, 0);
        // by remainders alike, those made first, whatever their limits
        expectGot(x, 5, 1, 1, 0, 2);
        x.bid(0, 0, false, 100, 50);
        x.bid(1, 0, true, 100, 60);
        round(x, 0);
        expectGot(x, 9, 100, 100);
        x.bid(0, 0, false, 100, 50);
        round(x, 0);
        expectGot(x, 11, 0);
        due("volume with one side alone", x.round(3, 2), 0);
        due("price with one side alone", x.round(3, 1), 50);
    }

    private static void shareCountsAtTheFreezing() {
        Traced x = new Traced();
        number(x, 0, 0, 50);
        x.bid(0, 0, true, 4, 50);
        x.bid(1, 0, true, 4, 60);
        x.bid(2, 0, false, 4, 50);
        x.bell(0);
        x.share(0, true);
        x.bell(0);
        expectGot(x, 0, 0, 4, 4);
        x.bid(0, 0, true, 4, 50);
        x.bid(1, 0, true, 4, 60);
        x.bid(2, 0, false, 4, 50);
        x.bell(0);
        x.share(0, false);
        x.bell(0);
        expectGot(x, 3, 2, 2, 4);
        int e = number(x, 3, 3, 1);
        due("reckoned again alike", x.strikeEdit(e), 0);
        expectGot(x, 0, 0, 4, 4, 2, 2, 4);
    }

    private static void bell() {
        Traced x = new Traced();
        due("bell", x.bell(3), Cellmarket.NONE);
        due("isFrozen", x.isFrozen(3), true);
        due("isFrozen", x.isFrozen(0), false);
        due("bell", x.bell(0), Cellmarket.NONE);
        due("bell", x.bell(0), 0);
        due("bell", x.bell(3), 1);
        due("isFrozen", x.isFrozen(3), false);
        due("column", x.round(0, 0), 0);
        due("column", x.round(1, 0), 3);
        due("events", x.events(), 4);
        refused(x, "bell(-1)", OUT, m -> m.bell(-1));
        refused(x, "bell(4)", OUT, m -> m.bell(4));
        for (int i = 2; i < 30; i++) {
            due("round", round(x, i % 4), i);
        }
        for (int c = 0; c < 4; c++) {
            int column = c;
            due("freezing is not refused", x.bell(c), Cellmarket.NONE);
            refused(x, "a 31st round", NOT, m -> m.bell(column));
            due("isFrozen", x.isFrozen(c), true);
        }
        refused(x, "bell(4)", OUT, m -> m.bell(4));
        due("the last round", x.round(29, 4), Cellmarket.EMPTY);
    }

    private static void bellTakesWhatHeldThen() {
        Traced x = new Traced();
        letAll(x);
        number(x, 1, 2, 30);
        formula(x, 0, 0, C, 1, 2, Cellmarket.BUYS, 1, 0, 8, 0, 0, Cellmarket.LAST, 1, 0, 8, 0, 0);
        number(x, 1, 0, 1000);
        x.bid(4, 1, true, 5, 1);
        x.bell(0);
        x.bid(4, 1, true, 50, 1);
        x.withdraw(4, 0);
        number(x, 1, 2, 31);
        x.give(1, 1, 2, 5);
        round(x, 1);
        due("value now", x.fault(0, 0, 0), 0);
        due("value now", x.value(0, 0, 0), 1031);
        x.let(5, 0, 1, 2, 2, false);
        due("value now", x.fault(0, 0, 0), Cellmarket.HIDDEN);
        int round = x.bell(0);
        due("price by what held at the freezing", x.round(round, 1), 35);
        x.strikeBid(0);
        due("struck, and withdrawn later", x.round(round, 1), 30);
        due("priceAnew", x.priceAnew(round), 30);
        x.bid(4, 0, true, 5, 1);
        round(x, 0);
        due("void", x.round(round + 1, 4), Cellmarket.HIDDEN);
    }

    private static void bellAndNotice() {
        Traced x = new Traced();
        number(x, 0, 0, 5);
        x.notice(0, 3);
        number(x, 0, 0, 6);
        wait(x, 1);
        x.bell(0);
        due("value ahead of it", x.value(0, 0, 0), 6);
        x.bell(0);
        due("not yet at the freezing", x.round(0, 1), 5);
        number(x, 0, 0, 7);
        wait(x, 2);
        x.bell(0);
        x.bell(0);
        due("just then", x.round(1, 1), 7);
    }

    private static void isFrozen() {
        Traced x = new Traced();
        for (int c = 0; c < 4; c++) {
            due("isFrozen", x.isFrozen(c), false);
            x.bell(c);
            due("isFrozen", x.isFrozen(c), true);
        }
        x.bell(2);
        due("isFrozen", x.isFrozen(2), false);
        due("isFrozen", x.isFrozen(1), true);
        due("events", x.events(), 5);
        refused(x, "isFrozen(-1)", OUT, m -> m.isFrozen(-1));
        refused(x, "isFrozen(4)", OUT, m -> m.isFrozen(4));
    }

    private static void round() {
        Traced x = new Traced();
        refused(x, "round, none cleared", OUT, m -> m.round(0, 0));
        x.bell(2);
        refused(x, "round, only frozen", OUT, m -> m.round(0, 0));
        x.bell(2);
        expectRound(x, 0, 2, -1, 0, 0, Cellmarket.EMPTY, 0);
        number(x, 2, 0, 21);
        x.bid(0, 2, true, 5, 21);
        x.bid(1, 2, true, 6, 22);
        x.bid(3, 2, false, 10, 20);
        number(x, 2, 1, 100);
        round(x, 2);
        // 4 * 21 * 100 / 1000 is 8.4, 6 * 21 * 100 / 1000 is 12.6
        expectRound(x, 1, 2, 21, 10, 100, 0, 20);
        number(x, 2, 0, -1);
        round(x, 2);
        expectRound(x, 2, 2, -1, 0, 0, Cellmarket.NEGATIVE, 0);
        number(x, 2, 0, 0);
        x.bid(0, 2, true, 5, 0);
        x.bid(3, 2, false, 5, 0);
        round(x, 2);
        expectRound(x, 3, 2, 0, 5, 100, 0, 0);
        for (int off : new int[] {-1, 6, Integer.MIN_VALUE, Integer.MAX_VALUE}) {
            refused(x, "round, what " + off, BAD, m -> m.round(0, off));
            refused(x, "round 4, what " + off, OUT, m -> m.round(4, off));
        }
        refused(x, "round -1", OUT, m -> m.round(-1, 0));
        refused(x, "round 4", OUT, m -> m.round(4, 0));
    }

    private static void roundVoidByFaults() {
        Traced x = new Traced();
        formula(x, 0, 0, C, 1, 0);
        round(x, 0);
        expectRound(x, 0, 0, -1, 0, 0, Cellmarket.HIDDEN, 0);
        formula(x, 0, 0, C, 0, 0);
        round(x, 0);
        expectRound(x, 1, 0, -1, 0, 0, Cellmarket.CIRCLE, 0);
        formula(x, 0, 0, N, 1, 0, N, 0, 0, 11, 0, 0);
        round(x, 0);
        expectRound(x, 2, 0, -1, 0, 0, Cellmarket.DIVISION, 0);
        formula(x, 0, 0, N, 1000000, 0, N, -1001, 0, 10, 0, 0);
        x.bid(0, 0, true, 1, 9999);
        x.bid(0, 0, false, 1, 0);
        round(x, 0);
        expectRound(x, 3, 0, -1, 0, 0, Cellmarket.RANGE, 0);
        number(x, 0, 0, 5);
        x.empty(0, 0, 0);
        number(x, 0, 1, 5);
        round(x, 0);
        expectRound(x, 4, 0, -1, 0, 0, Cellmarket.EMPTY, 0);
        formula(x, 0, 0, N, 1000000, 0, N, 1000, 0, 10, 0, 0);
        x.bid(0, 0, true, 1, 9999);
        x.bid(0, 0, false, 1, 0);
        round(x, 0);
        expectRound(x, 5, 0, 1000000000, 0, 5, 0, 0);
    }

    private static void roundFee() {
        Traced x = new Traced();
        number(x, 0, 0, 10);
        int[][] fees = {{-1, 0}, {0, 0}, {1, 1}, {999, 999}, {1000, 1000}, {1001, 1000}, {1000000, 1000}};
        for (int[] fee : fees) {
            number(x, 0, 1, fee[0]);
            due("fee of " + fee[0], x.round(round(x, 0), 3), fee[1]);
        }
        x.empty(0, 0, 1);
        due("fee of an empty cell", x.round(round(x, 0), 3), 0);
        formula(x, 0, 1, C, 1, 1);
        due("fee of a hidden cell", x.round(round(x, 0), 3), 0);
        formula(x, 0, 1, C, 0, 0);
        due("fee like the price", x.round(round(x, 0), 3), 10);
        formula(x, 0, 0, C, 0, 1);
        round(x, 0);
        due("price in a circle", x.round(10, 4), Cellmarket.CIRCLE);
    }

    private static void priceAnew() {
        Traced x = new Traced();
        refused(x, "priceAnew, none cleared", OUT, m -> m.priceAnew(0));
        formula(x, 0, 0, Cellmarket.LAST, 0, 0, N, 10, 0, 8, 0, 0);
        x.bid(0, 0, true, 4, 99);
        x.bid(1, 0, false, 3, 1);
        for (int i = 0; i < 5; i++) {
            round(x, 0);
        }
        for (int i = 0; i < 5; i++) {
            due("priceAnew(" + i + ")", x.priceAnew(i), 10 * (i + 1));
        }
        x.empty(0, 0, 0);
        round(x, 0);
        due("priceAnew without", x.priceAnew(5), Cellmarket.NONE);
        due("priceAnew of an early one", x.priceAnew(1), 20);
        unchanged(x, "priceAnew of an early one", m -> m.priceAnew(1));
        x.strikeEdit(0);
        due("priceAnew, struck", x.priceAnew(4), Cellmarket.NONE);
        refused(x, "priceAnew(-1)", OUT, m -> m.priceAnew(-1));
        refused(x, "priceAnew(6)", OUT, m -> m.priceAnew(6));
    }

    private static void got() {
        Traced x = new Traced();
        refused(x, "got, none made", OUT, m -> m.got(0));
        number(x, 0, 0, 10);
        x.bid(0, 0, true, 4, 10);
        x.bid(1, 0, false, 3, 10);
        due("got, open", x.got(0), 0);
        x.bell(0);
        due("got, frozen", x.got(0), 0);
        x.bell(0);
        due("got", x.got(0), 3);
        due("got", x.got(1), 3);
        round(x, 0);
        due("got once", x.got(0), 3);
        due("volume of the next one", x.round(1, 2), 0);
        x.strikeBid(1);
        due("got, struck", x.got(1), 0);
        due("got, the other one struck", x.got(0), 0);
        refused(x, "got(-1)", OUT, m -> m.got(-1));
        refused(x, "got(2)", OUT, m -> m.got(2));
    }

    // ---- settling, limits

    private static void due() {
        Traced x = new Traced();
        number(x, 0, 0, 7);
        number(x, 0, 1, 333);
        x.bid(1, 0, true, 3, 7);
        x.bid(1, 0, true, 3, 7);
        x.bid(2, 0, false, 6, 7);
        round(x, 0);
        // 21 * 333 / 1000 is 6.99, rounded down bid by bid
        due("who buys", x.due(1, 0), 54);
        due("who sells", x.due(2, 0), -42);
        due("who gets the fees", x.due(0, 0), -12);
        due("in another column", x.due(1, 1), 0);
        x.bid(0, 0, true, 10, 7);
        x.bid(0, 0, false, 10, 7);
        round(x, 0);
        due("from and to oneself", x.due(0, 0), -12);
        due("fees", x.round(1, 5), 23);
        number(x, 1, 0, 100);
        x.bid(2, 1, true, 1, 100);
        x.bid(1, 1, false, 1, 100);
        round(x, 1);
        due("by columns", x.due(1, 0), 54);
        due("by columns", x.due(1, 1), -100);
        due("by columns", x.due(2, 1), 100);
        refused(x, "due(-1, 0)", OUT, m -> m.due(-1, 0));
        refused(x, "due(6, 0)", OUT, m -> m.due(6, 0));
        refused(x, "due(0, -1)", OUT, m -> m.due(0, -1));
        refused(x, "due(0, 4)", OUT, m -> m.due(0, 4));
    }

    private static void settle() {
        Traced x = new Traced();
        due("settle nothing", x.settle(0), 0);
        due("settle is an act", x.events(), 1);
        number(x, 0, 0, 1);
        x.bid(0, 0, true, 13, 1);
        x.bid(1, 0, true, 6, 1);
        x.bid(2, 0, true, 3, 1);
        x.bid(3, 0, false, 17, 1);
        x.bid(4, 0, false, 5, 1);
        round(x, 0);
        // dues 13, 6, 3, -17, -5: tenths 1, 0, 0, -2, -1 with 3, 6, 3, 3, 5 cut off; 2 are lacking
        due("settle", x.settle(0), 2);
        expectCash(x, -1, -1, 0, 2, 0, 0);
        for (int o = 0; o < 6; o++) {
            due("due", x.due(o, 0), 0);
        }
        due("settle again", x.settle(0), 0);
        expectCash(x, -1, -1, 0, 2, 0, 0);
        refused(x, "settle(-1)", OUT, m -> m.settle(-1));
        refused(x, "settle(4)", OUT, m -> m.settle(4));
    }

    private static void settleTies() {
        Traced x = new Traced();
        number(x, 1, 0, 1);
        x.bid(5, 1, true, 4, 1);
        x.bid(3, 1, true, 4, 1);
        x.bid(2, 1, true, 4, 1);
        x.bid(0, 1, false, 12, 1);
        x.bell(1);
        due("settle while frozen", x.settle(1), 0);
        x.bell(1);
        due("settle another column", x.settle(0), 0);
        // dues -12, 4, 4, 4: tenths -2, 0, 0, 0 with 8, 4, 4, 4 cut off; 2 are lacking
        due("settle", x.settle(1), 1);
        expectCash(x, 1, 0, -1, 0, 0, 0);
        x.strikeBid(0);
        due("due anew", x.due(5, 1), -4);
        due("due anew", x.due(0, 1), 4);
        // tenths 0 and -1 with 4 and 6 cut off
        due("settle anew", x.settle(1), 0);
        expectCash(x, 1, 0, -1, 0, 0, 0);
        due("due", x.due(5, 1), 0);
        x.strikeBid(3);
        due("due anew", x.due(0, 1), 8);
        // dues 8, -4, -4: tenths 0, -1, -1 with 8, 6, 6 cut off; 2 are lacking
        due("settle anew", x.settle(1), 1);
        expectCash(x, 0, 0, -1, 1, 0, 0);
    }

    private static void cash() {
        Traced x = new Traced();
        number(x, 0, 0, 100);
        number(x, 1, 0, 100);
        x.bid(0, 0, true, 1, 100);
        x.bid(5, 0, false, 1, 100);
        x.bid(5, 1, true, 3, 100);
        x.bid(0, 1, false, 3, 100);
        round(x, 0);
        round(x, 1);
        due("not settled yet", x.cash(0), 0);
        x.settle(0);
        due("cash", x.cash(0), -10);
        due("cash", x.cash(5), 10);
        x.settle(1);
        due("cash", x.cash(0), 20);
        due("cash", x.cash(5), -20);
        refused(x, "cash(-1)", OUT, m -> m.cash(-1));
        refused(x, "cash(6)", OUT, m -> m.cash(6));
    }

    private static void limit() {
        Traced x = new Traced();
        due("limit", x.limit(0, 0), 100000);
        due("limit", x.limit(0, 1000000000), 0);
        due("limit", x.limit(0, 7), 1000000000);
        due("another's limit", x.limit(5, 7), 100000);
        refused(x, "limit of -1", BAD, m -> m.limit(0, -1));
        refused(x, "limit of 1000000001", BAD, m -> m.limit(0, 1000000001));
        refused(x, "limit, owner -1", OUT, m -> m.limit(-1, -1));
        refused(x, "limit, owner 6", OUT, m -> m.limit(6, 0));
        due("limit", x.limit(0, 8), 7);
        due("events", x.events(), 5);
        x.limit(1, 1000000000);
        for (int i = 0; i < 79; i++) {
            x.bid(1, 0, true, 100, 9999);
        }
        due("exposure", x.exposure(1), 79 * 999900);
        x.limit(1, 80 * 999900 - 1);
        refused(x, "one too much", NOT, m -> m.bid(1, 0, true, 100, 9999));
        x.limit(1, 80 * 999900);
        due("just enough", x.bid(1, 0, true, 100, 9999), 79);
    }

    private static void exposure() {
        Traced x = new Traced();
        number(x, 0, 0, 50);
        number(x, 1, 0, 50);
        x.bid(0, 0, true, 3, 70);
        x.bid(0, 1, true, 2, 60);
        x.bid(0, 2, false, 5, 90);
        due("bids to buy", x.exposure(0), 330);
        x.withdraw(0, 1);
        due("not those withdrawn", x.exposure(0), 210);
        x.bell(0);
        due("those frozen too", x.exposure(0), 210);
        x.bell(0);
        due("not those cleared", x.exposure(0), 0);
        x.bid(0, 0, true, 3, 70);
        x.bid(1, 0, false, 3, 10);
        round(x, 0);
        due("dues", x.exposure(0), 150);
        due("dues below 0", x.exposure(1), 0);
        x.bid(0, 1, false, 9, 10);
        x.bid(1, 1, true, 9, 60);
        round(x, 1);
        due("a due below 0 takes nothing off", x.exposure(0), 150);
        due("dues", x.exposure(1), 450);
        x.settle(0);
        due("not those settled", x.exposure(0), 0);
        refused(x, "exposure(-1)", OUT, m -> m.exposure(-1));
        refused(x, "exposure(6)", OUT, m -> m.exposure(6));
    }

    // ---- disputes

    private static void strikeBid() {
        Traced x = new Traced();
        refused(x, "strikeBid, none made", OUT, m -> m.strikeBid(0));
        number(x, 0, 0, 10);
        x.bid(0, 0, true, 4, 20);
        x.bid(1, 0, true, 4, 10);
        x.bid(2, 0, false, 5, 10);
        x.bid(3, 0, true, 4, 10);
        x.bid(4, 0, true, 4, 9);
        x.withdraw(3, 3);
        refused(x, "strikeBid, open", NOT, m -> m.strikeBid(0));
        x.bell(0);
        refused(x, "strikeBid, frozen", NOT, m -> m.strikeBid(0));
        x.bell(0);
        expectGot(x, 0, 4, 1, 5, 0, 0);
        due("strike one that has got nothing", x.strikeBid(4), 0);
        due("strike one that was withdrawn", x.strikeBid(3), 0);
        refused(x, "strikeBid again", NOT, m -> m.strikeBid(3));
        due("strikeBid", x.strikeBid(0), 1);
        expectGot(x, 0, 0, 4, 4, 0, 0);
        due("volume", x.round(0, 2), 4);
        due("due", x.due(0, 0), 0);
        due("due", x.due(1, 0), 40);
        refused(x, "strikeBid again", NOT, m -> m.strikeBid(0));
        refused(x, "strikeBid(-1)", OUT, m -> m.strikeBid(-1));
        refused(x, "strikeBid(5)", OUT, m -> m.strikeBid(5));
        due("the volume alike, others get it", fourOfTwo(), 1);
    }

    /** Strikes a bid, so that the volume stays and other bids get it. */
    private static int fourOfTwo() {
        Traced x = new Traced();
        number(x, 0, 0, 10);
        x.bid(0, 0, true, 4, 20);
        x.bid(1, 0, true, 4, 10);
        x.bid(2, 0, false, 4, 10);
        round(x, 0);
        int changed = x.strikeBid(0);
        due("volume", x.round(0, 2), 4);
        expectGot(x, 0, 0, 4, 4);
        return changed;
    }

    private static void strikeBidOfOthersThen() {
        Traced x = new Traced();
        formula(x, 0, 0, Cellmarket.BUY, 1, 0);
        formula(x, 2, 0, Cellmarket.LAST, 0, 0, N, 1, 0, 8, 0, 0);
        x.bid(1, 1, true, 1, 30);
        x.bell(0);
        x.bid(1, 1, true, 1, 40);
        x.bell(1);
        x.bell(0);
        x.bell(2);
        x.bell(2);
        due("price", x.round(0, 1), 30);
        due("price", x.round(1, 1), 31);
        refused(x, "its round was not cleared", NOT, m -> m.strikeBid(0));
        x.bell(1);
        due("a bid made later changes nothing", x.strikeBid(1), 0);
        due("a bid in another column", x.strikeBid(0), 2);
        due("price", x.round(0, 1), 0);
        due("price", x.round(1, 1), 1);
        due("priceAnew", x.priceAnew(1), 1);
        due("reason", x.round(2, 4), Cellmarket.EMPTY);
    }

    private static void strikeAheadOfClearing() {
        Traced x = new Traced();
        formula(x, 0, 0, Cellmarket.BUYS, 1, 0, N, 10, 0, 8, 0, 0);
        number(x, 0, 1, 50);
        x.bid(1, 1, true, 7, 1);
        x.bell(0);
        round(x, 1);
        due("nothing cleared changes", x.strikeBid(0), 0);
        due("nothing cleared changes", x.strikeEdit(1), 0);
        due("bell", x.bell(0), 1);
        due("what was struck while frozen counts no more", x.round(1, 1), 10);
        due("fee", x.round(1, 3), 0);
    }

    private static void strikeEdit() {
        Traced x = new Traced();
        refused(x, "strikeEdit, none told", OUT, m -> m.strikeEdit(0));
        number(x, 0, 0, 10);
        number(x, 0, 1, 100);
        number(x, 0, 0, 12);
        number(x, 0, 5, 1);
        x.bid(0, 0, true, 4, 11);
        x.bid(1, 0, false, 4, 5);
        round(x, 0);
        due("volume", x.round(0, 2), 0);
        due("strike one that matters not", x.strikeEdit(3), 0);
        due("strike a price", x.strikeEdit(2), 1);
        due("price", x.round(0, 1), 10);
        due("volume", x.round(0, 2), 4);
        due("got", x.got(0), 4);
        due("due", x.due(0, 0), 40);
        due("due", x.due(1, 0), -40);
        x.bid(2, 0, true, 10, 11);
        x.bid(1, 0, false, 10, 5);
        round(x, 0);
        due("due", x.due(2, 0), 110);
        due("strike a fee", x.strikeEdit(1), 2);
        due("due", x.due(2, 0), 100);
        x.settle(0);
        due("strike all prices", x.strikeEdit(0), 2);
        due("what was settled stays", x.cash(2), -10);
        due("due", x.due(2, 0), -100);
        due("reason", x.round(1, 4), Cellmarket.EMPTY);
        x.settle(0);
        due("settled anew", x.cash(2), 0);
        refused(x, "strikeEdit again", NOT, m -> m.strikeEdit(0));
        refused(x, "strikeEdit(-1)", OUT, m -> m.strikeEdit(-1));
        refused(x, "strikeEdit(4)", OUT, m -> m.strikeEdit(4));
        x.bell(0);
        number(x, 1, 0, 5);
        due("strike while another is frozen", x.strikeEdit(4), 0);
    }

    private static void strikeAnEmptying() {
        Traced x = new Traced();
        number(x, 0, 0, 10);
        x.empty(0, 0, 0);
        round(x, 0);
        due("reason", x.round(0, 4), Cellmarket.EMPTY);
        due("strike", x.strikeEdit(1), 1);
        due("price", x.round(0, 1), 10);
        number(x, 0, 0, -5);
        round(x, 0);
        due("reason", x.round(1, 4), Cellmarket.NEGATIVE);
        x.empty(0, 0, 0);
        round(x, 0);
        formula(x, 0, 0, C, 1, 1);
        round(x, 0);
        due("reason", x.round(3, 4), Cellmarket.HIDDEN);
        due("another reason alone is no change", x.strikeEdit(4), 0);
        due("reason", x.round(3, 4), Cellmarket.EMPTY);
        due("the void get a price", x.strikeEdit(3), 0);
        due("reason", x.round(2, 4), Cellmarket.NEGATIVE);
        due("the void get a price", x.strikeEdit(2), 3);
        due("price", x.round(3, 1), 10);
    }

    private static void events() {
        Traced x = new Traced();
        due("events", x.events(), 0);
        x.give(0, 0, 5, 0);
        x.let(0, 1, 0, 0, 0, true);
        x.word(N, 5, 0);
        x.enter(0, 0, 0);
        x.empty(1, 1, 0);
        x.notice(0, 0);
        x.share(0, false);
        x.bid(0, 0, true, 1, 5);
        x.withdraw(0, 0);
        x.bell(0);
        x.bell(0);
        x.settle(0);
        x.limit(0, 5);
        x.strikeBid(0);
        x.strikeEdit(0);
        due("acts", x.events(), 14);
        x.wipe();
        x.ownerOf(0, 0);
        x.reads(0, 0, 0);
        x.value(0, 0, 0);
        x.fault(0, 0, 0);
        x.edits(0, 0);
        x.edit(0, 0, 0, 0);
        x.isFrozen(0);
        x.round(0, 0);
        x.priceAnew(0);
        x.got(0);
        x.due(0, 0);
        x.cash(0);
        x.exposure(0);
        due("what is asked is no act", x.events(), 14);
        refused(x, "give", NOT, m -> m.give(5, 0, 0, 0));
        due("what is refused is no act", x.events(), 14);
    }

    private static void promisesOfCells() {
        where = "promise 1";
        newObject();
        where = "promise 2";
        give();
        giveTakesFees();
        where = "promise 3";
        let();
        letRefused();
        where = "promise 4";
        ownerOf();
        where = "promise 5";
        reads();
    }

    private static void promisesOfFormulas() {
        where = "promise 6";
        word();
        where = "promise 7";
        wipe();
        where = "promise 8";
        enter();
        sixtyEdits();
        where = "promise 9";
        empty();
        where = "promise 10";
        notice();
        laterToldCounts();
        where = "promise 11";
        reckoning();
        value();
        valueOfTheMarket();
        valueOfLast();
        where = "promise 12";
        fault();
        faultOfRange();
        faultIsAskedBy();
        longChain();
        pileOfEachCell();
        where = "promise 13";
        edits();
        where = "promise 14";
        edit();
    }

    private static void promisesOfRounds() {
        where = "promise 15";
        bid();
        bidAndLimit();
        bidAndDues();
        eightyBids();
        where = "promise 16";
        withdraw();
        where = "promise 17";
        share();
        sharingByOrder();
        sharingByShares();
        shareCountsAtTheFreezing();
        where = "promise 18";
        bell();
        bellTakesWhatHeldThen();
        bellAndNotice();
        where = "promise 19";
        isFrozen();
        where = "promise 20";
        round();
        roundVoidByFaults();
        roundFee();
        where = "promise 21";
        priceAnew();
        where = "promise 22";
        got();
    }

    private static void promisesOfSettling() {
        where = "promise 23";
        due();
        where = "promise 24";
        settle();
        settleTies();
        where = "promise 25";
        cash();
        where = "promise 26";
        limit();
        where = "promise 27";
        exposure();
        where = "promise 28";
        strikeBid();
        strikeBidOfOthersThen();
        strikeAheadOfClearing();
        where = "promise 29";
        strikeEdit();
        strikeAnEmptying();
        where = "promise 30";
        events();
    }

    public static void main(String[] args) {
        promisesOfCells();
        promisesOfFormulas();
        promisesOfRounds();
        promisesOfSettling();
        System.out.println("PromisesTest: " + checks + " checks, " + wrong + " wrong");
        if (wrong != 0) {
            System.exit(1);
        }
    }
}
