/** The lines of the promises 1 to 14 that name an edge: cells and formulas. */
final class EdgesOfCells extends Check {
    private EdgesOfCells() {
    }

    static void all() {
        newObject();
        give();
        let();
        ownerOf();
        reads();
        word();
        wipe();
        enter();
        empty();
        notice();
        value();
        fault();
        edits();
        edit();
    }

    private static int within(int number, int last) {
        return Math.max(0, Math.min(last, number));
    }

    // ---- cells

    private static void newObject() {
        about(1, "`Cellmarket()`: All cells are empty, and nobody reads those of others.", () -> {
            Traced x = fresh();
            for (int i = 0; i < 24; i++) {
                due("value", x.value(i / 6, i / 6, i % 6), 0);
                due("edits", x.edits(i / 6, i % 6), 0);
                for (int o = 0; o < 6; o++) {
                    due("reads", x.reads(o, i / 6, i % 6), o == i / 6);
                }
            }
            for (int c = 0; c < 4; c++) {
                due("void", x.round(round(x, c), 4), Cellmarket.EMPTY);
            }
            Traced y = fresh();
            x.give(0, 0, 0, 4);
            due("another object is not changed", y.ownerOf(0, 0), 0);
            due("and has its own events", y.events(), 0);
        });
    }

    private static void give() {
        about(2, "Gives a cell to another owner. This is an act.", () -> {
            Traced x = fresh();
            x.give(3, 3, 5, 0);
            due("ownerOf", x.ownerOf(3, 5), 0);
            due("the row ahead", x.ownerOf(3, 4), 3);
            due("events", x.events(), 1);
        });
        about(2, "- `owner`: its owner", () -> {
            Traced x = fresh();
            for (int o = 1; o < 6; o++) {
                int owner = o;
                refused(x, "give by owner " + o, NOT, m -> m.give(owner, 0, 0, 4));
            }
            allowed(x, "give by owner 0", m -> m.give(0, 0, 0, 4));
            x.give(0, 0, 0, 5);
            refused(x, "give by its former owner", NOT, m -> m.give(0, 0, 0, 4));
            allowed(x, "give by owner 5", m -> m.give(5, 0, 0, 4));
            refused(x, "give by owner -1", OUT, m -> m.give(-1, 0, 0, 4));
            refused(x, "give by owner 6", OUT, m -> m.give(6, 0, 0, 4));
        });
        about(2, "- `column`: 0 to 3", () -> range(Check::fresh, "column", 0, 3, OUT, (m, v) -> m.give(within(v, 3), v, 0, 4)));
        about(2, "- `row`: 0 to 5", () -> range(Check::fresh, "row", 0, 5, OUT, (m, v) -> m.give(0, 0, v, 4)));
        about(2, "- `other`: 0 to 5", () -> range(Check::fresh, "other", 0, 5, OUT, (m, v) -> m.give(1, 1, 0, v)));
        about(2, "Returns how many cells the other one has then.", () -> {
            Traced x = fresh();
            due("the first one of an owner without", x.give(0, 0, 0, 5), 1);
            due("one more than those of their column", x.give(0, 0, 1, 1), 7);
            for (int i = 2; i < 24; i++) {
                due("one more", x.give(i / 6, i / 6, i % 6, 5), i);
            }
            due("all but one", x.give(1, 0, 1, 5), 24);
            due("to oneself, who has all", x.give(5, 0, 1, 5), 24);
            due("the first one again", x.give(5, 0, 1, 1), 1);
        });
        about(2, "Throws `IndexOutOfBoundsException` if there is no such owner, of either, column or row", () -> {
            Traced x = fresh();
            refused(x, "by nobody", OUT, m -> m.give(6, 0, 0, 4));
            refused(x, "by nobody, to nobody", OUT, m -> m.give(-1, 0, 0, -1));
            refused(x, "of no column, to the owner", OUT, m -> m.give(0, 4, 0, 0));
            refused(x, "of no row, not the owner's", OUT, m -> m.give(1, 0, 6, 4));
            refused(x, "to nobody, not the owner's", OUT, m -> m.give(1, 0, 0, -1));
        });
        about(2, "Throws `IllegalStateException` if it is not the owner's cell", () -> {
            Traced x = fresh();
            refused(x, "another's", NOT, m -> m.give(0, 1, 0, 4));
            refused(x, "another's, to the owner", NOT, m -> m.give(0, 1, 0, 1));
            refused(x, "another's, to oneself", NOT, m -> m.give(0, 1, 0, 0));
            x.let(1, 0, 1, 0, 0, true);
            refused(x, "another's that one reads", NOT, m -> m.give(0, 1, 0, 0));
        });
    }

    private static void let() {
        about(3, "Lets another owner read cells, or no more: those of the owner in the rows, now. This is an act.", () -> {
            Traced x = fresh();
            x.give(0, 0, 2, 1);
            x.let(0, 5, 0, 1, 3, true);
            x.give(1, 0, 2, 0);
            for (int r = 0; r < 6; r++) {
                due("reads row " + r, x.reads(5, 0, r), r == 1 || r == 3);
            }
            x.let(0, 5, 0, 0, 2, false);
            for (int r = 0; r < 6; r++) {
                due("reads row " + r, x.reads(5, 0, r), r == 3);
            }
            due("events", x.events(), 4);
        });
        about(3, "- `owner`: 0 to 5", () -> range(Check::fresh, "owner", 0, 5, OUT, (m, v) -> m.let(v, v == 1 ? 2 : 1, 0, 0, 0, true)));
        about(3, "- `other`: 0 to 5, another one", () -> {
            range(Check::fresh, "other", 0, 5, OUT, (m, v) -> m.let(1, v, 0, 0, 0, true));
            for (int o = 0; o < 6; o++) {
                int owner = o;
                refused(fresh(), "the same one", BAD, m -> m.let(owner, owner, 0, 0, 0, true));
            }
        });
        about(3, "- `column`: 0 to 3", () -> range(Check::fresh, "column", 0, 3, OUT, (m, v) -> m.let(1, 0, v, 0, 0, true)));
        about(3, "- `from`: 0 to 5", () -> range(Check::fresh, "from", 0, 5, OUT, (m, v) -> m.let(1, 0, 0, v, 5, true)));
        about(3, "- `to`: from to 5", () -> {
            range(Check::fresh, "to", 0, 5, OUT, (m, v) -> m.let(1, 0, 0, 0, v, true));
            for (int f = 0; f < 6; f++) {
                int from = f;
                allowed(fresh(), "from " + f + " to itself", m -> m.let(1, 0, 0, from, from, true));
                if (f > 0) {
                    refused(fresh(), "from " + f + " to one less", BAD, m -> m.let(1, 0, 0, from, from - 1, true));
                    refused(fresh(), "from " + f + " to 0", BAD, m -> m.let(1, 0, 0, from, 0, true));
                }
            }
        });
        about(3, "- `is`: whether they read them from now on", () -> {
            Traced x = fresh();
            x.let(1, 0, 1, 4, 4, true);
            due("true", x.reads(0, 1, 4), true);
            x.let(1, 0, 1, 4, 4, true);
            due("true again", x.reads(0, 1, 4), true);
            x.let(1, 0, 1, 4, 4, false);
            due("false", x.reads(0, 1, 4), false);
            x.let(1, 0, 1, 4, 4, false);
            due("false again", x.reads(0, 1, 4), false);
        });
        about(3, "Returns how many cells that are.", () -> {
            Traced x = fresh();
            due("all rows", x.let(0, 1, 0, 0, 5, true), 6);
            due("the same ones again", x.let(0, 1, 0, 0, 5, true), 6);
            due("one row", x.let(0, 1, 0, 5, 5, true), 1);
            due("none of their own", x.let(0, 1, 1, 0, 5, true), 0);
            due("by an owner without cells", x.let(5, 1, 0, 0, 5, false), 0);
            x.give(0, 0, 0, 5);
            due("all but the first", x.let(0, 1, 0, 0, 5, false), 5);
            due("the first alone", x.let(5, 1, 0, 0, 5, false), 1);
            due("rows without it", x.let(5, 1, 0, 1, 5, false), 0);
        });
        about(3, "Throws `IndexOutOfBoundsException` if there is no such owner, of either, column or row", () -> {
            Traced x = fresh();
            refused(x, "both owners the same, and none", OUT, m -> m.let(6, 6, 0, 0, 0, true));
            refused(x, "to below from, and no row", OUT, m -> m.let(0, 1, 0, 0, -1, true));
            refused(x, "from above to, and no row", OUT, m -> m.let(0, 1, 0, 6, 5, true));
        });
        about(3, "Throws `IllegalArgumentException` if both owners are the same, or to is below from", () -> {
            Traced x = fresh();
            refused(x, "both", BAD, m -> m.let(2, 2, 2, 3, 2, true));
            refused(x, "the same, all rows", BAD, m -> m.let(2, 2, 2, 0, 5, false));
            refused(x, "to below from, no cell of theirs", BAD, m -> m.let(5, 4, 2, 5, 4, false));
        });
    }

    private static void ownerOf() {
        about(4, "Returns the owner of a cell.", () -> {
            Traced x = fresh();
            due("the first cell", x.ownerOf(0, 0), 0);
            due("the last cell", x.ownerOf(3, 5), 3);
            x.give(3, 3, 5, 5);
            x.give(0, 0, 0, 4);
            due("the first cell", x.ownerOf(0, 0), 4);
            due("the last cell", x.ownerOf(3, 5), 5);
            unchanged(x, "ownerOf", m -> m.ownerOf(3, 5));
        });
        about(4, "- `column`: 0 to 3", () -> range(Check::fresh, "column", 0, 3, OUT, (m, v) -> m.ownerOf(v, 5)));
        about(4, "- `row`: 0 to 5", () -> range(Check::fresh, "row", 0, 5, OUT, (m, v) -> m.ownerOf(3, v)));
        about(4, "Returns the owner.", () -> {
            Traced x = fresh();
            for (int o = 5; o >= 0; o--) {
                x.give(x.ownerOf(1, 1), 1, 1, o);
                due("ownerOf", x.ownerOf(1, 1), o);
            }
        });
        about(4, "Throws `IndexOutOfBoundsException` if there is no such column or row", () -> {
            refused(fresh(), "neither", OUT, m -> m.ownerOf(4, 6));
            refused(fresh(), "neither", OUT, m -> m.ownerOf(-1, -1));
        });
    }

    private static void reads() {
        about(5, "Returns whether an owner reads a cell.", () -> {
            Traced x = fresh();
            for (int o = 0; o < 6; o++) {
                due("reads", x.reads(o, 2, 0), o == 2);
            }
            for (int o = 0; o < 6; o++) {
                if (o != 2) {
                    x.let(2, o, 2, 0, 0, true);
                }
                due("reads", x.reads(o, 2, 0), true);
                due("the next row", x.reads(o, 2, 1), o == 2);
            }
        });
        about(5, "- `owner`: 0 to 5", () -> range(Check::fresh, "owner", 0, 5, OUT, (m, v) -> m.reads(v, 0, 0)));
        about(5, "- `column`: 0 to 3", () -> range(Check::fresh, "column", 0, 3, OUT, (m, v) -> m.reads(0, v, 0)));
        about(5, "- `row`: 0 to 5", () -> range(Check::fresh, "row", 0, 5, OUT, (m, v) -> m.reads(0, 0, v)));
        about(5, "Returns whether they do.", () -> {
            Traced x = fresh();
            due("their own", x.reads(3, 3, 5), true);
            due("another's", x.reads(3, 2, 5), false);
            due("by an owner without cells", x.reads(5, 3, 5), false);
            unchanged(x, "reads", m -> m.reads(3, 2, 5));
        });
        about(5, "Throws `IndexOutOfBoundsException` if there is no such owner, column or row", () -> {
            refused(fresh(), "none of them", OUT, m -> m.reads(6, 4, 6));
            refused(fresh(), "an owner alone", OUT, m -> m.reads(6, 3, 5));
            refused(fresh(), "not read, and no row", OUT, m -> m.reads(5, 3, 6));
        });
    }

    // ---- formulas

    private static Traced twoNumbers() {
        Traced x = fresh();
        write(x, N, 1, 0, N, 2, 0);
        return x;
    }

    private static Traced threeNumbers() {
        Traced x = twoNumbers();
        x.word(N, 3, 0);
        return x;
    }

    private static void word() {
        about(6, "Puts a word at the end of the draft.", () -> {
            Traced x = fresh();
            write(x, N, 9, 0, N, 4, 0);
            due("the third", x.word(MINUS, 0, 0), 3);
            x.enter(0, 0, 0);
            due("9 - 4", x.value(0, 0, 0), 5);
            due("no act but enter", x.events(), 1);
        });
        about(6, "- `what`: NUMBER to WHEN", () -> range(EdgesOfCells::threeNumbers, "what", 0, 14, BAD, (m, v) -> m.word(v, 0, 0)));
        about(6, "- `one`: -1000000 to 1000000 for NUMBER; 0 to 3 for CELL to LAST: the column; for others it does not matter", () -> {
            range(Check::fresh, "NUMBER", -1000000, 1000000, BAD, (m, v) -> m.word(N, v, 0));
            for (int w = C; w <= Cellmarket.LAST; w++) {
                int what = w;
                range(Check::fresh, "the column of word " + w, 0, 3, BAD, (m, v) -> m.word(what, v, 0));
            }
            for (int w = PLUS; w <= WHEN; w++) {
                for (int one : new int[] {Integer.MIN_VALUE, -1000001, -1, 4, 1000001, Integer.MAX_VALUE}) {
                    int what = w;
                    allowed(threeNumbers(), "word " + w + " with " + one, m -> m.word(what, one, 0));
                }
            }
        });
        about(6, "- `two`: 0 to 5 for CELL: the row; for others it does not matter", () -> {
            range(Check::fresh, "the row of CELL", 0, 5, BAD, (m, v) -> m.word(C, 3, v));
            for (int w = 0; w <= WHEN; w++) {
                for (int two : new int[] {Integer.MIN_VALUE, -1, 6, Integer.MAX_VALUE}) {
                    int what = w;
                    if (w != C) {
                        allowed(threeNumbers(), "word " + w + " with " + two, m -> m.word(what, 0, two));
                    }
                }
            }
        });
        about(6, "Returns how many words it has then.", () -> {
            Traced x = fresh();
            for (int i = 1; i <= 12; i++) {
                due("words", i % 2 == 1 ? x.word(N, i, 0) : i == 2 ? x.word(N, 1, 0) : x.word(PLUS, 0, 0), i);
            }
            refused(x, "a 13th", NOT, m -> m.word(N, 0, 0));
            x.wipe();
            due("the first again", x.word(N, 0, 0), 1);
            x.enter(0, 0, 0);
            due("the first again", x.word(N, 0, 0), 1);
        });
        about(6, "Throws `IllegalArgumentException` if what, one or two is out of range", () -> {
            refused(fresh(), "all of them", BAD, m -> m.word(15, 4, 6));
            refused(fresh(), "CELL with no column and no row", BAD, m -> m.word(C, 4, 6));
            refused(fresh(), "what -1, though nothing is on the pile", BAD, m -> m.word(-1, 0, 0));
        });
        about(6, "Throws `IllegalStateException` if it has 12, or there is not enough on the pile", EdgesOfCells::pile);
    }

    private static void pile() {
        for (int height = 0; height <= 4; height++) {
            Traced x = fresh();
            for (int i = 0; i < height; i++) {
                x.word(N, i, 0);
            }
            for (int w = PLUS; w <= WHEN; w++) {
                int what = w;
                if (height < (w == WHEN ? 3 : 2)) {
                    refused(x, "word " + w + " with " + height + " on the pile", NOT, m -> m.word(what, 0, 0));
                } else {
                    allowed(x, "word " + w + " with " + height + " on the pile", m -> m.word(what, 0, 0));
                }
            }
        }
        Traced x = fresh();
        write(x, N, 1, 0, N, 2, 0, N, 3, 0, WHEN, 0, 0);
        refused(x, "WHEN leaves one", NOT, m -> m.word(PLUS, 0, 0));
        write(x, N, 1, 0, PLUS, 0, 0);
        refused(x, "PLUS leaves one", NOT, m -> m.word(PLUS, 0, 0));
        write(x, N, 1, 0, N, 2, 0, N, 3, 0, N, 4, 0, N, 5, 0);
        allowed(x, "the 12th", m -> m.word(WHEN, 0, 0));
        x.word(PLUS, 0, 0);
        due("twelve", x.wipe(), 12);
        for (int i = 0; i < 12; i++) {
            x.word(C, 0, 0);
        }
        for (int w = 0; w <= WHEN; w++) {
            int what = w;
            refused(x, "a 13th, " + w, NOT, m -> m.word(what, 0, 0));
        }
    }

    private static void wipe() {
        about(7, "Empties the draft; returns how many words it had.", () -> {
            Traced x = fresh();
            due("none", x.wipe(), 0);
            for (int many = 1; many <= 12; many++) {
                for (int i = 0; i < many; i++) {
                    x.word(N, i, 0);
                }
                due("words", x.wipe(), many);
                due("none then", x.wipe(), 0);
            }
            refused(x, "nothing is on the pile", NOT, m -> m.word(PLUS, 0, 0));
            refused(x, "nothing to enter", NOT, m -> m.enter(0, 0, 0));
            due("no act", x.events(), 0);
        });
    }

    private static Traced draft() {
        Traced x = fresh();
        x.word(N, 7, 0);
        return x;
    }

    private static void enter() {
        about(8, "Tells the draft as the formula of a cell; the draft is empty then. This is an act.", () -> {
            Traced x = draft();
            x.enter(0, 0, 5);
            due("value", x.value(0, 0, 5), 7);
            due("events", x.events(), 1);
            due("the draft", x.wipe(), 0);
            x.word(N, 8, 0);
            due("the formula does not change with the next draft", x.value(0, 0, 5), 7);
            x.enter(0, 0, 4);
            due("the formula does not change with the next draft", x.value(0, 0, 5), 7);
            due("nor the next one", x.value(0, 0, 4), 8);
        });
        about(8, "- `owner`: its owner", () -> {
            for (int o = 1; o < 6; o++) {
                int owner = o;
                refused(draft(), "enter by owner " + o, NOT, m -> m.enter(owner, 0, 0));
            }
            refused(draft(), "enter by owner -1", OUT, m -> m.enter(-1, 0, 0));
            refused(draft(), "enter by owner 6", OUT, m -> m.enter(6, 0, 0));
            Traced x = draft();
            x.give(0, 0, 0, 5);
            x.let(5, 0, 0, 0, 0, true);
            refused(x, "enter by its former owner, who reads it", NOT, m -> m.enter(0, 0, 0));
            due("enter by its owner", x.enter(5, 0, 0), 0);
        });
        about(8, "- `column`: 0 to 3", () -> range(EdgesOfCells::draft, "column", 0, 3, OUT, (m, v) -> m.enter(within(v, 3), v, 0)));
        about(8, "- `row`: 0 to 5", () -> range(EdgesOfCells::draft, "row", 0, 5, OUT, (m, v) -> m.enter(0, 0, v)));
        about(8, "Returns the number of the edit.", () -> {
            Traced x = fresh();
            due("the first", number(x, 3, 5, 1), 0);
            due("the second, of another column", number(x, 0, 0, 1), 1);
            x.empty(0, 0, 0);
            due("behind an emptying", number(x, 0, 0, 1), 3);
            refused(x, "a refused one has no number", NOT, m -> m.enter(0, 0, 0));
            x.strikeEdit(3);
            due("behind one that is struck", number(x, 0, 0, 1), 4);
            due("its number", x.edit(0, 0, 3, 0), 4);
        });
        about(8, "Throws `IndexOutOfBoundsException` if there is no such owner, column or row", () -> {
            Traced x = twoNumbers();
            refused(x, "two numbers, no owner", OUT, m -> m.enter(6, 0, 0));
            refused(x, "two numbers, no column", OUT, m -> m.enter(0, 4, 0));
            refused(x, "two numbers, no row", OUT, m -> m.enter(0, 0, 6));
            x.bell(0);
            refused(x, "frozen, no row", OUT, m -> m.enter(0, 0, -1));
        });
        about(8, "Throws `IllegalStateException` if it is not the owner's cell, the column is frozen, the draft leaves not just one number on the pile, or 60 edits were told", EdgesOfCells::enterRefused);
    }

    private static void enterRefused() {
        refused(fresh(), "an empty draft", NOT, m -> m.enter(0, 0, 0));
        refused(twoNumbers(), "two numbers", NOT, m -> m.enter(0, 0, 0));
        refused(threeNumbers(), "three numbers", NOT, m -> m.enter(0, 0, 0));
        refused(draft(), "not the owner's", NOT, m -> m.enter(0, 1, 0));
        allowed(draft(), "one number", m -> m.enter(0, 0, 0));
        Traced x = twoNumbers();
        x.word(MINUS, 0, 0);
        allowed(x, "one number of three words", m -> m.enter(0, 0, 0));
        x.wipe();
        for (int i = 0; i < 12; i++) {
            x.word(N, i, 0);
        }
        refused(x, "twelve numbers", NOT, m -> m.enter(0, 0, 0));
        x.wipe();
        write(x, N, 9, 0, N, 1, 0, N, 2, 0, N, 3, 0, N, 4, 0, N, 5, 0, N, 6, 0, N, 7, 0, WHEN, 0, 0, WHEN, 0, 0, WHEN, 0, 0, PLUS, 0, 0);
        due("one number of twelve words", x.enter(0, 0, 0), 0);
        due("value", x.value(0, 0, 0), 9 + 2);
        x.word(N, 1, 0);
        x.bell(0);
        refused(x, "frozen", NOT, m -> m.enter(0, 0, 0));
        allowed(x, "another one is frozen", m -> m.enter(1, 1, 0));
        x.bell(0);
        allowed(x, "open again", m -> m.enter(0, 0, 0));
        for (int i = 1; i < 59; i++) {
            x.empty(1, 1, 1);
        }
        allowed(x, "the 60th", m -> m.enter(0, 0, 0));
        x.empty(1, 1, 1);
        refused(x, "the 61st", NOT, m -> m.enter(0, 0, 0));
    }

    private static void empty() {
        about(9, "Tells that a cell is empty. This is an act.", () -> {
            Traced x = fresh();
            number(x, 1, 1, 5);
            x.word(N, 3, 0);
            due("empty", x.empty(1, 1, 1), 1);
            due("value", x.value(1, 1, 1), 0);
            due("events", x.events(), 2);
            due("the draft stays", x.wipe(), 1);
            due("empty what is empty", x.empty(1, 1, 1), 2);
            due("events", x.events(), 3);
        });
        about(9, "- `owner`: its owner", () -> {
            for (int o = 1; o < 6; o++) {
                int owner = o;
                refused(fresh(), "empty by owner " + o, NOT, m -> m.empty(owner, 0, 0));
            }
            refused(fresh(), "empty by owner -1", OUT, m -> m.empty(-1, 0, 0));
            refused(fresh(), "empty by owner 6", OUT, m -> m.empty(6, 0, 0));
            Traced x = fresh();
            x.give(0, 0, 0, 5);
            refused(x, "empty by its former owner", NOT, m -> m.empty(0, 0, 0));
            due("empty by its owner", x.empty(5, 0, 0), 0);
        });
        about(9, "- `column`: 0 to 3", () -> range(Check::fresh, "column", 0, 3, OUT, (m, v) -> m.empty(within(v, 3), v, 0)));
        about(9, "- `row`: 0 to 5", () -> range(Check::fresh, "row", 0, 5, OUT, (m, v) -> m.empty(0, 0, v)));
        about(9, "Returns the number of the edit.", () -> {
            Traced x = fresh();
            due("the first", x.empty(3, 3, 5), 0);
            due("the second", x.empty(0, 0, 0), 1);
            number(x, 0, 0, 1);
            due("behind a formula", x.empty(0, 0, 0), 3);
            due("its number", x.edit(0, 0, 2, 0), 3);
        });
        about(9, "Throws `IndexOutOfBoundsException` if there is no such owner, column or row", () -> {
            Traced x = fresh();
            refused(x, "not the owner's, no row", OUT, m -> m.empty(1, 0, 6));
            x.bell(0);
            refused(x, "frozen, no row", OUT, m -> m.empty(0, 0, 6));
            refused(x, "frozen, no owner", OUT, m -> m.empty(6, 0, 0));
        });
        about(9, "Throws `IllegalStateException` if it is not the owner's cell, the column is frozen, or 60 edits were told", () -> {
            refused(fresh(), "not the owner's", NOT, m -> m.empty(0, 1, 0));
            Traced x = fresh();
            x.bell(3);
            refused(x, "frozen", NOT, m -> m.empty(3, 3, 0));
            allowed(x, "another one is frozen", m -> m.empty(2, 2, 0));
            x.bell(3);
            allowed(x, "open again", m -> m.empty(3, 3, 0));
            for (int i = 0; i < 59; i++) {
                x.empty(0, 0, 0);
            }
            due("the 60th", x.empty(3, 3, 0), 59);
            refused(x, "the 61st", NOT, m -> m.empty(3, 3, 0));
            x.strikeEdit(59);
            refused(x, "the 61st, one struck", NOT, m -> m.empty(3, 3, 0));
        });
    }

    private static void notice() {
        about(10, "Sets the notice of a column for edits that are told from now on. This is an act.", () -> {
            Traced x = fresh();
            number(x, 0, 0, 1);
            x.notice(0, 4);
            x.empty(0, 0, 0);
            number(x, 1, 0, 1);
            x.notice(0, 0);
            due("one ahead of it", x.edit(0, 0, 0, 2), 1);
            due("one behind it", x.edit(0, 0, 1, 2), 2 + 4);
            due("one of another column", x.edit(1, 0, 0, 2), 4);
            due("events", x.events(), 5);
        });
        about(10, "- `column`: 0 to 3", () -> {
            range(Check::fresh, "column", 0, 3, OUT, (m, v) -> m.notice(v, 5));
            Traced x = fresh();
            x.notice(3, 9);
            number(x, 3, 0, 1);
            number(x, 2, 0, 1);
            due("column 3", x.edit(3, 0, 0, 2), 10);
            due("column 2", x.edit(2, 0, 0, 2), 3);
        });
        about(10, "- `events`: 0 to 50", () -> {
            range(Check::fresh, "events", 0, 50, BAD, (m, v) -> m.notice(0, v));
            for (int events = 0; events <= 50; events += 10) {
                Traced x = fresh();
                x.notice(0, events);
                number(x, 0, 0, 1);
                due("counts from", x.edit(0, 0, 0, 2), 1 + Math.max(1, events));
            }
        });
        about(10, "Returns the notice before.", () -> {
            Traced x = fresh();
            due("at first", x.notice(0, 50), 0);
            due("the greatest", x.notice(0, 0), 50);
            due("none", x.notice(0, 1), 0);
            due("the least", x.notice(0, 1), 1);
            due("another column", x.notice(1, 1), 0);
        });
        about(10, "Throws `IndexOutOfBoundsException` if there is no such column", () -> {
            refused(fresh(), "no column", OUT, m -> m.notice(4, 0));
            refused(fresh(), "no column, and out of range", OUT, m -> m.notice(-1, -1));
        });
        about(10, "Throws `IllegalArgumentException` if events is out of range", () -> {
            Traced x = fresh();
            x.notice(2, 8);
            refused(x, "-1", BAD, m -> m.notice(2, -1));
            refused(x, "51", BAD, m -> m.notice(2, 51));
            due("the notice stays", x.notice(2, 0), 8);
        });
    }

    private static void value() {
        about(11, "Returns the value of a cell now, that is, at the next event.", () -> {
            Traced x = fresh();
            x.notice(0, 2);
            number(x, 0, 0, 5);
            due("at event 2", x.value(0, 0, 0), 0);
            due("again, as asking is no event", x.value(0, 0, 0), 0);
            wait(x, 1);
            due("at event 3", x.value(0, 0, 0), 5);
            formula(x, 1, 0, Cellmarket.BIDS, 0, 0);
            buy(x, 0, 0, 1, 1);
            due("a bid right ahead", x.value(1, 1, 0), 1);
            x.withdraw(0, 0);
            due("withdrawn right ahead", x.value(1, 1, 0), 0);
        });
        about(11, "- `owner`: who asks, 0 to 5", () -> {
            Traced x = fresh();
            letAll(x);
            number(x, 3, 5, 5);
            for (int o = 0; o < 6; o++) {
                due("asked by " + o, x.value(o, 3, 5), 5);
            }
            refused(x, "asked by -1", OUT, m -> m.value(-1, 3, 5));
            refused(x, "asked by 6", OUT, m -> m.value(6, 3, 5));
        });
        about(11, "- `column`: 0 to 3", () -> range(Check::fresh, "column", 0, 3, OUT, (m, v) -> m.value(within(v, 3), v, 0)));
        about(11, "- `row`: 0 to 5", () -> range(Check::fresh, "row", 0, 5, OUT, (m, v) -> m.value(0, 0, v)));
        about(11, "Returns the value, 0 if it has a fault.", () -> {
            Traced x = fresh();
            great(x, 0, 0, 1);
            due("the greatest", x.value(0, 0, 0), 1000000000);
            great(x, 0, 0, -1);
            due("the least", x.value(0, 0, 0), -1000000000);
            int[][] faults = {{C, 1, 0}, {C, 0, 0}, {N, 1, 0, N, 0, 0, OVER, 0, 0}, {N, 1000000, 0, N, 1001, 0, TIMES, 0, 0},
                {N, 9, 0, C, 1, 0, PLUS, 0, 0}, {N, 9, 0, C, 0, 0, PLUS, 0, 0}};
            for (int[] f : faults) {
                formula(x, 0, 0, f);
                due("with a fault", x.value(0, 0, 0), 0);
            }
            number(x, 0, 0, 4);
            due("without one", x.value(0, 0, 0), 4);
        });
        about(11, "Throws `IndexOutOfBoundsException` if there is no such owner, column or row", () -> {
            refused(fresh(), "not read, no row", OUT, m -> m.value(1, 0, 6));
            refused(fresh(), "not read, no owner", OUT, m -> m.value(6, 0, 0));
            refused(fresh(), "none of them", OUT, m -> m.value(-1, -1, -1));
        });
        about(11, "Throws `IllegalStateException` if the owner does not read it", () -> {
            Traced x = fresh();
            refused(x, "another's", NOT, m -> m.value(0, 1, 0));
            x.let(1, 0, 1, 1, 1, true);
            refused(x, "the row ahead of one that is read", NOT, m -> m.value(0, 1, 0));
            due("the one that is read", x.value(0, 1, 1), 0);
            refused(x, "the row behind it", NOT, m -> m.value(0, 1, 2));
            x.let(1, 0, 1, 1, 1, false);
            refused(x, "read no more", NOT, m -> m.value(0, 1, 1));
            x.give(1, 1, 1, 0);
            refused(x, "given away", NOT, m -> m.value(1, 1, 1));
            due("given", x.value(0, 1, 1), 0);
        });
    }

    private static void fault() {
        about(12, "Returns the fault of a cell now.", () -> {
            Traced x = fresh();
            x.notice(0, 3);
            formula(x, 0, 0, C, 0, 0);
            due("not yet", x.fault(0, 0, 0), 0);
            wait(x, 1);
            due("not yet", x.fault(0, 0, 0), 0);
            wait(x, 1);
            due("now", x.fault(0, 0, 0), Cellmarket.CIRCLE);
            x.strikeEdit(0);
            due("struck", x.fault(0, 0, 0), 0);
        });
        about(12, "- `owner`: who asks, 0 to 5", () -> {
            Traced x = fresh();
            letAll(x);
            formula(x, 3, 5, C, 3, 5);
            for (int o = 0; o < 6; o++) {
                due("asked by " + o, x.fault(o, 3, 5), Cellmarket.CIRCLE);
            }
            refused(x, "asked by -1", OUT, m -> m.fault(-1, 3, 5));
            refused(x, "asked by 6", OUT, m -> m.fault(6, 3, 5));
        });
        about(12, "- `column`: 0 to 3", () -> range(Check::fresh, "column", 0, 3, OUT, (m, v) -> m.fault(within(v, 3), v, 0)));
        about(12, "- `row`: 0 to 5", () -> range(Check::fresh, "row", 0, 5, OUT, (m, v) -> m.fault(0, 0, v)));
        about(12, "Returns HIDDEN, CIRCLE, DIVISION or RANGE; 0 if it has none.", () -> {
            Traced x = fresh();
            due("an empty one", x.fault(0, 0, 0), 0);
            int[][] faults = {{N, 0, 0}, {C, 1, 0}, {C, 0, 0}, {N, 1, 0, N, 0, 0, OVER, 0, 0}, {N, 1000000, 0, N, 1001, 0, TIMES, 0, 0}};
            for (int i = 0; i < 5; i++) {
                formula(x, 0, 0, faults[i]);
                due("fault", x.fault(0, 0, 0), i);
            }
            number(x, 0, 0, -5);
            due("a value below 0 is no fault", x.fault(0, 0, 0), 0);
        });
        about(12, "Throws `IndexOutOfBoundsException` if there is no such owner, column or row", () -> {
            refused(fresh(), "not read, no row", OUT, m -> m.fault(1, 0, 6));
            refused(fresh(), "not read, no owner", OUT, m -> m.fault(6, 0, 0));
            refused(fresh(), "none of them", OUT, m -> m.fault(-1, -1, -1));
        });
        about(12, "Throws `IllegalStateException` if the owner does not read it", () -> {
            Traced x = fresh();
            refused(x, "another's", NOT, m -> m.fault(0, 1, 5));
            x.let(1, 0, 1, 5, 5, true);
            due("the one that is read", x.fault(0, 1, 5), 0);
            refused(x, "the row ahead of it", NOT, m -> m.fault(0, 1, 4));
            refused(x, "the next column's first row", NOT, m -> m.fault(0, 2, 0));
            x.give(0, 0, 0, 1);
            refused(x, "given away", NOT, m -> m.fault(0, 0, 0));
        });
    }

    // ---- histories

    private static void edits() {
        about(13, "Returns how many edits of a cell were told.", () -> {
            Traced x = fresh();
            number(x, 0, 5, 1);
            x.empty(0, 0, 5);
            x.notice(0, 50);
            number(x, 0, 5, 1);
            number(x, 1, 0, 1);
            due("a formula, an emptying, and one that does not count yet", x.edits(0, 5), 3);
            due("the next cell", x.edits(1, 0), 1);
            due("the cell ahead", x.edits(0, 4), 0);
            x.strikeEdit(0);
            due("struck ones too", x.edits(0, 5), 3);
            x.give(0, 0, 5, 4);
            due("those of the former owner too", x.edits(0, 5), 3);
        });
        about(13, "- `column`: 0 to 3", () -> range(Check::fresh, "column", 0, 3, OUT, (m, v) -> m.edits(v, 0)));
        about(13, "- `row`: 0 to 5", () -> range(Check::fresh, "row", 0, 5, OUT, (m, v) -> m.edits(0, v)));
        about(13, "Returns how many.", () -> {
            Traced x = fresh();
            due("none", x.edits(2, 2), 0);
            for (int i = 1; i <= 60; i++) {
                x.empty(2, 2, 2);
                due("edits", x.edits(2, 2), i);
            }
            refused(x, "a 61st", NOT, m -> m.empty(2, 2, 2));
            due("all", x.edits(2, 2), 60);
        });
        about(13, "Throws `IndexOutOfBoundsException` if there is no such column or row", () -> {
            refused(fresh(), "neither", OUT, m -> m.edits(4, 6));
            refused(fresh(), "neither", OUT, m -> m.edits(-1, -1));
        });
    }

    /** Two edits of the last cell, the first of which is struck, and one of the first cell between them. */
    private static Traced threeEdits() {
        Traced x = fresh();
        wait(x, 2);
        x.notice(3, 2);
        formula(x, 3, 5, N, 1, 0, N, 2, 0, PLUS, 0, 0);
        number(x, 0, 0, 6);
        x.give(3, 3, 5, 4);
        x.empty(4, 3, 5);
        x.strikeEdit(0);
        return x;
    }

    private static void edit() {
        about(14, "Tells something of an edit of a cell.", () -> {
            Traced x = threeEdits();
            expectEdit(x, 3, 5, 0, 0, 3, 5, 3, 3, 1, 0);
            expectEdit(x, 3, 5, 1, 2, 6, 8, 4, 0, 0, 1);
            expectEdit(x, 0, 0, 0, 1, 4, 5, 0, 1, 0, 1);
        });
        about(14, "- `column`: 0 to 3", () -> {
            Traced x = fresh();
            number(x, 0, 0, 1);
            number(x, 3, 0, 1);
            due("column 0", x.edit(0, 0, 0, 0), 0);
            due("column 3", x.edit(3, 0, 0, 0), 1);
            refused(x, "column -1", OUT, m -> m.edit(-1, 0, 0, 0));
            refused(x, "column 4", OUT, m -> m.edit(4, 0, 0, 0));
        });
        about(14, "- `row`: 0 to 5", () -> {
            Traced x = fresh();
            number(x, 0, 5, 1);
            number(x, 0, 0, 1);
            due("row 0", x.edit(0, 0, 0, 0), 1);
            due("row 5", x.edit(0, 5, 0, 0), 0);
            refused(x, "row -1", OUT, m -> m.edit(0, -1, 0, 0));
            refused(x, "row 6", OUT, m -> m.edit(0, 6, 0, 0));
        });
        about(14, "- `place`: 0 for the first one of the cell", () -> {
            Traced x = threeEdits();
            due("the first", x.edit(3, 5, 0, 0), 0);
            due("the last", x.edit(3, 5, 1, 0), 2);
            refused(x, "one behind the last", OUT, m -> m.edit(3, 5, 2, 0));
            refused(x, "one ahead of the first", OUT, m -> m.edit(3, 5, -1, 0));
            refused(x, "the greatest", OUT, m -> m.edit(3, 5, Integer.MAX_VALUE, 0));
            refused(x, "the least", OUT, m -> m.edit(3, 5, Integer.MIN_VALUE, 0));
            refused(x, "of a cell without", OUT, m -> m.edit(3, 4, 0, 0));
            for (int i = 3; i < 60; i++) {
                x.empty(0, 0, 0);
            }
            due("the 58th of a cell", x.edit(0, 0, 57, 0), 59);
            refused(x, "the 59th", OUT, m -> m.edit(0, 0, 58, 0));
        });
        about(14, "- `what`: 0 its number; 1 its event; 2 the first event at which it counts; 3 who told it; 4 how many words it has, 0 if it makes the cell empty; 5 whether it is struck, 1 or 0; 6 whether it is the cell's formula, or makes it empty, now, 1 or 0", EdgesOfCells::whatOfAnEdit);
        about(14, "Returns the number.", () -> {
            Traced x = threeEdits();
            unchanged(x, "edit", m -> m.edit(3, 5, 1, 6));
            due("the first event at which it counts", x.edit(3, 5, 1, 2), x.edit(3, 5, 1, 1) + 2);
        });
        about(14, "Throws `IndexOutOfBoundsException` if there is no such column, row or place", () -> {
            refused(threeEdits(), "no place, and what 7", OUT, m -> m.edit(3, 5, 2, 7));
            refused(threeEdits(), "no column, and what -1", OUT, m -> m.edit(4, 5, 0, -1));
            refused(threeEdits(), "no row, and what -1", OUT, m -> m.edit(3, 6, 0, -1));
        });
        about(14, "Throws `IllegalArgumentException` if what is out of range", () -> range(EdgesOfCells::threeEdits, "what", 0, 6, BAD, (m, v) -> m.edit(3, 5, 1, v)));
    }

    private static void whatOfAnEdit() {
        Traced x = fresh();
        number(x, 0, 0, 1);
        due("one word", x.edit(0, 0, 0, 4), 1);
        due("its formula now", x.edit(0, 0, 0, 6), 1);
        write(x, N, 1, 0, N, 1, 0, PLUS, 0, 0, N, 1, 0, PLUS, 0, 0, N, 1, 0, PLUS, 0, 0, N, 1, 0, PLUS, 0, 0);
        formula(x, 0, 0, N, 1, 0, N, 2, 0, WHEN, 0, 0);
        due("twelve words", x.edit(0, 0, 1, 4), 12);
        due("its formula no more", x.edit(0, 0, 0, 6), 0);
        due("its formula", x.edit(0, 0, 1, 6), 1);
        x.empty(0, 0, 0);
        due("no words", x.edit(0, 0, 2, 4), 0);
        due("makes it empty", x.edit(0, 0, 2, 6), 1);
        due("its formula no more", x.edit(0, 0, 1, 6), 0);
        x.notice(0, 2);
        number(x, 0, 0, 1);
        due("does not count yet", x.edit(0, 0, 3, 6), 0);
        wait(x, 1);
        due("counts now", x.edit(0, 0, 3, 6), 1);
        due("makes it empty no more", x.edit(0, 0, 2, 6), 0);
        due("not struck", x.edit(0, 0, 3, 5), 0);
        x.strikeEdit(3);
        due("struck", x.edit(0, 0, 3, 5), 1);
        due("struck, and not its formula", x.edit(0, 0, 3, 6), 0);
        due("makes it empty again", x.edit(0, 0, 2, 6), 1);
        due("who told it", x.edit(0, 0, 0, 3), 0);
        x.give(0, 0, 0, 5);
        x.empty(5, 0, 0);
        due("who told it, whoever owns it now", x.edit(0, 0, 0, 3), 0);
        due("who told it", x.edit(0, 0, 4, 3), 5);
        due("its event", x.edit(0, 0, 4, 1), x.events() - 1);
    }
}
