/** The sentences of the document ahead of the promises that name an edge: cells, events, formulas. */
final class EdgesOfTerms extends Check {
    private EdgesOfTerms() {
    }

    static void all() {
        cells();
        events();
        edits();
        formulas();
        market();
        faults();
        acts();
        constants();
    }

    // ---- owners, cells

    private static void cells() {
        about(0, "An object is used for at most 512 calls after it has been made", EdgesOfTerms::the512thCall);
        about(0, "An object is used for at most 512 calls", EdgesOfTerms::fullSheet);
        about(0, "There are the owners 0 to 5, the columns 0 to 3, and in each column the rows 0 to 5.", EdgesOfTerms::numbersThatThereAre);
        about(0, "A cell belongs to an owner, at first to the one with the number of its column", () -> {
            Traced x = fresh();
            for (int i = 0; i < 24; i++) {
                due("ownerOf", x.ownerOf(i / 6, i % 6), i / 6);
            }
            for (int owner = 4; owner <= 5; owner++) {
                for (int i = 0; i < 24; i++) {
                    due("an owner without cells reads", x.reads(owner, i / 6, i % 6), false);
                }
            }
        });
        about(0, "and can be given to another one.", () -> {
            Traced x = fresh();
            x.give(0, 0, 0, 5);
            due("given", x.ownerOf(0, 0), 5);
            due("its neighbour", x.ownerOf(0, 1), 0);
            x.give(5, 0, 0, 4);
            due("given on", x.ownerOf(0, 0), 4);
            x.give(4, 0, 0, 0);
            due("given back", x.ownerOf(0, 0), 0);
        });
        about(0, "An owner can let another one read all cells that are their own in some rows of a column", EdgesOfTerms::letOwnCells);
        about(0, "or no more;", () -> {
            Traced x = fresh();
            x.let(2, 3, 2, 0, 5, true);
            x.let(2, 3, 2, 0, 0, false);
            x.let(2, 3, 2, 5, 5, false);
            for (int r = 0; r < 6; r++) {
                due("reads row " + r, x.reads(3, 2, r), r != 0 && r != 5);
            }
            x.let(2, 4, 2, 1, 1, false);
            due("another one's leave stays", x.reads(3, 2, 1), true);
            due("no more, without a leave", x.reads(4, 2, 1), false);
        });
        about(0, "what was told last of a cell, by its owner then, counts.", EdgesOfTerms::toldLast);
        about(0, "All owners read their own cells.", () -> {
            Traced x = fresh();
            x.let(0, 4, 0, 0, 5, false);
            x.give(0, 0, 3, 4);
            due("the new owner, told no more ahead", x.reads(4, 0, 3), true);
            due("the former owner", x.reads(0, 0, 3), false);
            due("value for the new owner", x.value(4, 0, 3), 0);
            x.let(4, 0, 0, 3, 3, false);
            x.give(4, 0, 3, 0);
            due("the former owner again, told no more", x.reads(0, 0, 3), true);
            due("the one between", x.reads(4, 0, 3), false);
        });
    }

    private static void the512thCall() {
        Traced x = fresh();
        number(x, 0, 0, 7);
        for (int i = 0; i < 502; i++) {
            x.let(0, 1 + i % 5, 0, 0, 5, i % 2 == 0);
        }
        x.bid(0, 0, true, 1, 7);
        x.bid(1, 0, false, 1, 7);
        x.bell(0);
        due("the 509th call", x.bell(0), 0);
        due("the 510th call", x.due(0, 0), 7);
        due("the 511th call", x.value(0, 0, 0), 7);
        due("calls", x.many(), 511);
        due("the 512th call", x.events(), 507);
    }

    /** 60 edits, 80 bids, 30 rounds, and all of them struck. */
    private static void fullSheet() {
        Traced x = fresh();
        for (int c = 0; c < 4; c++) {
            number(x, c, 0, 1);
        }
        for (int i = 4; i < 60; i++) {
            due("edit", x.empty(i % 4, i % 4, 5), i);
        }
        for (int i = 0; i < 80; i++) {
            due("bid", x.bid(i % 6, 3, i < 40, 100, 1), i);
        }
        for (int i = 0; i < 30; i++) {
            due("round", round(x, 3), i);
        }
        due("volume", x.round(0, 2), 4000);
        due("price of the last one", x.round(29, 1), 1);
        due("due of who buys 700 and sells 600", x.due(2, 3), 100);
        due("due of who buys 600 and sells 700", x.due(4, 3), -100);
        due("settle", x.settle(3), 20);
        for (int i = 0; i < 40; i++) {
            due("strike a bid to buy", x.strikeBid(i), 1);
        }
        for (int i = 40; i < 80; i++) {
            due("strike a bid to sell", x.strikeBid(i), 0);
        }
        for (int i = 0; i < 60; i++) {
            due("strike an edit", x.strikeEdit(i), i == 3 ? 30 : 0);
        }
        due("due", x.due(2, 3), -100);
        due("settle anew", x.settle(3), 20);
        due("cash", x.cash(2), 0);
        due("reason", x.round(29, 4), Cellmarket.EMPTY);
        due("events", x.events(), 60 + 80 + 60 + 1 + 80 + 60 + 1);
    }

    private static void numbersThatThereAre() {
        for (int owner = 0; owner < 6; owner++) {
            Traced x = fresh();
            for (int i = 0; i < 24; i++) {
                due("reads", x.reads(owner, i / 6, i % 6), owner == i / 6);
            }
        }
        range(Check::fresh, "owner", 0, 5, OUT, (m, v) -> m.cash(v));
        range(Check::fresh, "column", 0, 3, OUT, (m, v) -> m.ownerOf(v, 0));
        for (int c = 0; c < 4; c++) {
            int column = c;
            range(Check::fresh, "row of column " + c, 0, 5, OUT, (m, v) -> m.ownerOf(column, v));
        }
    }

    private static void letOwnCells() {
        Traced x = fresh();
        x.give(1, 1, 3, 5);
        x.let(1, 0, 1, 2, 4, true);
        for (int r = 0; r < 6; r++) {
            due("reads row " + r, x.reads(0, 1, r), r == 2 || r == 4);
            due("the same row of another column", x.reads(0, 2, r), false);
            due("another owner", x.reads(2, 1, r), false);
        }
        x.give(2, 2, 0, 1);
        due("one's own in another's column", x.let(1, 0, 2, 0, 5, true), 1);
        due("reads it", x.reads(0, 2, 0), true);
        due("reads the next one", x.reads(0, 2, 1), false);
    }

    private static void toldLast() {
        Traced x = fresh();
        x.let(0, 1, 0, 2, 2, true);
        x.let(0, 1, 0, 2, 2, false);
        due("true and then false", x.reads(1, 0, 2), false);
        x.let(0, 1, 0, 2, 2, true);
        due("and true again", x.reads(1, 0, 2), true);
        x.let(3, 1, 0, 2, 2, false);
        due("told by who is not its owner", x.reads(1, 0, 2), true);
        x.give(0, 0, 2, 3);
        due("told by who was its owner then", x.reads(1, 0, 2), true);
        x.let(0, 1, 0, 2, 2, false);
        due("told by who is its owner no more", x.reads(1, 0, 2), true);
        x.let(3, 1, 0, 2, 2, false);
        due("told by its owner now", x.reads(1, 0, 2), false);
        x.let(0, 2, 0, 2, 2, true);
        due("let by who is its owner no more", x.reads(2, 0, 2), false);
        x.give(3, 0, 2, 0);
        due("what they told meanwhile does not count later", x.reads(2, 0, 2), false);
        due("what the one between told stays", x.reads(1, 0, 2), false);
        x.let(0, 4, 0, 1, 1, true);
        x.give(0, 0, 1, 4);
        x.give(4, 0, 1, 0);
        due("a leave stays though the cell was one's own meanwhile", x.reads(4, 0, 1), true);
        due("and who never had one has none", x.reads(3, 0, 2), false);
    }

    // ---- events

    private static void events() {
        about(0, "each call that returns, of those listed under acts, is one, numbered from 0.", () -> {
            Traced x = fresh();
            x.word(N, 1, 0);
            x.value(0, 0, 0);
            due("none yet", x.events(), 0);
            x.enter(0, 0, 0);
            due("the first event is 0", x.edit(0, 0, 0, 1), 0);
            refused(x, "an act that does not return", NOT, m -> m.empty(1, 0, 0));
            x.empty(0, 0, 0);
            due("the next one is 1", x.edit(0, 0, 1, 1), 1);
            due("there were two", x.events(), 2);
        });
        about(0, "What holds at an event is what was told by events ahead of it.", EdgesOfTerms::toldAhead);
    }

    /** Column 0 freezes at event 6; what event 5 told holds then, and what event 7 tells does not. */
    private static void toldAhead() {
        Traced x = fresh();
        x.let(1, 0, 1, 2, 2, true);
        formula(x, 0, 0, C, 1, 2, Cellmarket.BIDS, 1, 0, PLUS, 0, 0);
        number(x, 1, 2, 10);
        sell(x, 3, 0, 9, 0);
        buy(x, 2, 1, 1, 5);
        number(x, 1, 2, 20);
        due("bell", x.bell(0), Cellmarket.NONE);
        buy(x, 2, 1, 1, 5);
        number(x, 1, 2, 40);
        due("by the next event", seen(x, 0, 0), 42);
        x.bell(0);
        due("by the event of the bell", x.round(0, 1), 21);
        due("an edit does not count at its own event", x.edit(1, 2, 1, 2), x.edit(1, 2, 1, 1) + 1);
    }

    // ---- edits

    private static void edits() {
        about(0, "Edits are numbered from 0; at most 60 are told.", () -> {
            Traced x = fresh();
            for (int i = 0; i < 59; i++) {
                due("edit", x.empty(i % 4, i % 4, i % 6), i);
            }
            x.strikeEdit(0);
            due("the last one", number(x, 0, 5, 5), 59);
            due("counts", x.value(0, 0, 5), 5);
            x.word(N, 1, 0);
            refused(x, "the 61st one", NOT, m -> m.enter(1, 1, 1));
            refused(x, "the 61st one, emptying", NOT, m -> m.empty(1, 1, 1));
        });
        about(0, "An edit tells a formula for a cell, or that it is empty.", () -> {
            Traced x = fresh();
            number(x, 0, 0, 0);
            due("words of a formula", x.edit(0, 0, 0, 4), 1);
            due("a formula of 0 is not empty", x.round(round(x, 0), 1), 0);
            x.empty(0, 0, 0);
            due("words of an emptying", x.edit(0, 0, 1, 4), 0);
            due("empty, and not 0", x.round(round(x, 0), 4), Cellmarket.EMPTY);
        });
        about(0, "It counts from as many events behind it on as the notice of its column told when it was told, 0 at first", EdgesOfTerms::noticeWhenTold);
        about(0, "the event right behind it is the first one, so that with a notice of 0 or 1 it counts from that on.", () -> {
            for (int notice = 0; notice <= 3; notice++) {
                Traced x = fresh();
                x.notice(0, notice);
                number(x, 0, 0, 9);
                due("first event with a notice of " + notice, x.edit(0, 0, 0, 2), 1 + Math.max(1, notice));
                due("value right behind it", x.value(0, 0, 0), notice <= 1 ? 9 : 0);
                wait(x, 1);
                due("value one behind that", x.value(0, 0, 0), notice <= 2 ? 9 : 0);
                wait(x, 1);
                due("value two behind that", x.value(0, 0, 0), 9);
            }
        });
        about(0, "Of the edits of a cell that count at an event, and are not struck, the one told last is its formula", EdgesOfTerms::toldLastCounts);
        about(0, "without one the cell is empty.", EdgesOfTerms::withoutOne);
    }

    private static void noticeWhenTold() {
        Traced x = fresh();
        number(x, 0, 0, 1);
        due("0 at first", x.edit(0, 0, 0, 2), 1);
        x.notice(0, 50);
        number(x, 0, 0, 2);
        x.notice(0, 0);
        x.notice(1, 40);
        due("a notice told later does not matter", x.edit(0, 0, 1, 2), 2 + 50);
        number(x, 0, 0, 3);
        due("nor one of another column", x.edit(0, 0, 2, 2), 6);
        x.strikeEdit(2);
        wait(x, 51 - x.events());
        due("49 events behind it", x.value(0, 0, 0), 1);
        due("not yet its formula", x.edit(0, 0, 1, 6), 0);
        wait(x, 1);
        due("50 events behind it", x.value(0, 0, 0), 2);
        due("its formula", x.edit(0, 0, 1, 6), 1);
    }

    private static void toldLastCounts() {
        Traced x = fresh();
        x.notice(2, 6);
        number(x, 2, 4, 10);
        x.notice(2, 0);
        number(x, 2, 4, 20);
        x.notice(2, 9);
        number(x, 2, 4, 30);
        due("the only one that counts", seen(x, 2, 4), 20);
        wait(x, 1);
        due("the first one counts now, but was told ahead", seen(x, 2, 4), 20);
        wait(x, 20 - x.events());
        due("the last one counts", seen(x, 2, 4), 30);
        x.strikeEdit(2);
        due("the last one struck", seen(x, 2, 4), 20);
        x.strikeEdit(1);
        due("two struck", seen(x, 2, 4), 10);
        x.empty(2, 2, 4);
        due("an emptying, not yet", seen(x, 2, 4), 10);
        wait(x, 8);
        due("an emptying that counts", seen(x, 2, 4), 0);
        due("is what the cell has", x.edit(2, 4, 3, 6), 1);
    }

    private static void withoutOne() {
        Traced x = fresh();
        due("none told", x.value(0, 0, 0), 0);
        due("void", x.round(round(x, 0), 4), Cellmarket.EMPTY);
        x.notice(0, 50);
        number(x, 0, 0, 5);
        due("none that counts yet", x.value(0, 0, 0), 0);
        due("void", x.round(round(x, 0), 4), Cellmarket.EMPTY);
        x.notice(0, 0);
        number(x, 0, 0, 6);
        due("not void", x.round(round(x, 0), 4), 0);
        x.strikeEdit(1);
        due("none that is not struck", x.value(0, 0, 0), 0);
        due("void", x.round(round(x, 0), 4), Cellmarket.EMPTY);
        due("void now", x.round(2, 4), Cellmarket.EMPTY);
    }

    // ---- formulas

    private static void formulas() {
        about(0, "A formula is a row of words that is gone through with a pile of numbers", () -> {
            Traced x = fresh();
            formula(x, 0, 0, N, 1000, 0, N, 100, 0, N, 7, 0, MINUS, 0, 0, MINUS, 0, 0);
            due("1000 - (100 - 7)", x.value(0, 0, 0), 907);
            formula(x, 0, 0, N, 1000, 0, N, 100, 0, MINUS, 0, 0, N, 7, 0, MINUS, 0, 0);
            due("(1000 - 100) - 7", x.value(0, 0, 0), 893);
        });
        about(0, "CELL with a column and a row, the value of that cell", () -> {
            Traced x = fresh();
            letAll(x);
            for (int[] corner : new int[][] {{0, 0}, {0, 5}, {3, 0}, {3, 5}}) {
                formula(x, 1, 1, C, corner[0], corner[1]);
                due("an empty corner", x.value(1, 1, 1), 0);
                number(x, corner[0], corner[1], 50 + corner[0] * 6 + corner[1]);
                due("a corner", x.value(1, 1, 1), 50 + corner[0] * 6 + corner[1]);
            }
            due("no fault", x.fault(1, 1, 1), 0);
        });
        about(0, "PLUS, MINUS, TIMES, OVER (divided, toward 0), LEAST, MOST of the upper two numbers, the lower one of them first", EdgesOfTerms::twoNumbers);
        about(0, "OVER (divided, toward 0)", () -> {
            Traced x = fresh();
            int[][] parts = {{7, 2, 3}, {-7, 2, -3}, {7, -2, -3}, {-7, -2, 3}, {1, 2, 0}, {-1, 2, 0}, {1, -2, 0}, {6, 3, 2},
                {-6, 3, -2}, {0, -5, 0}, {1000000, 1000000, 1}, {999999, 1000000, 0}, {-999999, 1000000, 0}};
            for (int[] p : parts) {
                formula(x, 0, 0, N, p[0], 0, N, p[1], 0, OVER, 0, 0);
                due(p[0] + " by " + p[1], x.value(0, 0, 0), p[2]);
                due("fault", x.fault(0, 0, 0), 0);
            }
            great(x, 0, 1, -1);
            formula(x, 0, 0, C, 0, 1, N, -1, 0, OVER, 0, 0);
            due("the least number by -1", x.value(0, 0, 0), 1000000000);
        });
        about(0, "WHEN of the upper three: the middle one, if the lowest is above 0, otherwise the uppermost.", () -> {
            Traced x = fresh();
            int[][] lowest = {{-1000000, 9}, {-1, 9}, {0, 9}, {1, 8}, {1000000, 8}};
            for (int[] l : lowest) {
                formula(x, 0, 0, N, 100, 0, N, l[0], 0, N, 8, 0, N, 9, 0, WHEN, 0, 0, PLUS, 0, 0);
                due("WHEN of " + l[0], x.value(0, 0, 0), 100 + l[1]);
            }
        });
        about(0, "The value of a cell at an event is that of its formula, an empty one being 0", () -> {
            Traced x = fresh();
            due("empty", x.value(0, 0, 0), 0);
            due("no fault", x.fault(0, 0, 0), 0);
            formula(x, 0, 1, N, 5, 0, C, 0, 0, TIMES, 0, 0);
            due("5 times an empty one", x.value(0, 0, 1), 0);
            formula(x, 0, 1, N, 5, 0, C, 0, 0, OVER, 0, 0);
            due("5 by an empty one", x.fault(0, 0, 1), Cellmarket.DIVISION);
            number(x, 0, 0, -3);
            due("5 by -3", x.value(0, 0, 1), -1);
            x.empty(0, 0, 0);
            due("empty again", x.value(0, 0, 0), 0);
        });
    }

    private static void twoNumbers() {
        Traced x = fresh();
        int[][] both = {{7, 2}, {2, 7}, {-7, 2}, {2, -7}, {5, 5}, {-1, -2}, {0, 3}, {3, -1}};
        for (int[] b : both) {
            int[] wanted = {b[0] + b[1], b[0] - b[1], b[0] * b[1], b[1] == 0 ? 0 : b[0] / b[1], Math.min(b[0], b[1]), Math.max(b[0], b[1])};
            for (int what = PLUS; what <= Cellmarket.MOST; what++) {
                // A third number lies below them, and stays there.
                formula(x, 0, 0, N, 100, 0, N, b[0], 0, N, b[1], 0, what, 0, 0, TIMES, 0, 0);
                due("word " + what + " of " + b[0] + " and " + b[1] + ", 100 times", x.value(0, 0, 0), 100 * wanted[what - PLUS]);
            }
            if (x.edits(0, 0) > 50) {
                x = fresh();
            }
        }
    }

    // ---- bids and prices in formulas

    private static void market() {
        about(0, "BUY and SELL with a column, the greatest limit of bids to buy, the least one of bids to sell, 0 without", EdgesOfTerms::greatestAndLeast);
        about(0, "BUYS and SELLS with a column, how much all bids to buy, or to sell, are for", () -> {
            Traced x = fresh();
            formula(x, 1, 0, Cellmarket.BUYS, 0, 0);
            formula(x, 1, 1, Cellmarket.SELLS, 0, 0);
            expectBoth(x, "none", 0, 0);
            buy(x, 4, 0, 1, 0);
            expectBoth(x, "the least bid", 1, 0);
            sell(x, 4, 0, 100, 9999);
            expectBoth(x, "the greatest bid to sell", 1, 100);
            buy(x, 5, 0, 99, 3);
            sell(x, 5, 0, 1, 0);
            expectBoth(x, "two of each", 100, 101);
            buy(x, 5, 1, 7, 3);
            expectBoth(x, "one of another column", 100, 101);
        });
        about(0, "BIDS with a column, how many bids there are", () -> {
            Traced x = fresh();
            formula(x, 1, 0, Cellmarket.BIDS, 3, 0);
            due("none", x.value(1, 1, 0), 0);
            sell(x, 0, 3, 50, 0);
            due("one, for more than one", x.value(1, 1, 0), 1);
            sell(x, 0, 2, 1, 0);
            buy(x, 0, 3, 1, 0);
            due("one to buy and one to sell", x.value(1, 1, 0), 2);
            for (int i = 3; i < 80; i++) {
                buy(x, 0, 3, 1, 0);
            }
            due("all but one of 80", x.value(1, 1, 0), 79);
        });
        about(0, "LAST with a column, the price of its last round that was cleared and has one, 0 without", EdgesOfTerms::lastPrice);
        about(0, "the bids are those of the round that is open, or frozen, in that column then", () -> {
            Traced x = fresh();
            formula(x, 1, 0, Cellmarket.BIDS, 0, 0);
            buy(x, 4, 0, 1, 1);
            due("open", x.value(1, 1, 0), 1);
            x.bell(0);
            due("frozen", x.value(1, 1, 0), 1);
            x.bell(0);
            due("the next one, open", x.value(1, 1, 0), 0);
            sell(x, 4, 0, 1, 1);
            sell(x, 4, 0, 1, 1);
            due("its bids", x.value(1, 1, 0), 2);
            due("at a bell that freezes another column", x.round(round(x, 1), 1), 2);
        });
        about(0, "which were made ahead, and were not withdrawn ahead, and are not struck.", EdgesOfTerms::aheadAndNotStruck);
    }

    private static void expectBoth(Traced x, String what, int first, int second) {
        due("of bids to buy, " + what, x.value(1, 1, 0), first);
        due("of bids to sell, " + what, x.value(1, 1, 1), second);
    }

    private static void greatestAndLeast() {
        Traced x = fresh();
        formula(x, 1, 0, Cellmarket.BUY, 0, 0);
        formula(x, 1, 1, Cellmarket.SELL, 0, 0);
        expectBoth(x, "none", 0, 0);
        sell(x, 4, 0, 5, 9999);
        expectBoth(x, "one to sell", 0, 9999);
        buy(x, 4, 0, 1, 0);
        expectBoth(x, "the least one to buy", 0, 9999);
        buy(x, 4, 0, 1, 9999);
        sell(x, 5, 0, 100, 30);
        expectBoth(x, "greater and less", 9999, 30);
        buy(x, 5, 0, 3, 9998);
        sell(x, 5, 0, 1, 31);
        expectBoth(x, "less and greater behind them", 9999, 30);
        sell(x, 5, 0, 1, 0);
        expectBoth(x, "0 is the least one", 9999, 0);
        sell(x, 4, 0, 1, 1);
        expectBoth(x, "also with greater ones behind it", 9999, 0);
        x.withdraw(4, 2);
        x.withdraw(5, 6);
        x.withdraw(4, 7);
        expectBoth(x, "those withdrawn", 9998, 30);
        Traced y = fresh();
        formula(y, 1, 0, Cellmarket.BUY, 0, 0);
        formula(y, 1, 1, Cellmarket.SELL, 0, 0);
        buy(y, 4, 0, 1, 77);
        buy(y, 4, 1, 1, 99);
        sell(y, 4, 2, 1, 3);
        expectBoth(y, "one to buy, others in other columns", 77, 0);
    }

    private static void lastPrice() {
        Traced x = fresh();
        formula(x, 1, 0, Cellmarket.LAST, 0, 0);
        due("no round", x.value(1, 1, 0), 0);
        round(x, 0);
        due("a void one", x.value(1, 1, 0), 0);
        number(x, 0, 0, 12);
        x.bell(0);
        due("frozen, and not cleared", x.value(1, 1, 0), 0);
        x.bell(0);
        due("cleared", x.value(1, 1, 0), 12);
        number(x, 0, 0, 13);
        round(x, 0);
        due("the last one", x.value(1, 1, 0), 13);
        number(x, 0, 0, -1);
        round(x, 0);
        due("a void one behind it", x.value(1, 1, 0), 13);
        number(x, 2, 0, 99);
        round(x, 2);
        due("one of another column behind it", x.value(1, 1, 0), 13);
        great(x, 0, 0, 1);
        round(x, 0);
        due("the greatest price", x.value(1, 1, 0), 1000000000);
        number(x, 0, 0, 0);
        round(x, 0);
        due("a price of 0 is one", x.value(1, 1, 0), 0);
        number(x, 0, 0, 14);
        x.bell(0);
        x.bell(1);
        x.bell(0);
        round(x, 2);
        due("frozen ahead of a bell, and cleared behind it", x.value(1, 1, 0), 14);
        due("price by the last one then", x.round(x.bell(1), 1), 0);
        due("price by the last one at the next bell", x.round(round(x, 1), 1), 14);
    }

    /** Column 1 freezes between two events of column 0, which asks how many bids there are. */
    private static void aheadAndNotStruck() {
        Traced x = fresh();
        formula(x, 1, 0, Cellmarket.BIDS, 0, 0);
        buy(x, 4, 0, 1, 1);
        x.withdraw(4, 0);
        buy(x, 4, 0, 1, 1);
        buy(x, 4, 0, 1, 1);
        x.bell(1);
        buy(x, 4, 0, 1, 1);
        x.withdraw(4, 1);
        due("now", x.value(1, 1, 0), 2);
        x.bell(1);
        due("made ahead, and not withdrawn ahead", x.round(0, 1), 2);
        round(x, 0);
        due("strike one that was withdrawn ahead", x.strikeBid(0), 0);
        due("strike one that was made later", x.strikeBid(3), 0);
        due("strike one that was withdrawn later", x.strikeBid(1), 1);
        due("price", x.round(0, 1), 1);
        due("strike the other one", x.strikeBid(2), 1);
        due("price", x.round(0, 1), 0);
    }

    // ---- faults

    private static void faults() {
        about(0, "A formula can have a fault; the first one that is met ends it", () -> {
            Traced x = fresh();
            int[] hidden = {C, 1, 0};
            int[] circle = {C, 0, 0};
            int[] range = {N, 1000000, 0, N, 1000000, 0, TIMES, 0, 0};
            int[][] kinds = {hidden, circle, {N, 1, 0, N, 0, 0, OVER, 0, 0}, range};
            for (int first = 0; first < 4; first++) {
                for (int second = 0; second < 4; second++) {
                    write(x, kinds[first]);
                    write(x, kinds[second]);
                    formula(x, 0, 0, PLUS, 0, 0);
                    due("fault " + (first + 1) + " ahead of " + (second + 1), x.fault(0, 0, 0), first + 1);
                }
            }
        });
        about(0, "HIDDEN, if it asks for a cell that the owner of its own cell does not read then", EdgesOfTerms::hidden);
        about(0, "CIRCLE, if it asks for a cell whose value is being found", EdgesOfTerms::circle);
        about(0, "DIVISION by 0", () -> {
            Traced x = fresh();
            for (int low : new int[] {-1, 0, 1, 1000000}) {
                formula(x, 0, 0, N, low, 0, N, 0, 0, OVER, 0, 0);
                due("fault of " + low + " by 0", x.fault(0, 0, 0), Cellmarket.DIVISION);
                due("value", x.value(0, 0, 0), 0);
            }
            for (int upper : new int[] {-1, 1}) {
                formula(x, 0, 0, N, 0, 0, N, upper, 0, OVER, 0, 0);
                due("fault of 0 by " + upper, x.fault(0, 0, 0), 0);
            }
        });
        about(0, "RANGE, if a number would be below -1000000000 or above 1000000000.", EdgesOfTerms::range);
        about(0, "A cell that is asked for, and has a fault, gives that fault", () -> {
            Traced x = fresh();
            formula(x, 0, 1, C, 0, 0);
            formula(x, 0, 2, N, 1, 0, N, 2, 0, C, 0, 1, WHEN, 0, 0);
            formula(x, 0, 0, C, 3, 3);
            due("HIDDEN", x.fault(0, 0, 2), Cellmarket.HIDDEN);
            formula(x, 0, 0, C, 0, 0);
            due("CIRCLE", x.fault(0, 0, 2), Cellmarket.CIRCLE);
            formula(x, 0, 0, N, 1, 0, N, 0, 0, OVER, 0, 0);
            due("DIVISION", x.fault(0, 0, 2), Cellmarket.DIVISION);
            formula(x, 0, 0, N, 1000000, 0, N, 1001, 0, TIMES, 0, 0);
            due("RANGE", x.fault(0, 0, 2), Cellmarket.RANGE);
            due("value", x.value(0, 0, 2), 0);
            number(x, 0, 0, 1);
            due("none", x.fault(0, 0, 2), 0);
            due("value", x.value(0, 0, 2), 2);
        });
        about(0, "HIDDEN is looked at ahead of that.", () -> {
            Traced x = fresh();
            formula(x, 1, 0, N, 1, 0, N, 0, 0, OVER, 0, 0);
            formula(x, 0, 0, C, 1, 0);
            due("a cell that is hidden, and has a fault", x.fault(0, 0, 0), Cellmarket.HIDDEN);
            x.let(1, 0, 1, 0, 0, true);
            due("read", x.fault(0, 0, 0), Cellmarket.DIVISION);
            formula(x, 1, 0, C, 0, 0);
            due("a cell that is being found, and is hidden", x.fault(0, 0, 0), Cellmarket.HIDDEN);
            x.let(0, 1, 0, 0, 0, true);
            due("read", x.fault(0, 0, 0), Cellmarket.CIRCLE);
        });
    }

    private static void hidden() {
        Traced x = fresh();
        number(x, 1, 2, 30);
        x.give(0, 0, 0, 4);
        x.let(1, 0, 1, 2, 2, true);
        formula(x, 0, 0, C, 1, 2);
        x.let(4, 0, 0, 0, 0, true);
        due("who asks reads it, but the cell's owner does not", x.fault(0, 0, 0), Cellmarket.HIDDEN);
        x.give(4, 0, 0, 0);
        due("who told the formula does not read it, but the cell's owner does", x.fault(0, 0, 0), 0);
        formula(x, 0, 1, C, 1, 1);
        due("the row ahead", x.fault(0, 0, 1), Cellmarket.HIDDEN);
        formula(x, 0, 1, C, 1, 3);
        due("the row behind", x.fault(0, 0, 1), Cellmarket.HIDDEN);
        x.bell(0);
        x.let(1, 0, 1, 2, 2, false);
        due("now", x.fault(0, 0, 0), Cellmarket.HIDDEN);
        x.bell(0);
        due("read then", x.round(0, 1), 30);
        x.bell(0);
        x.let(1, 0, 1, 2, 2, true);
        due("now", x.fault(0, 0, 0), 0);
        x.bell(0);
        due("not read then", x.round(1, 4), Cellmarket.HIDDEN);
        formula(x, 0, 1, C, 0, 2);
        due("one's own", x.fault(0, 0, 1), 0);
    }

    private static void circle() {
        Traced x = fresh();
        formula(x, 0, 0, C, 0, 0);
        due("of one cell", x.fault(0, 0, 0), Cellmarket.CIRCLE);
        formula(x, 0, 0, C, 0, 1);
        formula(x, 0, 1, C, 0, 0);
        due("of two cells", x.fault(0, 0, 0), Cellmarket.CIRCLE);
        due("of two cells", x.fault(0, 0, 1), Cellmarket.CIRCLE);
        number(x, 0, 1, 6);
        formula(x, 0, 0, C, 0, 1, C, 0, 1, PLUS, 0, 0, C, 0, 2, PLUS, 0, 0);
        formula(x, 0, 2, C, 0, 1);
        due("asked again, but found", x.fault(0, 0, 0), 0);
        due("value", x.value(0, 0, 0), 18);
        formula(x, 0, 3, N, 1, 0, N, 2, 0, C, 0, 3, WHEN, 0, 0);
        due("also where WHEN does not take it", x.fault(0, 0, 3), Cellmarket.CIRCLE);
        formula(x, 0, 4, C, 0, 3);
        due("beside the circle", x.fault(0, 0, 4), Cellmarket.CIRCLE);
        Traced y = fresh();
        letAll(y);
        for (int i = 0; i < 24; i++) {
            formula(y, i / 6, i % 6, C, (i + 1) % 24 / 6, (i + 1) % 6);
        }
        due("of all cells", y.fault(0, 0, 0), Cellmarket.CIRCLE);
        due("of all cells", y.fault(3, 3, 5), Cellmarket.CIRCLE);
        number(y, 3, 5, 4);
        due("a chain of all cells", y.value(0, 0, 0), 4);
        due("a chain of all cells", y.fault(0, 0, 0), 0);
    }

    private static void range() {
        for (int sign : new int[] {1, -1}) {
            Traced x = fresh();
            great(x, 0, 1, sign);
            expectRange(x, "TIMES", sign * 1000000000, C, 0, 1);
            expectRange(x, "one less by PLUS", sign * 999999999, C, 0, 1, N, -sign, 0, PLUS, 0, 0);
            expectRange(x, "PLUS 0", sign * 1000000000, C, 0, 1, N, 0, 0, PLUS, 0, 0);
            expectFault(x, "PLUS one", Cellmarket.RANGE, C, 0, 1, N, sign, 0, PLUS, 0, 0);
            expectRange(x, "one less by MINUS", sign * 999999999, C, 0, 1, N, sign, 0, MINUS, 0, 0);
            expectFault(x, "MINUS one", Cellmarket.RANGE, C, 0, 1, N, -sign, 0, MINUS, 0, 0);
            expectRange(x, "TIMES 1", sign * 1000000000, C, 0, 1, N, 1, 0, TIMES, 0, 0);
            expectFault(x, "TIMES 2", Cellmarket.RANGE, C, 0, 1, N, 2, 0, TIMES, 0, 0);
            expectFault(x, "squared", Cellmarket.RANGE, C, 0, 1, C, 0, 1, TIMES, 0, 0);
            expectFault(x, "doubled", Cellmarket.RANGE, C, 0, 1, C, 0, 1, PLUS, 0, 0);
            expectRange(x, "OVER -1", -sign * 1000000000, C, 0, 1, N, -1, 0, OVER, 0, 0);
            expectFault(x, "back again", Cellmarket.RANGE, C, 0, 1, N, sign, 0, PLUS, 0, 0, N, sign, 0, MINUS, 0, 0);
            // 4295 * 1000000 wraps to 32704 as an int
            expectFault(x, "a wrap-around of int", Cellmarket.RANGE, N, 4295, 0, N, sign * 1000000, 0, TIMES, 0, 0);
        }
    }

    private static void expectRange(Traced x, String what, int want, int... words) {
        expectFault(x, what, 0, words);
        due("value, " + what, x.value(0, 0, 0), want);
    }

    private static void expectFault(Traced x, String what, int want, int... words) {
        formula(x, 0, 0, words);
        due("fault, " + what, x.fault(0, 0, 0), want);
        if (want != 0) {
            due("value, " + what, x.value(0, 0, 0), 0);
        }
    }

    // ---- acts

    private static void acts() {
        about(0, "Acts are give(), let(), enter(), empty(), notice(), share(), bid(), withdraw(), bell(), settle(), limit(), strikeBid() and strikeEdit().", EdgesOfTerms::eachAct);
        about(0, "A method that throws an exception changes nothing.", EdgesOfTerms::refusedChangesNothing);
        about(0, "If several exceptions apply, the one that is documented first is thrown.", EdgesOfTerms::firstException);
    }

    private static void eachAct() {
        Traced x = fresh();
        int events = 0;
        x.give(0, 0, 5, 0);
        due("give", x.events(), ++events);
        x.let(0, 1, 0, 5, 5, false);
        due("let", x.events(), ++events);
        x.let(4, 1, 0, 5, 5, false);
        due("let of no cell", x.events(), ++events);
        x.word(N, 1, 0);
        due("word", x.events(), events);
        x.enter(0, 0, 0);
        due("enter", x.events(), ++events);
        x.empty(0, 0, 1);
        due("empty", x.events(), ++events);
        x.notice(0, 0);
        due("notice", x.events(), ++events);
        x.share(0, false);
        due("share", x.events(), ++events);
        x.bid(0, 0, true, 1, 1);
        due("bid", x.events(), ++events);
        x.withdraw(0, 0);
        due("withdraw", x.events(), ++events);
        x.bell(0);
        due("bell that freezes", x.events(), ++events);
        x.bell(0);
        due("bell that clears", x.events(), ++events);
        x.settle(0);
        due("settle", x.events(), ++events);
        x.limit(0, 100000);
        due("limit", x.events(), ++events);
        x.strikeBid(0);
        due("strikeBid", x.events(), ++events);
        x.strikeEdit(0);
        due("strikeEdit", x.events(), ++events);
        noActs(x);
    }

    private static void noActs(Traced x) {
        x.word(N, 1, 0);
        unchanged(x, "ownerOf", m -> m.ownerOf(0, 0));
        unchanged(x, "reads", m -> m.reads(0, 0, 0));
        unchanged(x, "value", m -> m.value(0, 0, 0));
        unchanged(x, "fault", m -> m.fault(0, 0, 0));
        unchanged(x, "edits", m -> m.edits(0, 0));
        unchanged(x, "edit", m -> m.edit(0, 0, 0, 6));
        unchanged(x, "isFrozen", m -> m.isFrozen(0));
        unchanged(x, "round", m -> m.round(0, 5));
        unchanged(x, "priceAnew", m -> m.priceAnew(0));
        unchanged(x, "got", m -> m.got(0));
        unchanged(x, "due", m -> m.due(0, 0));
        unchanged(x, "cash", m -> m.cash(0));
        unchanged(x, "exposure", m -> m.exposure(0));
        unchanged(x, "events", m -> m.events());
        int events = x.events();
        x.wipe();
        due("wipe is no act", x.events(), events);
    }

    /** A sheet with something of everything: a frozen column, a draft, cleared bids and edits that are struck. */
    private static Traced busy() {
        Traced x = fresh();
        number(x, 0, 0, 7);
        number(x, 0, 1, 100);
        x.let(0, 4, 0, 0, 5, true);
        x.share(0, true);
        x.notice(2, 7);
        buy(x, 4, 0, 10, 9);
        buy(x, 5, 0, 5, 8);
        sell(x, 1, 0, 12, 7);
        round(x, 0);
        x.strikeBid(1);
        x.strikeEdit(1);
        x.settle(0);
        buy(x, 4, 0, 3, 9);
        sell(x, 1, 0, 3, 7);
        sell(x, 1, 2, 3, 7);
        x.withdraw(1, 5);
        x.bell(0);
        x.limit(3, 5);
        write(x, N, 5, 0, N, 6, 0);
        return x;
    }

    private static void refusedChangesNothing() {
        Traced x = busy();
        refused(x, "give", NOT, m -> m.give(4, 0, 0, 5));
        refused(x, "let", BAD, m -> m.let(0, 3, 0, 4, 1, true));
        refused(x, "word", NOT, m -> m.word(WHEN, 0, 0));
        refused(x, "enter, two numbers", NOT, m -> m.enter(1, 1, 0));
        refused(x, "enter, frozen", NOT, m -> m.enter(0, 0, 0));
        refused(x, "empty, frozen", NOT, m -> m.empty(0, 0, 0));
        refused(x, "notice", BAD, m -> m.notice(0, 51));
        refused(x, "value", NOT, m -> m.value(3, 0, 0));
        refused(x, "fault", NOT, m -> m.fault(3, 0, 0));
        refused(x, "edit", OUT, m -> m.edit(0, 0, 1, 0));
        refused(x, "bid, frozen", NOT, m -> m.bid(4, 0, false, 1, 1));
        refused(x, "bid, above the limit", NOT, m -> m.bid(3, 1, true, 1, 6));
        refused(x, "withdraw, frozen", NOT, m -> m.withdraw(4, 3));
        refused(x, "withdraw, withdrawn", NOT, m -> m.withdraw(1, 5));
        refused(x, "withdraw, another's in an open column", NOT, m -> m.withdraw(4, 5));
        refused(x, "share", OUT, m -> m.share(4, true));
        refused(x, "bell", OUT, m -> m.bell(4));
        refused(x, "round", OUT, m -> m.round(1, 0));
        refused(x, "priceAnew", OUT, m -> m.priceAnew(1));
        refused(x, "settle", OUT, m -> m.settle(4));
        refused(x, "limit", BAD, m -> m.limit(0, -1));
        refused(x, "strikeBid, frozen", NOT, m -> m.strikeBid(3));
        refused(x, "strikeBid, struck", NOT, m -> m.strikeBid(1));
        refused(x, "strikeEdit, struck", NOT, m -> m.strikeEdit(1));
        for (int i = 1; i < 30; i++) {
            x.bell(i % 3 + 1);
            x.bell(i % 3 + 1);
        }
        refused(x, "bell, the 31st round", NOT, m -> m.bell(0));
    }

    private static void firstException() {
        Traced x = busy();
        refused(x, "give, not the owner's, to nobody", OUT, m -> m.give(4, 0, 0, 6));
        refused(x, "let, the same one, of no column", OUT, m -> m.let(1, 1, 4, 0, 0, true));
        refused(x, "let, to below from, of no owner", OUT, m -> m.let(1, 6, 0, 3, 2, true));
        refused(x, "enter, frozen, two numbers, not the owner's, of no row", OUT, m -> m.enter(4, 0, 6));
        refused(x, "empty, frozen, not the owner's, of no row", OUT, m -> m.empty(4, 0, 6));
        refused(x, "notice of 51, of no column", OUT, m -> m.notice(4, 51));
        refused(x, "value, not read, of no row", OUT, m -> m.value(3, 0, 6));
        refused(x, "fault, not read, of no row", OUT, m -> m.fault(3, 0, 6));
        refused(x, "edit, no such place, what 7", OUT, m -> m.edit(0, 0, 1, 7));
        refused(x, "bid for 0, frozen, of no owner", OUT, m -> m.bid(6, 0, true, 0, 1));
        refused(x, "bid for 0, frozen", BAD, m -> m.bid(4, 0, true, 0, 1));
        refused(x, "bid above the limit, at 10000", BAD, m -> m.bid(3, 1, true, 1, 10000));
        refused(x, "withdraw, no such bid, of no owner", OUT, m -> m.withdraw(6, 6));
        refused(x, "withdraw, not the owner's, of no owner", OUT, m -> m.withdraw(6, 3));
        refused(x, "round, no such round, what 6", OUT, m -> m.round(1, 6));
        refused(x, "limit of -1, of no owner", OUT, m -> m.limit(6, -1));
        for (int i = 3; i <= 12; i++) {
            x.word(N, 0, 0);
        }
        refused(x, "word, a 13th one", NOT, m -> m.word(N, 0, 0));
        refused(x, "word, a 13th one, out of range", BAD, m -> m.word(N, 1000001, 0));
    }

    // ---- constants

    private static void constants() {
        about(0, "`NONE = -1`: There is none.", () -> {
            Traced x = fresh();
            due("NONE", Cellmarket.NONE, -1);
            due("a bell that freezes", x.bell(0), -1);
            x.bell(0);
            due("a price", x.round(0, 1), -1);
        });
        about(0, "`NUMBER = 0, CELL = 1, BUY = 2, SELL = 3, BUYS = 4, SELLS = 5, BIDS = 6, LAST = 7, PLUS = 8, MINUS = 9, TIMES = 10, OVER = 11, LEAST = 12, MOST = 13, WHEN = 14`: Words of formulas.", () -> {
            int[] words = {Cellmarket.NUMBER, Cellmarket.CELL, Cellmarket.BUY, Cellmarket.SELL, Cellmarket.BUYS, Cellmarket.SELLS,
                Cellmarket.BIDS, Cellmarket.LAST, Cellmarket.PLUS, Cellmarket.MINUS, Cellmarket.TIMES, Cellmarket.OVER,
                Cellmarket.LEAST, Cellmarket.MOST, Cellmarket.WHEN};
            for (int i = 0; i < 15; i++) {
                due("word", words[i], i);
            }
        });
        about(0, "`HIDDEN = 1, CIRCLE = 2, DIVISION = 3, RANGE = 4, EMPTY = 5, NEGATIVE = 6`: Faults, and why a round is void.", () -> {
            int[] faults = {Cellmarket.HIDDEN, Cellmarket.CIRCLE, Cellmarket.DIVISION, Cellmarket.RANGE, Cellmarket.EMPTY, Cellmarket.NEGATIVE};
            for (int i = 0; i < 6; i++) {
                due("fault", faults[i], i + 1);
            }
        });
    }
}
