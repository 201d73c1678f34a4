/** The sentences of the document ahead of the promises that name an edge: rounds, settling, limits, disputes. */
final class EdgesOfTrades extends Check {
    private EdgesOfTrades() {
    }

    static void all() {
        rounds();
        prices();
        sharing();
        dues();
        settling();
        limits();
        disputes();
    }

    // ---- rounds

    private static void rounds() {
        about(0, "Rounds are numbered from 0, as they are cleared; at most 30 are.", () -> {
            Traced x = fresh();
            x.bell(2);
            x.bell(1);
            due("frozen last, cleared first", x.bell(1), 0);
            due("frozen first, cleared last", x.bell(2), 1);
            due("column", x.round(0, 0), 1);
            due("column", x.round(1, 0), 2);
            for (int i = 2; i < 30; i++) {
                due("round", round(x, i % 4), i);
            }
            due("the 31st freezes", x.bell(3), Cellmarket.NONE);
            refused(x, "the 31st", NOT, m -> m.bell(3));
            refused(x, "round 30", OUT, m -> m.round(30, 0));
            due("round 29", x.round(29, 0), 1);
        });
        about(0, "Each column is open at first.", () -> {
            Traced x = fresh();
            for (int c = 0; c < 4; c++) {
                due("isFrozen", x.isFrozen(c), false);
                due("a bid", x.bid(0, c, true, 1, 1), 2 * c);
                due("an edit", x.empty(c, c, 0), c);
                due("a bid", x.bid(0, c, false, 1, 1), 2 * c + 1);
                due("withdrawn", x.withdraw(0, 2 * c), 1);
            }
        });
        about(0, "Its bell freezes it: then no bids are made or withdrawn in it, and no edits told for its cells.", EdgesOfTrades::frozen);
        about(0, "Its next bell clears it, and it is open again, for new bids.", () -> {
            Traced x = fresh();
            number(x, 0, 0, 5);
            buy(x, 0, 0, 4, 5);
            round(x, 0);
            due("open again", x.isFrozen(0), false);
            refused(x, "withdraw one of the cleared round", NOT, m -> m.withdraw(0, 0));
            sell(x, 1, 0, 3, 5);
            due("the next one is frozen", x.bell(0), Cellmarket.NONE);
            due("and cleared", x.bell(0), 1);
            due("an old bid does not trade with a new one", x.round(1, 2), 0);
            expectGot(x, 0, 0, 0);
            buy(x, 0, 0, 2, 5);
            sell(x, 1, 0, 3, 5);
            round(x, 0);
            expectGot(x, 0, 0, 0, 2, 2);
        });
        about(0, "What clearing takes from cells is their value at the event of the bell that froze it.", EdgesOfTrades::valueThen);
    }

    private static void frozen() {
        Traced x = fresh();
        buy(x, 0, 0, 1, 1);
        buy(x, 0, 0, 2, 1);
        buy(x, 0, 1, 3, 1);
        due("withdraw right ahead", x.withdraw(0, 0), 1);
        x.word(N, 7, 0);
        x.bell(0);
        refused(x, "a bid to buy", NOT, m -> m.bid(0, 0, true, 1, 1));
        refused(x, "a bid to sell", NOT, m -> m.bid(0, 0, false, 1, 1));
        refused(x, "withdraw", NOT, m -> m.withdraw(0, 1));
        for (int r = 0; r < 6; r++) {
            int row = r;
            refused(x, "enter", NOT, m -> m.enter(0, 0, row));
            refused(x, "empty", NOT, m -> m.empty(0, 0, row));
        }
        due("a bid in another column", x.bid(0, 3, true, 1, 1), 3);
        due("withdraw in another column", x.withdraw(0, 2), 3);
        due("an edit in another column", x.enter(3, 3, 0), 0);
        due("give is not refused", x.give(0, 0, 1, 5), 1);
        due("let is not refused", x.let(0, 4, 0, 0, 5, true), 5);
        due("notice is not refused", x.notice(0, 3), 0);
        due("share is not refused", x.share(0, true), false);
        due("settle is not refused", x.settle(0), 0);
        due("strikeEdit is not refused", x.strikeEdit(0), 0);
        x.bell(0);
        due("a bid right behind", x.bid(0, 0, true, 1, 1), 4);
        due("withdraw right behind", x.withdraw(0, 4), 1);
        due("an edit right behind", x.empty(0, 0, 0), 1);
    }

    /** Notices that end at the event of the bell, and one behind it; what changes between the bells. */
    private static void valueThen() {
        Traced x = fresh();
        letAll(x);
        formula(x, 0, 0, C, 1, 2, C, 1, 3, PLUS, 0, 0, Cellmarket.LAST, 2, 0, PLUS, 0, 0, Cellmarket.SELLS, 2, 0, PLUS, 0, 0);
        formula(x, 0, 1, C, 1, 4);
        number(x, 2, 0, 2000);
        sell(x, 4, 2, 5, 0);
        x.notice(1, 5);
        number(x, 1, 2, 10);
        number(x, 1, 3, 300);
        number(x, 1, 4, 40);
        wait(x, 2);
        due("value ahead", seen(x, 0, 0), 15);
        due("the first one counts now", x.edit(1, 2, 0, 2), x.events());
        x.bell(0);
        due("value right behind", seen(x, 0, 0), 315);
        wait(x, 1);
        due("the third one counts too", seen(x, 0, 1), 40);
        round(x, 2);
        due("value", seen(x, 0, 0), 2310);
        x.bell(0);
        due("price", x.round(1, 1), 15);
        due("fee", x.round(1, 3), 0);
        round(x, 0);
        due("the next price", x.round(2, 1), 2310);
        due("the next fee", x.round(2, 3), 40);
    }

    // ---- price, fee, volume

    private static void prices() {
        about(0, "The price of a round is the value of row 0 of the column", () -> {
            for (int c = 0; c < 4; c++) {
                Traced x = fresh();
                for (int r = 0; r < 6; r++) {
                    number(x, c, r, 10 + r);
                }
                due("price of column " + c, x.round(round(x, c), 1), 10);
            }
        });
        about(0, "there is none, and the round is void, if that cell is empty, or has a fault, or the value is below 0.", EdgesOfTrades::voidRounds);
        about(0, "Its fee is the value of row 1, 0 if that is below 0, empty, or has a fault, 1000 if it is above that", EdgesOfTrades::fees);
        about(0, "it goes to the owner of row 1 at the event of the bell that froze it.", () -> {
            Traced x = fresh();
            number(x, 0, 0, 10);
            number(x, 0, 1, 1000);
            for (int i = 0; i < 2; i++) {
                buy(x, 5, 0, 1, 10);
                sell(x, 5, 0, 1, 10);
                x.give(x.ownerOf(0, 1), 0, 1, 1 + i);
                x.bell(0);
                x.give(1 + i, 0, 1, 3);
                x.bell(0);
            }
            expectDues(x, 0, 0, -10, -10, 0, 0, 20);
            for (int c = 0; c < 4; c++) {
                feesOfOneRow(c);
            }
        });
        about(0, "Bids to buy whose limit is not below the price, and bids to sell whose limit is not above it, take part.", EdgesOfTrades::takingPart);
        about(0, "The volume is the lesser of how much both are for.", EdgesOfTrades::volumes);
    }

    /** All rows of the column but row 1 are given away. */
    private static void feesOfOneRow(int column) {
        Traced x = fresh();
        number(x, column, 0, 10);
        number(x, column, 1, 1000);
        for (int i = 0; i < 24; i++) {
            x.give(i / 6, i / 6, i % 6, i == column * 6 + 1 ? 4 : 5);
        }
        buy(x, 0, column, 1, 10);
        sell(x, 1, column, 1, 10);
        round(x, column);
        expectDues(x, column, 20, -10, 0, 0, -10, 0);
    }

    private static void voidRounds() {
        Traced x = fresh();
        int[][] formulas = {{N, -1, 0}, {N, -1000000, 0}, {C, 1, 0}, {C, 0, 0}, {N, 1, 0, N, 0, 0, OVER, 0, 0},
            {N, 1000000, 0, N, 1001, 0, TIMES, 0, 0}};
        int[] reasons = {Cellmarket.NEGATIVE, Cellmarket.NEGATIVE, Cellmarket.HIDDEN, Cellmarket.CIRCLE, Cellmarket.DIVISION, Cellmarket.RANGE};
        buy(x, 4, 0, 1, 9999);
        sell(x, 5, 0, 1, 0);
        number(x, 0, 1, 100);
        expectRound(x, round(x, 0), 0, Cellmarket.NONE, 0, 0, Cellmarket.EMPTY, 0);
        for (int i = 0; i < formulas.length; i++) {
            formula(x, 0, 0, formulas[i]);
            buy(x, 4, 0, 1, 9999);
            sell(x, 5, 0, 1, 0);
            expectRound(x, round(x, 0), 0, Cellmarket.NONE, 0, 0, reasons[i], 0);
        }
        expectDues(x, 0, 0, 0, 0, 0, 0, 0);
        number(x, 0, 0, 0);
        buy(x, 4, 0, 1, 9999);
        sell(x, 5, 0, 1, 0);
        expectRound(x, round(x, 0), 0, 0, 1, 100, 0, 0);
        number(x, 0, 0, 1);
        expectRound(x, round(x, 0), 0, 1, 0, 100, 0, 0);
        x.empty(0, 0, 0);
        expectRound(x, round(x, 0), 0, Cellmarket.NONE, 0, 0, Cellmarket.EMPTY, 0);
    }

    private static void fees() {
        Traced x = fresh();
        number(x, 0, 0, 10);
        due("empty", x.round(round(x, 0), 3), 0);
        int[][] values = {{-1000000, 0}, {-1, 0}, {0, 0}, {1, 1}, {999, 999}, {1000, 1000}, {1001, 1000}, {1000000, 1000}};
        for (int[] v : values) {
            number(x, 0, 1, v[0]);
            due("fee of " + v[0], x.round(round(x, 0), 3), v[1]);
        }
        great(x, 0, 1, 1);
        due("fee of the greatest number", x.round(round(x, 0), 3), 1000);
        great(x, 0, 1, -1);
        due("fee of the least number", x.round(round(x, 0), 3), 0);
        int[][] faults = {{C, 1, 0}, {C, 0, 1}, {N, 1, 0, N, 0, 0, OVER, 0, 0}, {N, 1000000, 0, N, 1001, 0, TIMES, 0, 0}};
        for (int[] f : faults) {
            formula(x, 0, 1, f);
            int number = round(x, 0);
            due("fee of a fault", x.round(number, 3), 0);
            due("the price stands", x.round(number, 1), 10);
            due("not void", x.round(number, 4), 0);
        }
        x.empty(0, 0, 1);
        due("empty again", x.round(round(x, 0), 3), 0);
    }

    private static void takingPart() {
        for (int price : new int[] {0, 1, 5, 9998, 9999}) {
            Traced x = fresh();
            x.limit(4, 1000000);
            number(x, 0, 0, price);
            for (int limit = price - 1; limit <= price + 1; limit++) {
                if (limit >= 0 && limit <= 9999) {
                    int buy = x.bid(4, 0, true, 1, limit);
                    int sell = x.bid(5, 0, false, 1, price);
                    round(x, 0);
                    due("price " + price + ", to buy at " + limit, x.got(buy), limit >= price ? 1 : 0);
                    due("the other side", x.got(sell), x.got(buy));
                    buy = x.bid(4, 0, true, 1, price);
                    sell = x.bid(5, 0, false, 1, limit);
                    round(x, 0);
                    due("price " + price + ", to sell at " + limit, x.got(sell), limit <= price ? 1 : 0);
                    due("the other side", x.got(buy), x.got(sell));
                }
            }
        }
        Traced x = fresh();
        number(x, 0, 0, 10000);
        buy(x, 4, 0, 1, 9999);
        sell(x, 5, 0, 1, 9999);
        expectRound(x, round(x, 0), 0, 10000, 0, 0, 0, 0);
        great(x, 0, 0, 1);
        buy(x, 4, 0, 9, 9999);
        sell(x, 5, 0, 100, 9999);
        expectRound(x, round(x, 0), 0, 1000000000, 0, 0, 0, 0);
        expectDues(x, 0, 0, 0, 0, 0, 0, 0);
    }

    private static void volumes() {
        int[][] sides = {{0, 0, 0}, {0, 7, 0}, {7, 0, 0}, {7, 7, 7}, {7, 8, 7}, {8, 7, 7}, {1, 100, 1}, {100, 100, 100}};
        for (int byShares = 0; byShares < 2; byShares++) {
            Traced x = fresh();
            number(x, 0, 0, 1);
            x.share(0, byShares == 1);
            for (int[] s : sides) {
                if (s[0] > 0) {
                    buy(x, 4, 0, s[0], 1);
                }
                if (s[1] > 0) {
                    sell(x, 5, 0, s[1], 1);
                }
                due("volume of " + s[0] + " and " + s[1], x.round(round(x, 0), 2), s[2]);
            }
            for (int i = 0; i < 60; i++) {
                x.bid(i % 6, 0, i < 29, 100, 1);
            }
            due("volume of 2900 and 3100", x.round(round(x, 0), 2), 2900);
        }
    }

    // ---- sharing

    private static void sharing() {
        about(0, "On each side it is shared by order or by shares, as was told for the column ahead of the bell that froze it (by order at first)", EdgesOfTrades::sharingAsTold);
        about(0, "by order, greater limits to buy, and lesser ones to sell, first", () -> {
            Traced x = fresh();
            number(x, 0, 0, 50);
            for (int limit : new int[] {50, 52, 51}) {
                buy(x, 4, 0, 1, limit);
                sell(x, 5, 0, 1, 100 - limit);
            }
            buy(x, 4, 0, 9, 49);
            sell(x, 5, 0, 9, 51);
            round(x, 0);
            expectGot(x, 0, 1, 1, 1, 1, 1, 1, 0, 0);
            for (int limit : new int[] {50, 52, 51}) {
                buy(x, 4, 0, 1, limit);
            }
            sell(x, 5, 0, 2, 0);
            round(x, 0);
            expectGot(x, 8, 0, 1, 1, 2);
            for (int limit : new int[] {50, 0, 49}) {
                sell(x, 5, 0, 1, limit);
            }
            buy(x, 4, 0, 1, 9999);
            round(x, 0);
            expectGot(x, 12, 0, 1, 0, 1);
        });
        about(0, "of the same limit those that were made first, each as much as it is for, as far as the volume goes", EdgesOfTrades::sameLimit);
        about(0, "by shares, each gets the volume times what it is for, divided by what all on its side that take part are for, rounded down", EdgesOfTrades::sharesRoundedDown);
        about(0, "what is left goes one by one to those with the greatest remainders, of several to those that were made first.", EdgesOfTrades::whatIsLeft);
    }

    /** Two bids to buy, of which by order the latter gets all, by shares each the half. */
    private static void sharingAsTold() {
        Traced x = fresh();
        number(x, 0, 0, 1);
        number(x, 1, 0, 1);
        twoAndOne(x, 0);
        round(x, 0);
        expectGot(x, 0, 0, 2, 2);
        twoAndOne(x, 0);
        x.share(1, true);
        x.share(0, true);
        x.bell(0);
        x.share(0, false);
        x.bell(0);
        expectGot(x, 3, 1, 1, 2);
        twoAndOne(x, 0);
        x.bell(0);
        x.share(0, true);
        x.bell(0);
        expectGot(x, 6, 0, 2, 2);
        x.share(0, false);
        x.share(0, true);
        twoAndOne(x, 0);
        round(x, 0);
        expectGot(x, 9, 1, 1, 2);
        x.share(0, false);
        twoAndOne(x, 1);
        round(x, 1);
        expectGot(x, 12, 1, 1, 2);
        int edit = number(x, 3, 3, 3);
        due("reckoned again alike", x.strikeEdit(edit), 0);
        expectGot(x, 0, 0, 2, 2, 1, 1, 2, 0, 2, 2, 1, 1, 2, 1, 1, 2);
    }

    private static void twoAndOne(Traced x, int column) {
        buy(x, 4, column, 2, 1);
        buy(x, 4, column, 2, 2);
        sell(x, 5, column, 2, 1);
    }

    private static void sameLimit() {
        for (int volume = 1; volume <= 9; volume++) {
            Traced x = fresh();
            number(x, 0, 0, 50);
            for (int i = 0; i < 3; i++) {
                buy(x, 3 - i, 0, 3, 60);
            }
            sell(x, 5, 0, volume, 50);
            round(x, 0);
            for (int i = 0; i < 3; i++) {
                due("of " + volume + " the bid " + i, x.got(i), Math.max(0, Math.min(3, volume - 3 * i)));
            }
            for (int i = 0; i < 3; i++) {
                sell(x, 3 - i, 0, 3, 40);
            }
            buy(x, 5, 0, volume, 50);
            round(x, 0);
            for (int i = 0; i < 3; i++) {
                due("of " + volume + " the bid to sell " + i, x.got(4 + i), Math.max(0, Math.min(3, volume - 3 * i)));
            }
        }
    }

    private static void sharesRoundedDown() {
        Traced x = fresh();
        number(x, 0, 0, 50);
        x.share(0, true);
        // 10 times 5, 3 and 2, divided by 10
        buy(x, 0, 0, 5, 99);
        buy(x, 1, 0, 3, 50);
        buy(x, 2, 0, 2, 60);
        buy(x, 3, 0, 90, 49);
        sell(x, 4, 0, 10, 50);
        sell(x, 5, 0, 90, 51);
        round(x, 0);
        expectGot(x, 0, 5, 3, 2, 0, 10, 0);
        // 7 times 6, 3 and 1, divided by 10: 4.2, 2.1, 0.7; those at 49 and 51 do not count
        buy(x, 0, 0, 6, 50);
        buy(x, 1, 0, 3, 50);
        buy(x, 2, 0, 1, 50);
        buy(x, 3, 0, 90, 49);
        sell(x, 4, 0, 7, 50);
        sell(x, 5, 0, 90, 51);
        round(x, 0);
        expectGot(x, 6, 4, 2, 1, 0, 7, 0);
        // a volume of 5 of 100 to sell: 0.05, 0.95, 4 and nothing left but one
        sell(x, 0, 0, 1, 50);
        sell(x, 1, 0, 19, 50);
        sell(x, 2, 0, 80, 0);
        buy(x, 3, 0, 5, 50);
        round(x, 0);
        expectGot(x, 12, 0, 1, 4, 5);
        sell(x, 0, 0, 100, 50);
        buy(x, 3, 0, 1, 50);
        round(x, 0);
        expectGot(x, 16, 1, 1);
    }

    private static void whatIsLeft() {
        Traced x = fresh();
        number(x, 0, 0, 50);
        x.share(0, true);
        // 8 times 4, 4, 2 and 3, divided by 13: 2, 2, 1 and 1 with remainders of 6, 6, 3 and 11; two are left
        int[] many = {4, 4, 2, 3};
        for (int i = 0; i < 4; i++) {
            buy(x, 3 - i, 0, many[i], 50 + i);
        }
        sell(x, 5, 0, 8, 50);
        round(x, 0);
        expectGot(x, 0, 3, 2, 1, 2, 8);
        Traced y = fresh();
        number(y, 0, 0, 50);
        y.share(0, true);
        // all remainders alike: those made first, not those at better limits, nor the owners with lower numbers
        for (int i = 0; i < 5; i++) {
            sell(y, 5 - i, 0, 10, 50 - i);
        }
        buy(y, 5, 0, 3, 50);
        round(y, 0);
        expectGot(y, 0, 1, 1, 1, 0, 0, 3);
        // none left
        buy(y, 0, 0, 2, 50);
        buy(y, 0, 0, 2, 50);
        sell(y, 1, 0, 2, 50);
        round(y, 0);
        expectGot(y, 6, 1, 1, 2);
        // one left of many
        buy(y, 0, 0, 100, 50);
        buy(y, 0, 0, 99, 50);
        sell(y, 1, 0, 1, 50);
        round(y, 0);
        expectGot(y, 9, 1, 0, 1);
        // all but one of what there is to sell: each lacks a part of one
        for (int i = 0; i < 4; i++) {
            sell(y, i, 0, 1, 50);
        }
        buy(y, 5, 0, 3, 50);
        round(y, 0);
        expectGot(y, 12, 1, 1, 1, 0, 3);
    }

    // ---- dues

    private static void dues() {
        about(0, "Who buys owes the price times what the bid gets, and besides that times the fee, divided by 1000, rounded down, bid by bid", EdgesOfTrades::feesRoundedDown);
        about(0, "who sells gets the price times what the bid gets; the owner of row 1 gets the fees.", () -> {
            Traced x = fresh();
            number(x, 0, 0, 20);
            number(x, 0, 1, 500);
            x.give(0, 0, 1, 3);
            buy(x, 1, 0, 10, 9999);
            sell(x, 2, 0, 7, 0);
            round(x, 0);
            expectDues(x, 0, 0, 140 + 70, -140, -70, 0, 0);
            buy(x, 3, 0, 10, 20);
            sell(x, 3, 0, 10, 20);
            round(x, 0);
            expectDues(x, 0, 0, 210, -140, -70, 0, 0);
            due("fees from and to oneself are paid", x.round(1, 5), 100);
        });
        about(0, "All that is in thousandths.", () -> {
            Traced x = fresh();
            number(x, 0, 0, 1);
            buy(x, 1, 0, 1, 1);
            sell(x, 2, 0, 1, 1);
            round(x, 0);
            due("a price of 1 thousandth", x.due(1, 0), 1);
            due("counts so for the limit", x.exposure(1), 1);
        });
        about(0, "The due of an owner in a column is what they owe less what they get, over all its rounds, less what was settled there.", () -> {
            Traced x = fresh();
            number(x, 0, 0, 100);
            number(x, 1, 0, 100);
            due("none yet", x.due(1, 0), 0);
            trade(x, 0, 1, 2, 5);
            trade(x, 0, 2, 1, 3);
            trade(x, 0, 1, 3, 1);
            expectDues(x, 0, 0, 300, -200, -100, 0, 0);
            expectDues(x, 1, 0, 0, 0, 0, 0, 0);
            x.settle(1);
            expectDues(x, 0, 0, 300, -200, -100, 0, 0);
            x.settle(0);
            expectDues(x, 0, 0, 0, 0, 0, 0, 0);
            trade(x, 0, 2, 1, 4);
            trade(x, 1, 2, 1, 1);
            expectDues(x, 0, 0, -400, 400, 0, 0, 0);
            expectDues(x, 1, 0, -100, 100, 0, 0, 0);
        });
    }

    /** One owner buys from another one, at 50 or whatever the price is up to 9999. */
    private static void trade(Traced x, int column, int buyer, int seller, int many) {
        x.limit(buyer, 1000000000);
        buy(x, buyer, column, many, 9999);
        sell(x, seller, column, many, 0);
        round(x, column);
    }

    private static void feesRoundedDown() {
        int[][] cases = {{1, 1, 999, 0}, {1, 1, 1000, 1}, {999, 1, 1, 0}, {1000, 1, 1, 1}, {1001, 1, 1, 1}, {1, 100, 9, 0}, {1, 100, 10, 1},
            {1, 100, 19, 1}, {1, 100, 20, 2}, {9999, 100, 1000, 999900}, {9999, 100, 999, 998900}, {0, 100, 1000, 0}, {50, 10, 0, 0}};
        for (int[] c : cases) {
            Traced x = fresh();
            number(x, 0, 0, c[0]);
            number(x, 0, 1, c[2]);
            trade(x, 0, 1, 2, c[1]);
            expectDues(x, 0, -c[3], c[0] * c[1] + c[3], -c[0] * c[1], 0, 0, 0);
            due("fees paid", x.round(0, 5), c[3]);
        }
        Traced x = fresh();
        number(x, 0, 0, 1);
        number(x, 0, 1, 999);
        for (int i = 0; i < 3; i++) {
            buy(x, 1, 0, 1, 1);
        }
        buy(x, 1, 0, 3, 1);
        sell(x, 2, 0, 6, 1);
        round(x, 0);
        // 0.999 three times, and 2.997
        expectDues(x, 0, -2, 8, -6, 0, 0, 0);
    }

    // ---- settling

    private static void settling() {
        about(0, "each due is paid in hundredths, that is, tenths of it", () -> {
            Traced x = fresh();
            due("nothing to settle", x.settle(0), 0);
            expectCash(x, 0, 0, 0, 0, 0, 0);
            number(x, 0, 0, 10);
            trade(x, 0, 1, 2, 7);
            due("settle", x.settle(0), 7);
            expectCash(x, 0, -7, 7, 0, 0, 0);
        });
        about(0, "those that are not whole are rounded down at first (an owner who gets something has a due below 0)", () -> {
            for (int due = 1; due <= 21; due++) {
                Traced x = fresh();
                number(x, 0, 0, 1);
                trade(x, 0, 1, 2, due);
                // Rounded down, both together lack a hundredth; the buyer's cut-off part is greater from 5 on, and at 5 alike.
                int pays = due / 10 + (due % 10 >= 5 ? 1 : 0);
                due("settle " + due, x.settle(0), pays);
                expectCash(x, 0, -pays, pays, 0, 0, 0);
                expectDues(x, 0, 0, 0, 0, 0, 0, 0);
            }
        });
        about(0, "what is lacking, so that all together come to 0, is paid by those, one hundredth each, whose cut-off part is greatest", EdgesOfTrades::lacking);
        about(0, "of several the lowest; the due is 0 then.", EdgesOfTrades::lackingAlike);
        about(0, "Cash is in hundredths, 0 at first, and can be below 0.", () -> {
            Traced x = fresh();
            expectCash(x, 0, 0, 0, 0, 0, 0);
            number(x, 0, 0, 9999);
            trade(x, 0, 1, 2, 100);
            due("not settled", x.cash(1), 0);
            x.settle(0);
            expectCash(x, 0, -99990, 99990, 0, 0, 0);
            trade(x, 0, 1, 2, 100);
            x.settle(0);
            expectCash(x, 0, -199980, 199980, 0, 0, 0);
            trade(x, 0, 2, 1, 100);
            x.settle(0);
            expectCash(x, 0, -99990, 99990, 0, 0, 0);
        });
    }

    /** Dues of 9, 8, 7, 6, 5 and -35: tenths of 0, and of -4 with 5 cut off; four are lacking. */
    private static void lacking() {
        Traced x = fresh();
        number(x, 0, 0, 1);
        for (int o = 0; o < 5; o++) {
            buy(x, o, 0, 5 + o, 1);
        }
        sell(x, 5, 0, 35, 1);
        round(x, 0);
        due("settle", x.settle(0), 4);
        expectCash(x, 0, -1, -1, -1, -1, 4);
        // dues of 1, 2, 3, 4, 5 and -15: -2 with 5 cut off, two are lacking
        for (int o = 0; o < 5; o++) {
            buy(x, o, 0, 1 + o, 1);
        }
        sell(x, 5, 0, 15, 1);
        round(x, 0);
        due("settle", x.settle(0), 1);
        expectCash(x, 0, -1, -1, -1, -2, 4 + 1);
        // dues of 19, 11, 0, -10, -9, -11: 1 and 9, 1 and 1, 0, -1 and 0, -1 and 1, -2 and 9; two are lacking
        buy(x, 0, 0, 19, 1);
        buy(x, 1, 0, 11, 1);
        sell(x, 3, 0, 10, 1);
        sell(x, 4, 0, 9, 1);
        sell(x, 5, 0, 11, 1);
        round(x, 0);
        due("settle", x.settle(0), 3);
        expectCash(x, -2, -2, -1, 0, -1, 6);
    }

    private static void lackingAlike() {
        Traced x = fresh();
        number(x, 0, 0, 1);
        // dues of 4, 4, 4, 4, 4 and -20: two are lacking
        for (int o = 4; o >= 0; o--) {
            buy(x, o, 0, 4, 1);
        }
        sell(x, 5, 0, 20, 1);
        round(x, 0);
        due("settle", x.settle(0), 2);
        expectCash(x, -1, -1, 0, 0, 0, 2);
        expectDues(x, 0, 0, 0, 0, 0, 0, 0);
        due("settle again", x.settle(0), 0);
        expectCash(x, -1, -1, 0, 0, 0, 2);
        // dues of 12, -4, -4 and -4: three with 6 cut off, one with 2; two are lacking
        sell(x, 3, 0, 4, 1);
        sell(x, 2, 0, 4, 1);
        sell(x, 1, 0, 4, 1);
        buy(x, 0, 0, 12, 1);
        round(x, 0);
        due("settle", x.settle(0), 1);
        expectCash(x, -2, -1, 0, 1, 0, 2);
        expectDues(x, 0, 0, 0, 0, 0, 0, 0);
    }

    // ---- limits

    private static void limits() {
        about(0, "An owner has a limit, 100000 thousandths at first", () -> {
            for (int o = 0; o < 6; o++) {
                int owner = o;
                Traced x = fresh();
                refused(x, "100100 at first", NOT, m -> m.bid(owner, 0, true, 100, 1001));
                due("100000 at first", x.bid(o, 0, true, 100, 1000), 0);
                refused(x, "1 more", NOT, m -> m.bid(owner, 3, true, 1, 1));
                due("the limit", x.limit(o, 100001), 100000);
                due("1 more", x.bid(o, 3, true, 1, 1), 1);
            }
        });
        about(0, "a bid to buy is refused if it, times its limit, and all other bids of the owner to buy", () -> {
            Traced x = fresh();
            x.limit(1, 1000);
            refused(x, "one of 1001", NOT, m -> m.bid(1, 0, true, 7, 143));
            buy(x, 1, 0, 100, 9);
            refused(x, "101 besides 900", NOT, m -> m.bid(1, 1, true, 1, 101));
            due("to sell is not refused", x.bid(1, 1, false, 100, 9999), 1);
            refused(x, "bids to sell don't take anything off", NOT, m -> m.bid(1, 1, true, 1, 101));
            due("another owner's do not count", x.bid(2, 1, true, 100, 1000), 2);
            due("100 besides 900", x.bid(1, 1, true, 1, 100), 3);
            due("0 besides 1000", x.bid(1, 2, true, 100, 0), 4);
            refused(x, "1 besides 1000", NOT, m -> m.bid(1, 2, true, 1, 1));
            x.limit(1, 999);
            refused(x, "0 besides more than the limit", NOT, m -> m.bid(1, 2, true, 1, 0));
            due("to sell is not refused", x.bid(1, 2, false, 1, 0), 5);
        });
        about(0, "in rounds that are not cleared, each times its limit", () -> {
            Traced x = fresh();
            x.limit(1, 1000);
            number(x, 0, 0, 0);
            buy(x, 1, 0, 10, 100);
            refused(x, "open", NOT, m -> m.bid(1, 1, true, 1, 1));
            x.bell(0);
            refused(x, "frozen", NOT, m -> m.bid(1, 1, true, 1, 1));
            x.bell(0);
            due("cleared", x.bid(1, 1, true, 10, 100), 1);
            x.withdraw(1, 1);
            due("withdrawn", x.bid(1, 1, true, 10, 100), 2);
            round(x, 1);
            due("cleared, and void", x.bid(1, 1, true, 10, 100), 3);
        });
        about(0, "and the dues of the owner that are above 0, together are more.", EdgesOfTrades::duesAndLimit);
    }

    private static void duesAndLimit() {
        Traced x = fresh();
        number(x, 0, 0, 100);
        number(x, 1, 0, 100);
        number(x, 2, 0, 100);
        trade(x, 0, 1, 2, 3);
        trade(x, 1, 1, 2, 4);
        trade(x, 2, 2, 1, 5);
        x.limit(1, 1000);
        due("dues above 0, column by column", x.exposure(1), 700);
        refused(x, "301 besides 700", NOT, m -> m.bid(1, 0, true, 1, 301));
        due("300 besides 700", x.bid(1, 0, true, 1, 300), 6);
        x.withdraw(1, 6);
        x.settle(0);
        refused(x, "601 besides 400", NOT, m -> m.bid(1, 0, true, 1, 601));
        due("600 besides 400", x.bid(1, 0, true, 1, 600), 7);
        x.withdraw(1, 7);
        x.limit(1, 400);
        due("just as much as the dues", x.bid(1, 3, true, 100, 0), 8);
        x.limit(1, 399);
        refused(x, "less than the dues", NOT, m -> m.bid(1, 3, true, 1, 0));
        x.settle(1);
        due("399 besides none", x.bid(1, 3, true, 1, 399), 9);
        x.withdraw(1, 9);
        refused(x, "400 besides none, and one below 0", NOT, m -> m.bid(1, 3, true, 1, 400));
        for (int c = 0; c < 4; c++) {
            int column = c;
            Traced y = fresh();
            number(y, c, 0, 10);
            trade(y, c, 1, 2, 1);
            y.limit(1, 15);
            refused(y, "6 besides 10 in column " + c, NOT, m -> m.bid(1, column, true, 1, 6));
            due("5 besides 10 in column " + c, y.bid(1, 3 - c, true, 1, 5), 2);
        }
    }

    // ---- disputes

    private static void disputes() {
        about(0, "A dispute strikes a bid of a round that was cleared, or an edit: as if the bid had not been made, or the edit not been told.", EdgesOfTrades::asIfNot);
        about(0, "Then all rounds that were cleared are reckoned again, in their order", () -> {
            Traced x = fresh();
            number(x, 0, 0, 3);
            letAll(x);
            formula(x, 1, 0, Cellmarket.LAST, 0, 0, N, 2, 0, TIMES, 0, 0);
            formula(x, 2, 0, Cellmarket.LAST, 1, 0, N, 2, 0, TIMES, 0, 0);
            formula(x, 3, 0, Cellmarket.LAST, 2, 0, N, 2, 0, TIMES, 0, 0);
            int edit = number(x, 0, 0, 5);
            x.bell(2);
            for (int c = 0; c < 2; c++) {
                round(x, c);
            }
            x.bell(2);
            round(x, 2);
            round(x, 3);
            int[] wanted = {5, 10, 0, 20, 40};
            for (int i = 0; i < 5; i++) {
                due("price of round " + i, x.round(i, 1), wanted[i]);
            }
            due("the first one, and those that take from it", x.strikeEdit(edit), 4);
            int[] anew = {3, 6, 0, 12, 24};
            for (int i = 0; i < 5; i++) {
                due("price of round " + i, x.round(i, 1), anew[i]);
            }
            due("all without the price", x.strikeEdit(0), 4);
            due("price", x.round(0, 1), Cellmarket.NONE);
            due("price", x.round(4, 1), 0);
        });
        about(0, "by what held at the events of their bells", () -> {
            heldThen();
            for (int cell = 1; cell < 24; cell++) {
                heldThenOf(cell / 6, cell % 6);
            }
        });
        about(0, "dues follow; what was settled stays so, and is settled anew the next time.", () -> {
            Traced x = fresh();
            number(x, 0, 0, 10);
            trade(x, 0, 1, 2, 7);
            trade(x, 0, 1, 3, 2);
            x.settle(0);
            expectCash(x, 0, -9, 7, 2, 0, 0);
            x.strikeBid(0);
            expectCash(x, 0, -9, 7, 2, 0, 0);
            expectDues(x, 0, 0, -70, 70, 0, 0, 0);
            due("settle anew", x.settle(0), 7);
            expectCash(x, 0, -2, 0, 2, 0, 0);
            expectDues(x, 0, 0, 0, 0, 0, 0, 0);
            x.strikeBid(3);
            expectDues(x, 0, 0, -20, 0, 20, 0, 0);
            due("exposure follows", x.exposure(3), 20);
            trade(x, 0, 1, 3, 2);
            expectDues(x, 0, 0, 0, 0, 0, 0, 0);
        });
    }

    private static void asIfNot() {
        Traced x = fresh();
        number(x, 0, 0, 10);
        number(x, 0, 0, 11);
        x.share(0, true);
        buy(x, 1, 0, 5, 11);
        buy(x, 2, 0, 5, 12);
        sell(x, 3, 0, 5, 11);
        sell(x, 4, 0, 5, 10);
        round(x, 0);
        expectGot(x, 0, 5, 5, 5, 5);
        due("strike a bid to buy", x.strikeBid(0), 1);
        expectGot(x, 0, 0, 5, 3, 2);
        due("strike the last edit", x.strikeEdit(1), 1);
        due("price", x.round(0, 1), 10);
        expectGot(x, 0, 0, 5, 0, 5);
        due("strike a bid to sell", x.strikeBid(3), 1);
        expectGot(x, 0, 0, 0, 0, 0);
        due("a side without bids", x.round(0, 2), 0);
        due("strike the first edit", x.strikeEdit(0), 1);
        due("a cell without edits", x.round(0, 4), Cellmarket.EMPTY);
        due("value now", x.value(0, 0, 0), 0);
        due("edits that were told", x.edits(0, 0), 2);
    }

    /** What was told later than the bell that froze a round, and holds now, does not hold for it when it is reckoned again. */
    private static void heldThen() {
        Traced x = fresh();
        x.let(1, 0, 1, 2, 2, true);
        number(x, 1, 2, 40);
        formula(x, 0, 0, C, 1, 2);
        number(x, 0, 1, 1000);
        int bad = number(x, 0, 1, 500);
        twoAndOne(x, 0);
        x.limit(4, 1000000);
        buy(x, 4, 0, 3, 40);
        buy(x, 4, 0, 3, 41);
        sell(x, 5, 0, 3, 40);
        x.bell(0);
        x.share(0, true);
        x.give(0, 0, 1, 2);
        x.let(1, 0, 1, 2, 2, false);
        number(x, 1, 2, 30);
        x.bell(0);
        number(x, 0, 1, 7);
        // 3 at 41 and 2 at 40 are bought
        expectRound(x, 0, 0, 40, 5, 500, 0, 60 + 40);
        due("strike the fee", x.strikeEdit(bad), 1);
        expectRound(x, 0, 0, 40, 5, 1000, 0, 120 + 80);
        expectDues(x, 0, -200, 0, 0, 0, 400, -200);
    }

    /** At the first bell another one lets the price's owner read the cell, at the second one it is theirs; not so at the third. */
    private static void heldThenOf(int column, int row) {
        Traced x = fresh();
        x.give(column, column, row, 4);
        x.let(4, 0, column, row, row, true);
        write(x, N, 50, 0);
        x.enter(4, column, row);
        x.give(0, 0, 0, 5);
        x.give(5, 0, 0, 0);
        formula(x, 0, 0, C, column, row);
        x.bell(0);
        x.let(4, 0, column, row, row, false);
        x.bell(0);
        x.give(4, column, row, 0);
        x.bell(0);
        x.give(0, column, row, 4);
        x.bell(0);
        round(x, 0);
        due("read at the bell", x.round(0, 1), 50);
        due("theirs at the bell", x.round(1, 1), 50);
        due("neither", x.round(2, 4), Cellmarket.HIDDEN);
        x.give(4, column, row, 0);
        due("reckoned again alike", x.strikeEdit(number(x, 0, 0, 1)), 0);
    }
}
