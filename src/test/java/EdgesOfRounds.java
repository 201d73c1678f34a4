/** The lines of the promises 15 to 30 that name an edge: bids, rounds, settling, limits, disputes. */
final class EdgesOfRounds extends Check {
    private EdgesOfRounds() {
    }

    static void all() {
        bid();
        withdraw();
        share();
        bell();
        isFrozen();
        round();
        priceAnew();
        got();
        due();
        settle();
        cash();
        limit();
        exposure();
        strikeBid();
        strikeEdit();
        events();
    }

    // ---- bids

    private static void bid() {
        about(15, "Makes a bid. This is an act.", () -> {
            Traced x = fresh();
            number(x, 0, 0, 5);
            x.bid(1, 0, true, 3, 5);
            x.bid(2, 0, false, 3, 5);
            due("events", x.events(), 3);
            due("it trades", x.round(round(x, 0), 2), 3);
        });
        about(15, "- `owner`: 0 to 5", () -> range(Check::fresh, "owner", 0, 5, OUT, (m, v) -> m.bid(v, 0, true, 1, 1)));
        about(15, "- `column`: 0 to 3", () -> range(Check::fresh, "column", 0, 3, OUT, (m, v) -> m.bid(0, v, false, 1, 1)));
        about(15, "- `isBuy`: whether it is to buy", () -> {
            Traced x = fresh();
            formula(x, 0, 0, Cellmarket.BUYS, 1, 0);
            formula(x, 0, 1, Cellmarket.SELLS, 1, 0);
            x.bid(4, 1, true, 3, 5);
            due("to buy", x.value(0, 0, 0), 3);
            due("to sell", x.value(0, 0, 1), 0);
            x.bid(4, 1, false, 4, 5);
            due("to buy", x.value(0, 0, 0), 3);
            due("to sell", x.value(0, 0, 1), 4);
            due("what is to sell does not count against the limit", x.exposure(4), 15);
        });
        about(15, "- `many`: 1 to 100: what it is for", () -> {
            range(Check::fresh, "many, to buy", 1, 100, BAD, (m, v) -> m.bid(0, 0, true, v, 1));
            range(Check::fresh, "many, to sell", 1, 100, BAD, (m, v) -> m.bid(0, 0, false, v, 1));
            Traced x = fresh();
            x.limit(0, 0);
            refused(x, "0 to buy, with a limit of 0", BAD, m -> m.bid(0, 0, true, 0, 0));
        });
        about(15, "- `limit`: 0 to 9999", () -> {
            range(Check::fresh, "limit, to buy", 0, 9999, BAD, (m, v) -> m.bid(0, 0, true, 1, v));
            range(Check::fresh, "limit, to sell", 0, 9999, BAD, (m, v) -> m.bid(0, 0, false, 100, v));
        });
        about(15, "Returns its number, from 0.", () -> {
            Traced x = fresh();
            due("the first", x.bid(0, 3, true, 1, 1), 0);
            due("of another column", x.bid(5, 0, false, 1, 1), 1);
            refused(x, "a refused one has no number", NOT, m -> m.bid(0, 0, true, 100, 9999));
            x.withdraw(0, 0);
            due("behind one that was withdrawn", x.bid(0, 3, true, 1, 1), 2);
            round(x, 3);
            due("behind a cleared round", x.bid(0, 3, true, 1, 1), 3);
            x.strikeBid(2);
            due("behind one that is struck", x.bid(0, 3, true, 1, 1), 4);
        });
        about(15, "Throws `IndexOutOfBoundsException` if there is no such owner or column", () -> {
            refused(fresh(), "no owner, for 0", OUT, m -> m.bid(6, 0, true, 0, 1));
            refused(fresh(), "no column, at -1", OUT, m -> m.bid(0, 4, true, 1, -1));
            Traced x = fresh();
            x.bell(0);
            refused(x, "no owner, frozen", OUT, m -> m.bid(-1, 0, true, 1, 1));
        });
        about(15, "Throws `IllegalArgumentException` if many or limit is out of range", () -> {
            refused(fresh(), "both", BAD, m -> m.bid(0, 0, true, 0, -1));
            refused(fresh(), "both the greatest", BAD, m -> m.bid(0, 0, true, Integer.MAX_VALUE, Integer.MAX_VALUE));
            refused(fresh(), "many times limit would be 0 as an int", BAD, m -> m.bid(0, 0, true, 65536, 65536));
            Traced x = fresh();
            x.bell(0);
            refused(x, "for 101, frozen", BAD, m -> m.bid(0, 0, true, 101, 1));
            refused(x, "at 10000, frozen, above the limit", BAD, m -> m.bid(0, 0, true, 100, 10000));
        });
        about(15, "Throws `IllegalStateException` if the column is frozen, 80 bids were made, or it is refused by the limit of the owner", EdgesOfRounds::bidRefused);
    }

    private static void bidRefused() {
        Traced x = fresh();
        x.bell(2);
        refused(x, "frozen, to buy", NOT, m -> m.bid(0, 2, true, 1, 1));
        refused(x, "frozen, to sell", NOT, m -> m.bid(0, 2, false, 1, 1));
        allowed(x, "another one is frozen", m -> m.bid(0, 1, true, 1, 1));
        x.bell(2);
        allowed(x, "open again", m -> m.bid(0, 2, true, 1, 1));
        refused(x, "100100", NOT, m -> m.bid(0, 2, true, 11, 9100));
        allowed(x, "100000", m -> m.bid(0, 2, true, 20, 5000));
        x.bid(0, 2, true, 20, 5000);
        refused(x, "1 more", NOT, m -> m.bid(0, 3, true, 1, 1));
        allowed(x, "0 more", m -> m.bid(0, 3, true, 100, 0));
        allowed(x, "1 to sell", m -> m.bid(0, 3, false, 1, 1));
        allowed(x, "1 by another one", m -> m.bid(1, 3, true, 1, 1));
        for (int i = 1; i < 79; i++) {
            x.bid(i % 6, i % 4, false, 1, 1);
        }
        allowed(x, "the 80th", m -> m.bid(1, 0, false, 1, 1));
        due("the 80th", x.bid(1, 0, false, 1, 1), 79);
        refused(x, "the 81st, to buy", NOT, m -> m.bid(1, 0, true, 1, 0));
        refused(x, "the 81st, to sell", NOT, m -> m.bid(1, 0, false, 1, 1));
        x.withdraw(1, 79);
        refused(x, "the 81st, one withdrawn", NOT, m -> m.bid(1, 0, false, 1, 1));
        round(x, 0);
        x.strikeBid(79);
        refused(x, "the 81st, one struck", NOT, m -> m.bid(1, 0, false, 1, 1));
    }

    /** Bids 0 and 1 of owner 1 in column 0, bid 2 of owner 5 in column 3. */
    private static Traced threeBids() {
        Traced x = fresh();
        buy(x, 1, 0, 3, 5);
        sell(x, 1, 0, 100, 5);
        buy(x, 5, 3, 1, 5);
        return x;
    }

    private static void withdraw() {
        about(16, "Withdraws a bid. This is an act.", () -> {
            Traced x = threeBids();
            formula(x, 2, 0, Cellmarket.BIDS, 0, 0);
            x.withdraw(1, 0);
            due("bids", x.value(2, 2, 0), 1);
            due("exposure", x.exposure(1), 0);
            due("events", x.events(), 5);
            number(x, 0, 0, 5);
            round(x, 0);
            expectGot(x, 0, 0, 0, 0);
        });
        about(16, "- `owner`: whose it is", () -> {
            Traced x = threeBids();
            for (int o = 0; o < 6; o++) {
                int owner = o;
                if (o == 1) {
                    allowed(x, "by owner 1", m -> m.withdraw(1, 0));
                } else {
                    refused(x, "by owner " + o, NOT, m -> m.withdraw(owner, 0));
                }
            }
            refused(x, "by owner -1", OUT, m -> m.withdraw(-1, 0));
            refused(x, "by owner 6", OUT, m -> m.withdraw(6, 0));
            allowed(x, "by owner 5", m -> m.withdraw(5, 2));
        });
        about(16, "- `bid`: its number", () -> {
            refused(fresh(), "bid 0 of none", OUT, m -> m.withdraw(0, 0));
            Traced x = threeBids();
            refused(x, "bid -1", OUT, m -> m.withdraw(1, -1));
            refused(x, "bid 3", OUT, m -> m.withdraw(1, 3));
            refused(x, "the greatest", OUT, m -> m.withdraw(1, Integer.MAX_VALUE));
            refused(x, "the least", OUT, m -> m.withdraw(1, Integer.MIN_VALUE));
            for (int i = 3; i < 80; i++) {
                sell(x, 2, 1, 1, 1);
            }
            due("the last", x.withdraw(2, 79), 1);
            refused(x, "bid 80", OUT, m -> m.withdraw(2, 80));
        });
        about(16, "Returns what it was for.", () -> {
            Traced x = threeBids();
            due("100", x.withdraw(1, 1), 100);
            due("3", x.withdraw(1, 0), 3);
            due("1", x.withdraw(5, 2), 1);
        });
        about(16, "Throws `IndexOutOfBoundsException` if there is no such owner or bid", () -> {
            Traced x = threeBids();
            x.bell(0);
            refused(x, "no owner, frozen", OUT, m -> m.withdraw(6, 0));
            refused(x, "neither", OUT, m -> m.withdraw(6, 3));
        });
        about(16, "Throws `IllegalStateException` if it is not the owner's, was withdrawn, its column is frozen, or its round was cleared", () -> {
            Traced x = threeBids();
            refused(x, "not the owner's", NOT, m -> m.withdraw(5, 0));
            x.withdraw(1, 1);
            refused(x, "withdrawn", NOT, m -> m.withdraw(1, 1));
            x.bell(0);
            refused(x, "frozen", NOT, m -> m.withdraw(1, 0));
            allowed(x, "another one is frozen", m -> m.withdraw(5, 2));
            x.bell(0);
            refused(x, "cleared", NOT, m -> m.withdraw(1, 0));
            x.bell(0);
            refused(x, "cleared, and the next one frozen", NOT, m -> m.withdraw(1, 0));
            x.bell(0);
            x.strikeBid(0);
            refused(x, "struck, in a cleared round", NOT, m -> m.withdraw(1, 0));
            allowed(x, "of the round that is open", m -> m.withdraw(5, 2));
        });
    }

    private static void share() {
        about(17, "Sets how volumes are shared in a column. This is an act.", () -> {
            Traced x = fresh();
            number(x, 0, 0, 1);
            number(x, 1, 0, 1);
            x.share(0, true);
            for (int c = 0; c < 2; c++) {
                buy(x, 4, c, 2, 1);
                buy(x, 4, c, 2, 1);
                sell(x, 5, c, 2, 1);
                round(x, c);
            }
            expectGot(x, 0, 1, 1, 2, 2, 0, 2);
            Traced y = fresh();
            y.share(0, true);
            due("events", y.events(), 1);
            y.share(0, true);
            due("events", y.events(), 2);
        });
        about(17, "- `column`: 0 to 3", () -> {
            range(Check::fresh, "column", 0, 3, OUT, (m, v) -> m.share(v, true));
            range(Check::fresh, "column, by order", 0, 3, OUT, (m, v) -> m.share(v, false));
        });
        about(17, "- `byShares`: whether it is by shares", () -> {
            Traced x = fresh();
            number(x, 0, 0, 1);
            for (int i = 0; i < 4; i++) {
                x.share(0, i % 2 == 0);
                buy(x, 4, 0, 2, 1);
                buy(x, 4, 0, 2, 1);
                sell(x, 5, 0, 2, 1);
                round(x, 0);
                expectGot(x, 3 * i, i % 2 == 0 ? 1 : 2, i % 2 == 0 ? 1 : 0, 2);
            }
        });
        about(17, "Returns whether it was.", () -> {
            Traced x = fresh();
            for (int c = 0; c < 4; c++) {
                due("at first", x.share(c, true), false);
                due("by shares", x.share(c, true), true);
                due("by shares", x.share(c, false), true);
                due("by order", x.share(c, false), false);
                due("by order", x.share(c, true), false);
            }
        });
        about(17, "Throws `IndexOutOfBoundsException` if there is no such column", () -> {
            refused(fresh(), "4", OUT, m -> m.share(4, true));
            refused(fresh(), "-1", OUT, m -> m.share(-1, false));
        });
    }

    // ---- rounds

    private static void bell() {
        about(18, "Rings the bell of a column. This is an act.", () -> {
            Traced x = fresh();
            x.bell(1);
            due("freezes", x.isFrozen(1), true);
            due("an event", x.events(), 1);
            x.bell(1);
            due("clears", x.isFrozen(1), false);
            due("an event", x.events(), 2);
        });
        about(18, "- `column`: 0 to 3", () -> {
            range(Check::fresh, "column", 0, 3, OUT, (m, v) -> m.bell(v));
            Traced x = fresh();
            x.bell(3);
            for (int c = 0; c < 4; c++) {
                due("isFrozen", x.isFrozen(c), c == 3);
            }
        });
        about(18, "Returns NONE if it freezes it, otherwise the number of the round.", () -> {
            Traced x = fresh();
            for (int i = 0; i < 30; i++) {
                due("freezes", x.bell(i % 4), Cellmarket.NONE);
                due("clears", x.bell(i % 4), i);
            }
            for (int c = 0; c < 4; c++) {
                due("freezes, behind the 30th", x.bell(c), Cellmarket.NONE);
            }
        });
        about(18, "Throws `IndexOutOfBoundsException` if there is no such column", () -> {
            refused(fresh(), "4", OUT, m -> m.bell(4));
            refused(fresh(), "-1", OUT, m -> m.bell(-1));
        });
        about(18, "Throws `IllegalStateException` if it would clear it, and 30 rounds were cleared", () -> {
            Traced x = fresh();
            x.bell(3);
            for (int i = 0; i < 29; i++) {
                round(x, i % 3);
            }
            allowed(x, "the 30th", m -> m.bell(3));
            round(x, 0);
            refused(x, "the 31st", NOT, m -> m.bell(3));
            due("still frozen", x.isFrozen(3), true);
            refused(x, "no bid in it", NOT, m -> m.bid(0, 3, true, 1, 1));
            allowed(x, "freezing", m -> m.bell(0));
            x.bell(0);
            refused(x, "the 31st of another column", NOT, m -> m.bell(0));
            allowed(x, "a bid in an open one", m -> m.bid(0, 1, true, 1, 1));
        });
    }

    private static void isFrozen() {
        about(19, "Returns whether a column is frozen.", () -> {
            Traced x = fresh();
            for (int i = 1; i <= 5; i++) {
                x.bell(2);
                due("isFrozen", x.isFrozen(2), i % 2 == 1);
                due("another one", x.isFrozen(1), false);
            }
        });
        about(19, "- `column`: 0 to 3", () -> range(Check::fresh, "column", 0, 3, OUT, (m, v) -> m.isFrozen(v)));
        about(19, "Returns whether it is.", () -> {
            Traced x = fresh();
            for (int c = 0; c < 4; c++) {
                due("at first", x.isFrozen(c), false);
                x.bell(c);
                due("frozen", x.isFrozen(c), true);
            }
            unchanged(x, "isFrozen", m -> m.isFrozen(0));
        });
        about(19, "Throws `IndexOutOfBoundsException` if there is no such column", () -> {
            refused(fresh(), "4", OUT, m -> m.isFrozen(4));
            refused(fresh(), "-1", OUT, m -> m.isFrozen(-1));
        });
    }

    /** Round 0 of column 2: price 10, volume 3, fee 50, so that 1 is paid for the first bid, and 0.5 rounded down for the second. */
    private static Traced oneRound() {
        Traced x = fresh();
        number(x, 2, 0, 10);
        number(x, 2, 1, 50);
        buy(x, 1, 2, 2, 12);
        buy(x, 3, 2, 2, 10);
        sell(x, 4, 2, 3, 9);
        round(x, 2);
        return x;
    }

    private static void round() {
        about(20, "Tells something of a round.", () -> expectRound(oneRound(), 0, 2, 10, 3, 50, 0, 1));
        about(20, "- `round`: its number", () -> {
            refused(fresh(), "round 0 of none", OUT, m -> m.round(0, 0));
            Traced x = oneRound();
            x.bell(2);
            refused(x, "one that is frozen alone", OUT, m -> m.round(1, 0));
            refused(x, "round -1", OUT, m -> m.round(-1, 0));
            refused(x, "the greatest", OUT, m -> m.round(Integer.MAX_VALUE, 0));
            refused(x, "the least", OUT, m -> m.round(Integer.MIN_VALUE, 0));
            x.bell(2);
            for (int i = 2; i < 30; i++) {
                round(x, i % 4);
            }
            due("the last", x.round(29, 0), 1);
            due("the first", x.round(0, 0), 2);
            refused(x, "round 30", OUT, m -> m.round(30, 0));
        });
        about(20, "- `what`: 0 its column; 1 its price, NONE without one; 2 its volume; 3 its fee, 0 without a price; 4 why it is void, EMPTY, a fault, or NEGATIVE, 0 if it is not; 5 all fees that were paid", EdgesOfRounds::whatOfARound);
        about(20, "Returns the number.", () -> {
            Traced x = oneRound();
            unchanged(x, "round", m -> m.round(0, 5));
            x.strikeBid(2);
            expectRound(x, 0, 2, 10, 0, 50, 0, 0);
        });
        about(20, "Throws `IndexOutOfBoundsException` if there is no such round", () -> {
            refused(oneRound(), "round 1, what 6", OUT, m -> m.round(1, 6));
            refused(oneRound(), "round -1, what -1", OUT, m -> m.round(-1, -1));
        });
        about(20, "Throws `IllegalArgumentException` if what is out of range", () -> range(EdgesOfRounds::oneRound, "what", 0, 5, BAD, (m, v) -> m.round(0, v)));
    }

    private static void whatOfARound() {
        Traced x = fresh();
        number(x, 3, 1, 100);
        expectRound(x, round(x, 3), 3, Cellmarket.NONE, 0, 0, Cellmarket.EMPTY, 0);
        number(x, 3, 0, 0);
        expectRound(x, round(x, 3), 3, 0, 0, 100, 0, 0);
        number(x, 3, 0, -1);
        expectRound(x, round(x, 3), 3, Cellmarket.NONE, 0, 0, Cellmarket.NEGATIVE, 0);
        formula(x, 3, 0, C, 2, 0);
        expectRound(x, round(x, 3), 3, Cellmarket.NONE, 0, 0, Cellmarket.HIDDEN, 0);
        formula(x, 3, 0, C, 3, 0);
        expectRound(x, round(x, 3), 3, Cellmarket.NONE, 0, 0, Cellmarket.CIRCLE, 0);
        formula(x, 3, 0, N, 1, 0, N, 0, 0, OVER, 0, 0);
        expectRound(x, round(x, 3), 3, Cellmarket.NONE, 0, 0, Cellmarket.DIVISION, 0);
        formula(x, 3, 0, N, 1000000, 0, N, 1001, 0, TIMES, 0, 0);
        expectRound(x, round(x, 3), 3, Cellmarket.NONE, 0, 0, Cellmarket.RANGE, 0);
        number(x, 3, 0, 15);
        buy(x, 3, 3, 3, 15);
        buy(x, 1, 3, 2, 15);
        buy(x, 1, 3, 9, 14);
        sell(x, 2, 3, 100, 15);
        // 4.5 and 3, also from the one who gets them
        expectRound(x, round(x, 3), 3, 15, 5, 100, 0, 4 + 3);
        x.empty(3, 3, 1);
        expectRound(x, round(x, 3), 3, 15, 0, 0, 0, 0);
    }

    private static void priceAnew() {
        about(21, "Returns the price of a round, found by going through all events from the first one on, and clearing all rounds up to this one again.", () -> {
            Traced x = fresh();
            formula(x, 0, 0, Cellmarket.LAST, 0, 0, Cellmarket.BIDS, 1, 0, PLUS, 0, 0);
            buy(x, 4, 1, 1, 1);
            round(x, 0);
            buy(x, 4, 1, 1, 1);
            round(x, 0);
            x.withdraw(4, 0);
            round(x, 0);
            round(x, 1);
            round(x, 0);
            int[] prices = {1, 3, 4, Cellmarket.NONE, 4};
            for (int i = 0; i < 5; i++) {
                due("priceAnew", x.priceAnew(i), prices[i]);
                due("price", x.round(i, 1), prices[i]);
            }
            x.strikeBid(0);
            int[] anew = {0, 1, 2, Cellmarket.NONE, 2};
            for (int i = 4; i >= 0; i--) {
                due("priceAnew, a bid struck", x.priceAnew(i), anew[i]);
                due("price, a bid struck", x.round(i, 1), anew[i]);
            }
            unchanged(x, "priceAnew", m -> m.priceAnew(1));
        });
        about(21, "- `round`: its number", () -> {
            refused(fresh(), "round 0 of none", OUT, m -> m.priceAnew(0));
            Traced x = oneRound();
            x.bell(2);
            refused(x, "one that is frozen alone", OUT, m -> m.priceAnew(1));
            x.bell(2);
            for (int i = 2; i < 30; i++) {
                round(x, 2);
            }
            due("the first", x.priceAnew(0), 10);
            due("the last", x.priceAnew(29), 10);
            refused(x, "round 30", OUT, m -> m.priceAnew(30));
        });
        about(21, "Returns the price, NONE without one.", () -> {
            Traced x = fresh();
            round(x, 0);
            due("empty", x.priceAnew(0), Cellmarket.NONE);
            number(x, 0, 0, -1);
            round(x, 0);
            due("below 0", x.priceAnew(1), Cellmarket.NONE);
            number(x, 0, 0, 0);
            round(x, 0);
            due("0", x.priceAnew(2), 0);
            great(x, 0, 0, 1);
            round(x, 0);
            due("the greatest", x.priceAnew(3), 1000000000);
            formula(x, 0, 0, C, 0, 0);
            round(x, 0);
            due("a fault", x.priceAnew(4), Cellmarket.NONE);
        });
        about(21, "Throws `IndexOutOfBoundsException` if there is no such round", () -> {
            for (int off : new int[] {-1, 1, Integer.MIN_VALUE, Integer.MAX_VALUE}) {
                refused(oneRound(), "round " + off, OUT, m -> m.priceAnew(off));
            }
        });
    }

    private static void got() {
        about(22, "Returns what a bid has got.", () -> {
            Traced x = oneRound();
            expectGot(x, 0, 2, 1, 3);
            unchanged(x, "got", m -> m.got(1));
        });
        about(22, "- `bid`: its number", () -> {
            refused(fresh(), "bid 0 of none", OUT, m -> m.got(0));
            Traced x = threeBids();
            for (int off : new int[] {-1, 3, Integer.MIN_VALUE, Integer.MAX_VALUE}) {
                refused(x, "bid " + off, OUT, m -> m.got(off));
            }
            for (int i = 3; i < 80; i++) {
                sell(x, 0, 0, 1, 1);
            }
            due("the last", x.got(79), 0);
            refused(x, "bid 80", OUT, m -> m.got(80));
        });
        about(22, "Returns how much; 0 as long as its round was not cleared.", () -> {
            Traced x = fresh();
            number(x, 0, 0, 5);
            buy(x, 1, 0, 100, 5);
            sell(x, 2, 0, 100, 5);
            sell(x, 2, 0, 100, 5);
            due("open", x.got(0), 0);
            x.bell(0);
            due("frozen", x.got(0), 0);
            x.bell(0);
            expectGot(x, 0, 100, 100, 0);
            x.strikeBid(1);
            due("struck", x.got(1), 0);
            due("the one behind it", x.got(2), 100);
        });
        about(22, "Throws `IndexOutOfBoundsException` if there is no such bid", () -> {
            Traced x = oneRound();
            x.withdraw(5, x.bid(5, 0, true, 1, 1));
            due("one that was withdrawn", x.got(3), 0);
            refused(x, "the next one", OUT, m -> m.got(4));
        });
    }

    // ---- settling, limits

    private static void due() {
        about(23, "Returns the due of an owner in a column.", () -> {
            Traced x = oneRound();
            expectDues(x, 2, 0, 20 + 1, -1, 10, -30, 0);
            expectDues(x, 0, 0, 0, 0, 0, 0, 0);
            unchanged(x, "due", m -> m.due(1, 2));
        });
        about(23, "- `owner`: 0 to 5", () -> range(EdgesOfRounds::oneRound, "owner", 0, 5, OUT, (m, v) -> m.due(v, 2)));
        about(23, "- `column`: 0 to 3", () -> range(EdgesOfRounds::oneRound, "column", 0, 3, OUT, (m, v) -> m.due(1, v)));
        about(23, "Returns thousandths, below 0 if they get something.", () -> {
            Traced x = fresh();
            due("nothing", x.due(0, 0), 0);
            number(x, 0, 0, 1);
            buy(x, 4, 0, 1, 1);
            sell(x, 5, 0, 1, 1);
            x.bell(0);
            due("not cleared", x.due(4, 0), 0);
            x.bell(0);
            due("1", x.due(4, 0), 1);
            due("-1", x.due(5, 0), -1);
            Traced y = fresh();
            number(y, 0, 0, 9999);
            number(y, 0, 1, 1000);
            y.limit(4, 1000000000);
            for (int i = 0; i < 40; i++) {
                buy(y, 4, 0, 100, 9999);
                sell(y, 5, 0, 100, 9999);
            }
            round(y, 0);
            expectDues(y, 0, -39996000, 0, 0, 0, 79992000, -39996000);
            due("the greatest settling", y.settle(0), 7999200);
            expectCash(y, 3999600, 0, 0, 0, -7999200, 3999600);
        });
        about(23, "Throws `IndexOutOfBoundsException` if there is no such owner or column", () -> {
            refused(fresh(), "neither", OUT, m -> m.due(6, 4));
            refused(fresh(), "neither", OUT, m -> m.due(-1, -1));
        });
    }

    private static void settle() {
        about(24, "Settles a column. This is an act.", () -> {
            Traced x = oneRound();
            int events = x.events();
            x.settle(0);
            expectDues(x, 2, 0, 21, -1, 10, -30, 0);
            x.settle(2);
            expectDues(x, 2, 0, 0, 0, 0, 0, 0);
            due("events", x.events(), events + 2);
        });
        about(24, "- `column`: 0 to 3", () -> range(EdgesOfRounds::oneRound, "column", 0, 3, OUT, (m, v) -> m.settle(v)));
        about(24, "Returns how many hundredths are paid by those who pay, together.", () -> {
            Traced x = oneRound();
            // 21, -1, 10, -30: 2, -1, 1, -3 with 1, 9, 0, 0 cut off; one is lacking
            due("settle", x.settle(2), 3);
            expectCash(x, 0, -2, 0, -1, 3, 0);
            due("nothing left", x.settle(2), 0);
            due("nothing in another column", x.settle(3), 0);
        });
        about(24, "Throws `IndexOutOfBoundsException` if there is no such column", () -> {
            refused(oneRound(), "4", OUT, m -> m.settle(4));
            refused(oneRound(), "-1", OUT, m -> m.settle(-1));
        });
    }

    private static void cash() {
        about(25, "Returns the cash of an owner.", () -> {
            Traced x = oneRound();
            expectCash(x, 0, 0, 0, 0, 0, 0);
            x.settle(2);
            expectCash(x, 0, -2, 0, -1, 3, 0);
            unchanged(x, "cash", m -> m.cash(4));
        });
        about(25, "- `owner`: 0 to 5", () -> range(EdgesOfRounds::oneRound, "owner", 0, 5, OUT, (m, v) -> m.cash(v)));
        about(25, "Returns hundredths.", () -> {
            Traced x = fresh();
            number(x, 0, 0, 10);
            buy(x, 4, 0, 1, 10);
            sell(x, 5, 0, 1, 10);
            round(x, 0);
            x.settle(0);
            due("one hundredth is ten thousandths", x.cash(5), 1);
            due("below 0", x.cash(4), -1);
        });
        about(25, "Throws `IndexOutOfBoundsException` if there is no such owner", () -> {
            refused(fresh(), "6", OUT, m -> m.cash(6));
            refused(fresh(), "-1", OUT, m -> m.cash(-1));
        });
    }

    private static void limit() {
        about(26, "Sets the limit of an owner. This is an act.", () -> {
            Traced x = fresh();
            x.limit(2, 10);
            due("events", x.events(), 1);
            refused(x, "11 to buy", NOT, m -> m.bid(2, 0, true, 1, 11));
            allowed(x, "10 to buy", m -> m.bid(2, 0, true, 1, 10));
            allowed(x, "11 to buy, another one", m -> m.bid(3, 0, true, 1, 11));
            buy(x, 2, 0, 10, 1);
            x.limit(2, 0);
            due("a bid that was made stays", x.exposure(2), 10);
        });
        about(26, "- `owner`: 0 to 5", () -> {
            range(Check::fresh, "owner", 0, 5, OUT, (m, v) -> m.limit(v, 1));
            Traced x = fresh();
            for (int o = 0; o < 6; o++) {
                x.limit(o, o);
            }
            for (int o = 0; o < 6; o++) {
                due("limit", x.limit(o, 7), o);
            }
        });
        about(26, "- `limit`: 0 to 1000000000 thousandths", () -> {
            range(Check::fresh, "limit", 0, 1000000000, BAD, (m, v) -> m.limit(0, v));
            Traced x = fresh();
            x.limit(0, 0);
            refused(x, "1 with a limit of 0", NOT, m -> m.bid(0, 0, true, 1, 1));
            allowed(x, "0 with a limit of 0", m -> m.bid(0, 0, true, 100, 0));
            x.limit(0, 1000000000);
            for (int i = 0; i < 80; i++) {
                buy(x, 0, 0, 100, 9999);
            }
            due("all that can be bid", x.exposure(0), 79992000);
        });
        about(26, "Returns the limit before.", () -> {
            Traced x = fresh();
            due("at first", x.limit(3, 1000000000), 100000);
            due("the greatest", x.limit(3, 0), 1000000000);
            due("the least", x.limit(3, 5), 0);
            due("another one's", x.limit(4, 5), 100000);
        });
        about(26, "Throws `IndexOutOfBoundsException` if there is no such owner", () -> {
            refused(fresh(), "6, out of range", OUT, m -> m.limit(6, -1));
            refused(fresh(), "-1", OUT, m -> m.limit(-1, 0));
        });
        about(26, "Throws `IllegalArgumentException` if limit is out of range", () -> {
            Traced x = fresh();
            x.limit(1, 77);
            refused(x, "-1", BAD, m -> m.limit(1, -1));
            refused(x, "1000000001", BAD, m -> m.limit(1, 1000000001));
            due("it stays", x.limit(1, 0), 77);
        });
    }

    private static void exposure() {
        about(27, "Returns what counts against the limit of an owner: bids to buy that are not cleared, and dues.", () -> {
            Traced x = fresh();
            number(x, 0, 0, 10);
            number(x, 1, 0, 10);
            due("nothing", x.exposure(1), 0);
            buy(x, 1, 0, 3, 12);
            due("a bid to buy", x.exposure(1), 36);
            sell(x, 1, 1, 5, 3);
            due("a bid to sell", x.exposure(1), 36);
            sell(x, 2, 0, 2, 9);
            buy(x, 2, 1, 4, 10);
            x.bell(0);
            due("frozen", x.exposure(1), 36);
            x.bell(0);
            due("cleared: a due", x.exposure(1), 20);
            due("a due below 0, and a bid", x.exposure(2), 40);
            round(x, 1);
            due("a due below 0 takes nothing off", x.exposure(1), 20);
            due("a due above 0 beside one below 0", x.exposure(2), 40);
            buy(x, 1, 3, 1, 1);
            due("a due and a bid", x.exposure(1), 21);
            x.withdraw(1, 4);
            due("withdrawn", x.exposure(1), 20);
            x.settle(0);
            due("settled", x.exposure(1), 0);
            unchanged(x, "exposure", m -> m.exposure(2));
        });
        about(27, "- `owner`: 0 to 5", () -> range(EdgesOfRounds::oneRound, "owner", 0, 5, OUT, (m, v) -> m.exposure(v)));
        about(27, "Returns thousandths.", () -> {
            Traced x = oneRound();
            due("a price and a fee", x.exposure(1), 21);
            buy(x, 1, 0, 100, 7);
            due("a bid besides", x.exposure(1), 721);
            due("one who gets something", x.exposure(4), 0);
        });
        about(27, "Throws `IndexOutOfBoundsException` if there is no such owner", () -> {
            refused(fresh(), "6", OUT, m -> m.exposure(6));
            refused(fresh(), "-1", OUT, m -> m.exposure(-1));
        });
    }

    // ---- disputes

    private static void strikeBid() {
        about(28, "Strikes a bid, also one that was withdrawn; its round is the one that was open when it was made. This is an act.", () -> {
            Traced x = fresh();
            formula(x, 0, 0, Cellmarket.BUYS, 1, 0);
            buy(x, 4, 1, 5, 1);
            x.bell(0);
            x.withdraw(4, 0);
            x.bell(0);
            due("the price", x.round(0, 1), 5);
            refused(x, "withdrawn, and its round is open", NOT, m -> m.strikeBid(0));
            x.bell(1);
            refused(x, "withdrawn, and its round is frozen", NOT, m -> m.strikeBid(0));
            x.bell(1);
            int events = x.events();
            due("withdrawn, and its round is cleared", x.strikeBid(0), 1);
            due("events", x.events(), events + 1);
            due("the price", x.round(0, 1), 0);
        });
        about(28, "- `bid`: its number", () -> {
            refused(fresh(), "bid 0 of none", OUT, m -> m.strikeBid(0));
            for (int off : new int[] {-1, 3, Integer.MIN_VALUE, Integer.MAX_VALUE}) {
                refused(oneRound(), "bid " + off, OUT, m -> m.strikeBid(off));
            }
            Traced x = fresh();
            for (int i = 0; i < 80; i++) {
                sell(x, 0, 0, 1, 1);
            }
            round(x, 0);
            due("the last", x.strikeBid(79), 0);
            refused(x, "the last again", NOT, m -> m.strikeBid(79));
            refused(x, "bid 80", OUT, m -> m.strikeBid(80));
            due("the first", x.strikeBid(0), 0);
        });
        about(28, "Returns how many cleared rounds have another price, volume or fee by that, or a bid that has got something else.", EdgesOfRounds::changedByABid);
        about(28, "Throws `IndexOutOfBoundsException` if there is no such bid", () -> refused(oneRound(), "bid 3", OUT, m -> m.strikeBid(3)));
        about(28, "Throws `IllegalStateException` if its round was not cleared, or it is struck", () -> {
            Traced x = fresh();
            number(x, 0, 0, 5);
            buy(x, 1, 0, 1, 5);
            refused(x, "open", NOT, m -> m.strikeBid(0));
            round(x, 1);
            refused(x, "open, and another column's round was cleared", NOT, m -> m.strikeBid(0));
            x.bell(0);
            refused(x, "frozen", NOT, m -> m.strikeBid(0));
            x.bell(0);
            buy(x, 1, 0, 1, 5);
            refused(x, "open, behind a cleared round", NOT, m -> m.strikeBid(1));
            due("cleared", x.strikeBid(0), 0);
            refused(x, "struck", NOT, m -> m.strikeBid(0));
            round(x, 0);
            refused(x, "struck, behind another round", NOT, m -> m.strikeBid(0));
            due("cleared", x.strikeBid(1), 0);
        });
    }

    private static void changedByABid() {
        Traced x = fresh();
        number(x, 0, 0, 10);
        formula(x, 1, 0, Cellmarket.BIDS, 0, 0);
        formula(x, 2, 0, N, 5, 0);
        formula(x, 2, 1, Cellmarket.BIDS, 0, 0);
        buy(x, 1, 0, 4, 10);
        buy(x, 2, 0, 4, 10);
        buy(x, 3, 0, 4, 9);
        sell(x, 4, 0, 4, 10);
        round(x, 1);
        round(x, 2);
        round(x, 0);
        due("another price, and another fee, but nothing got", x.strikeBid(2), 2);
        expectRound(x, 0, 1, 3, 0, 0, 0, 0);
        expectRound(x, 1, 2, 5, 0, 3, 0, 0);
        due("besides, others get it, of the same volume", x.strikeBid(0), 3);
        expectGot(x, 0, 0, 4, 0, 4);
        due("besides, another volume", x.strikeBid(1), 3);
        expectGot(x, 0, 0, 0, 0, 0);
        due("besides, nothing else in its own", x.strikeBid(3), 2);
        buy(x, 1, 3, 1, 1);
        round(x, 3);
        due("none at all", x.strikeBid(4), 0);
    }

    private static void strikeEdit() {
        about(29, "Strikes an edit. This is an act.", () -> {
            Traced x = fresh();
            number(x, 0, 0, 10);
            number(x, 0, 0, 20);
            int events = x.events();
            due("no round", x.strikeEdit(1), 0);
            due("events", x.events(), events + 1);
            due("value", x.value(0, 0, 0), 10);
            due("struck", x.edit(0, 0, 1, 5), 1);
            x.bell(0);
            due("one of a frozen column", x.strikeEdit(0), 0);
            x.bell(0);
            due("as if it had not been told", x.round(0, 4), Cellmarket.EMPTY);
        });
        about(29, "- `edit`: its number", () -> {
            refused(fresh(), "edit 0 of none", OUT, m -> m.strikeEdit(0));
            for (int off : new int[] {-1, 2, Integer.MIN_VALUE, Integer.MAX_VALUE}) {
                refused(oneRound(), "edit " + off, OUT, m -> m.strikeEdit(off));
            }
            Traced x = fresh();
            for (int i = 0; i < 60; i++) {
                x.empty(i % 4, i % 4, 0);
            }
            due("the last", x.strikeEdit(59), 0);
            due("struck", x.edit(3, 0, 14, 5), 1);
            due("the one ahead", x.edit(2, 0, 14, 5), 0);
            due("the first", x.strikeEdit(0), 0);
            refused(x, "edit 60", OUT, m -> m.strikeEdit(60));
        });
        about(29, "Returns how many cleared rounds have another price, volume or fee by that, or a bid that has got something else.", EdgesOfRounds::changedByAnEdit);
        about(29, "Throws `IndexOutOfBoundsException` if there is no such edit", () -> refused(oneRound(), "edit 2", OUT, m -> m.strikeEdit(2)));
        about(29, "Throws `IllegalStateException` if it is struck", () -> {
            Traced x = oneRound();
            x.strikeEdit(1);
            refused(x, "struck", NOT, m -> m.strikeEdit(1));
            x.notice(0, 50);
            number(x, 0, 0, 1);
            due("one that does not count yet", x.strikeEdit(2), 0);
            refused(x, "struck, ahead of its first event", NOT, m -> m.strikeEdit(2));
            due("another one", x.strikeEdit(0), 1);
        });
    }

    private static void changedByAnEdit() {
        Traced x = fresh();
        int base = number(x, 0, 0, 10);
        int same = number(x, 0, 0, 10);
        int fee = number(x, 0, 1, 5);
        int other = number(x, 0, 5, 5);
        round(x, 0);
        buy(x, 1, 0, 4, 10);
        sell(x, 2, 0, 4, 10);
        round(x, 0);
        int last = number(x, 0, 0, 11);
        round(x, 0);
        due("a cell that matters not", x.strikeEdit(other), 0);
        due("the same price by another edit", x.strikeEdit(same), 0);
        due("the fee of all", x.strikeEdit(fee), 3);
        due("the price of one", x.strikeEdit(last), 1);
        due("the price of all", x.strikeEdit(base), 3);
        expectGot(x, 0, 0, 0);
        Traced y = fresh();
        formula(y, 0, 0, C, 0, 1);
        int fault = formula(y, 0, 1, C, 1, 1);
        round(y, 0);
        due("reason", y.round(0, 4), Cellmarket.HIDDEN);
        due("from a fault to a price of 0", y.strikeEdit(fault), 1);
        due("price", y.round(0, 1), 0);
        Traced z = fresh();
        int below = number(z, 0, 0, -1);
        round(z, 0);
        due("another reason alone", z.strikeEdit(below), 0);
        due("the reason", z.round(0, 4), Cellmarket.EMPTY);
    }

    private static void events() {
        about(30, "Returns how many events there were.", () -> {
            Traced x = fresh();
            due("none", x.events(), 0);
            due("asking is none", x.events(), 0);
            x.bell(0);
            due("one", x.events(), 1);
            refused(x, "a refused one is none", NOT, m -> m.bid(0, 0, true, 1, 1));
            due("one", x.events(), 1);
            for (int i = 2; i <= 400; i++) {
                x.settle(0);
            }
            due("many", x.events(), 400);
        });
    }
}
