import java.util.function.Supplier;

/** "Promise 1" to "Promise 33", call by call: each range's ends, what is empty and what is full. */
public final class CallEdgeTests {
    private static final int BEYOND = Book.BEYOND, NONE = Book.NONE, KIND = Book.KIND;
    private static final int SIZE = Book.SIZE, FULL = Book.FULL, VOID = Book.VOID;
    private static final int LEAST = Integer.MIN_VALUE, MOST = Integer.MAX_VALUE;

    /** A call of which one argument is tried. */
    private interface Trial {
        int answer(Book x, int v);
    }

    private static void due(String call, int got, int want) {
        Tally.due(call, got, want);
    }

    /** A CARD of player 1, a front SHORT of 2, a back SHORT of 2, an AWAY of 3, all with a MARK or HALF. */
    private static Book fourCards() {
        Book x = new Book();
        x.putCard(1, 0, 10, 5);
        x.putNine(2, 11, 5);
        x.same(9, 5).nine(2, 3, 12, false);
        x.away(3, 13, 77);
        return x;
    }

    private static Book fullBook() {
        Book x = fourCards();
        x.same(18, 4).card(1, 0, 10);
        return x.aways(4, 100, Book.times(55, 100));
    }

    private static Book holesWait(Book x, int n) {
        return x.same(n, 4);
    }

    /** Allowed from least to most, BEYOND outside, out to the ends of int and where narrower numbers wrap. */
    private static void within(String argument, int least, int most, Trial trial) {
        within(argument, least, most, BEYOND, CallEdgeTests::fourCards, trial);
    }

    private static void within(String argument, int least, int most, int finding,
            Supplier<Book> state, Trial trial) {
        Tally.test(argument + " is " + least + " .. " + most, () -> {
            for (int v : new int[] {least, most, least + (most - least) / 2}) {
                if (least <= most) {
                    int answer = trial.answer(state.get(), v);
                    Tally.due(v + " is refused", answer <= BEYOND ? answer : 0, 0);
                }
            }
            int[] outside = {LEAST, LEAST + 1, least - 1, most + 1, MOST - 1, MOST, least + 65536, most - 65536,
                least + (1 << 30), most - (1 << 30), LEAST + most, -most - 2000000};
            for (int v : outside) {
                due("" + v, trial.answer(state.get(), v), finding);
            }
        });
    }

    private static void courseArguments() {
        within("course(c)", 0, 3, (x, v) -> x.course(v, 700, 100));
        within("course(rating)", 500, 800, (x, v) -> x.course(2, v, 100));
        within("course(slope)", 55, 155, (x, v) -> x.course(2, 700, v));
        within("hole(c)", 0, 3, (x, v) -> x.hole(v, 0, 4, 1));
        within("hole(h)", 0, 17, (x, v) -> x.hole(2, v, 4, 1));
        within("hole(par)", 3, 5, (x, v) -> x.hole(2, 0, v, 1));
        within("hole(rank)", 1, 18, (x, v) -> x.hole(2, 0, 4, v));
        within("right(c)", 0, 3, (x, v) -> x.right(v, 0, 1));
        within("right(day)", 0, 9999, (x, v) -> x.right(0, v, 1));
        within("right(right)", -1, 3, (x, v) -> x.right(0, 0, v));
        within("about(c)", 0, 3, (x, v) -> x.about(v, 0));
        within("about(c), a hole's PAR", 0, 3, (x, v) -> x.about(v, 117));
        within("about(c), a hole's RANK", 0, 3, (x, v) -> x.about(v, 217));
        within("given(course)", 0, 3, (x, v) -> x.given(1, v, 50));
        within("strokes(course)", 0, 3, (x, v) -> x.strokes(v, 20, 0));
        within("strokes(hole)", 0, 17, (x, v) -> x.strokes(0, 20, v));
    }

    private static void cardArguments() {
        within("card(player)", 0, 11, (x, v) -> holesWait(x, 18).card(v, 0, 0));
        within("card(course)", 0, 3, (x, v) -> holesWait(x, 18).card(0, v, 0));
        within("card(day)", 0, 9999, (x, v) -> holesWait(x, 18).card(0, 0, v));
        for (boolean front : new boolean[] {true, false}) {
            within("nine(player)", 0, 11, (x, v) -> holesWait(x, 9).nine(v, 0, 0, front));
            within("nine(course)", 0, 3, (x, v) -> holesWait(x, 9).nine(0, v, 0, front));
            within("nine(day)", 0, 9999, (x, v) -> holesWait(x, 9).nine(0, 0, v, front));
        }
        within("away(player)", 0, 11, (x, v) -> x.away(v, 0, 0));
        within("away(day)", 0, 9999, (x, v) -> x.away(0, v, 0));
        within("away(mark)", -200, 900, (x, v) -> x.away(0, 0, v));
        within("pickUp(i) of 7 that wait", 0, 6, (x, v) -> holesWait(x, 7).pickUp(v));
        within("pickUp(i) of 18 that wait", 0, 17, (x, v) -> holesWait(x, 18).pickUp(v));
        within("ask(what)", 0, 5, (x, v) -> x.ask(0, v));
        within("as(kind)", 0, 2, (x, v) -> x.as(0, v) == KIND ? 0 : x.as(0, v));
        within("at(hole) of a CARD", 0, 17, (x, v) -> x.at(0, v));
        within("at(hole) of a front SHORT", 0, 8, (x, v) -> x.at(1, v));
        within("at(hole) of a back SHORT", 9, 17, (x, v) -> x.at(2, v));
        within("adjusted(hole) of a CARD", 0, 17, (x, v) -> x.adjusted(0, v));
        within("adjusted(hole) of a front SHORT", 0, 8, (x, v) -> x.adjusted(1, v));
        within("adjusted(hole) of a back SHORT", 9, 17, (x, v) -> x.adjusted(2, v));
    }

    private static void playerAndDayArguments() {
        within("number(player)", 0, 11, (x, v) -> x.number(v, 50));
        within("number(day)", 0, 9999, (x, v) -> x.number(1, v));
        for (boolean low : new boolean[] {false, true}) {
            within("raw(player)", 0, 11, (x, v) -> orZero(x.raw(v, 50, low)));
            within("raw(day)", 0, 9999, (x, v) -> orZero(x.raw(1, v, low)));
        }
        within("last(player)", 0, 11, (x, v) -> x.last(v, 50));
        within("last(day)", 0, 9999, (x, v) -> x.last(1, v));
        within("makes(player)", 0, 11, (x, v) -> orZero(x.makes(v, 50, 0)));
        within("makes(day)", 0, 9999, (x, v) -> orZero(x.makes(1, v, 0)));
        within("given(player)", 0, 11, (x, v) -> x.given(v, 0, 50));
        within("given(day)", 0, 9999, (x, v) -> x.given(1, 0, v));
        within("check(player)", 0, 11, (x, v) -> x.check(v, 50));
        within("check(day)", 0, 9999, (x, v) -> x.check(1, v));
        within("count(what)", 0, 5, (x, v) -> x.count(v));
        within("found(finding)", VOID, BEYOND, (x, v) -> x.found(v));
        within("makes(i) of one that makes RAW", 0, 0, NONE, () -> new Book().aways(0, 0, Book.times(5, 10)), (x, v) -> x.makes(0, 50, v));
        within("makes(i) of eight", 0, 7, NONE, () -> new Book().aways(0, 0, Book.times(20, 10)), (x, v) -> x.makes(0, 50, v));
    }

    private static int orZero(int answer) {
        return answer == NONE ? 0 : answer;
    }

    /** Every call that takes a card's number. */
    private static void cardNumbers() {
        String[] names = {"strike", "strike back", "ask", "as", "at", "adjusted", "mark", "half", "joined", "score", "net score",
            "points", "match, first", "match, second", "place"};
        Trial[] calls = {(x, v) -> x.strike(v, true), (x, v) -> x.strike(v, false), (x, v) -> x.ask(v, 0), (x, v) -> x.as(v, 0),
            (x, v) -> x.at(v, 0), (x, v) -> x.adjusted(v, 0), (x, v) -> x.mark(v), (x, v) -> x.half(v), (x, v) -> x.joined(v),
            (x, v) -> x.score(v, false), (x, v) -> x.score(v, true), (x, v) -> x.points(v), (x, v) -> x.match(v, v),
            (x, v) -> x.match(0, v), (x, v) -> x.place(v)};
        for (int i = 0; i < calls.length; i++) {
            Trial call = calls[i];
            Trial unlessBeyond = (x, v) -> call.answer(x, v) == BEYOND ? BEYOND : 0;
            // hole 0 is none of the last card's where that is a back SHORT, so the last one here is a CARD
            within(names[i] + "(card) of 5", 0, 4, BEYOND, () -> {
                Book x = fourCards();
                x.putCard(0, 0, 0, 4);
                return x;
            }, (x, v) -> v == 2 ? 0 : unlessBeyond.answer(x, v));
            within(names[i] + "(card) of 60", 0, 59, BEYOND, CallEdgeTests::fullBook, unlessBeyond);
            Tally.test(names[i] + ": there is no such card in an empty book", () -> {
                for (int v : new int[] {LEAST, -1, 0, 1, 59, 60, MOST}) {
                    due("card " + v, call.answer(new Book(), v), BEYOND);
                }
            });
            Tally.test(names[i] + ": a card that was undone is no more", () -> {
                Book x = fullBook();
                x.undo();
                due("card 59", call.answer(x, 59), BEYOND);
                due("card 58", unlessBeyond.answer(x, 58), 0);
            });
        }
    }

    private static void courses() {
        Tally.test("Promise 1: Courses as told, no cards, RIGHT 0", () -> {
            Book x = new Book();
            for (int c = 0; c < 4; c++) {
                due("RATING", x.about(c, 0), 720);
                due("SLOPE", x.about(c, 1), 113);
                due("first PAR", x.about(c, 100), 4);
                due("last PAR", x.about(c, 117), 4);
                due("first RANK", x.about(c, 200), 1);
                due("last RANK", x.about(c, 217), 18);
                due("RIGHT on the first day", x.right(c, 0, 0), 0);
                due("RIGHT on the last day", x.right(c, 9999, 0), 0);
            }
            for (int what = 0; what <= 5; what++) {
                due("count " + what, x.count(what), 0);
            }
            due("undo", x.undo(), NONE);
            due("check with nothing told", x.check(0, 0), 1);
        });
        Tally.test("Promise 2: a course's RATING and SLOPE are its own", () -> {
            Book x = new Book();
            due("least", x.course(0, 500, 155), 1);
            due("most", x.course(3, 800, 55), 1);
            due("RATING", x.about(0, 0), 500);
            due("SLOPE", x.about(0, 1), 155);
            due("RATING", x.about(3, 0), 800);
            due("SLOPE", x.about(3, 1), 55);
            due("another's RATING", x.about(1, 0), 720);
            due("another's SLOPE", x.about(2, 1), 113);
            due("the same again", x.course(0, 500, 155), 1);
        });
        Tally.test("Promise 3: the hole that had that rank gets this one's: the rank that it had", () -> {
            Book x = new Book();
            due("hole 0 to 18", x.hole(0, 0, 3, 18), 1);
            due("hole 17", x.about(0, 217), 1);
            due("hole 17 to 18", x.hole(0, 17, 5, 18), 1);
            due("hole 0", x.about(0, 200), 1);
            due("its own rank", x.hole(0, 17, 3, 18), 18);
            due("hole 17", x.about(0, 217), 18);
            due("PAR of hole 0", x.about(0, 100), 3);
            due("PAR of hole 17", x.about(0, 117), 3);
            due("another course", x.about(1, 217), 18);
        });
        Tally.test("Promise 5: what is 0 .. 3, 100 + h, 200 + h", () -> {
            Book x = new Book();
            x.hole(1, 8, 5, 1);
            x.hole(1, 9, 3, 18);
            x.hole(1, 10, 3, 17);
            due("sum of PARS", x.about(1, 2), 71);
            due("of the first nine: hole 8 is one, hole 9 none", x.about(1, 3), 37);
            for (int what : new int[] {0, 1, 2, 3, 100, 117, 200, 217}) {
                due("what " + what, x.about(1, what) > 0 ? 1 : 0, 1);
            }
            for (int what : new int[] {LEAST, -200, -100, -1, 4, 99, 118, 199, 218, 300, 65536, 65636, MOST}) {
                due("what " + what, x.about(1, what), BEYOND);
            }
        });
    }

    private static void rights() {
        Tally.test("Promise 4: FULL: it would be other than 0 for a 31st course and day", () -> {
            for (int last : new int[] {-1, 1, 2, 3}) {
                Book x = thirtyRights();
                due("a 31st, " + last, x.right(3, 500, last), FULL);
                due("it is 0", x.right(3, 500, 0), 0);
                due("another course of a day that has one", x.right(1, 0, last), FULL);
                due("another day of a course that has one", x.right(0, 9998, last), FULL);
            }
        });
        Tally.test("Promise 4: one of the 30 may change, and end, and give room", () -> {
            Book x = thirtyRights();
            due("the first changes", x.right(0, 0, -1), 1);
            due("the last changes", x.right(1, 29, 2), 1);
            due("the first ends", x.right(0, 0, 0), -1);
            due("it was 0 then", x.right(0, 0, 0), 0);
            due("there is room for one", x.right(3, 9999, 3), 0);
            due("and for no other", x.right(0, 0, 1), FULL);
            due("the last is as it was", x.right(1, 29, 2), 2);
            due("the new one too", x.right(3, 9999, 3), 3);
            for (int i = 1; i < 29; i++) {
                due("right " + i, x.right(i % 4, i, 0), 1);
            }
            for (int i = 0; i < 28; i++) {
                due("28 more", x.right(2, 5000 + i, -1), 0);
            }
            due("and no 31st", x.right(2, 6000, 1), FULL);
        });
        Tally.test("Promise 4: RIGHT of a full book still makes MARKS", () -> {
            Book x = thirtyRights();
            x.putCard(0, 0, 28, 4);
            x.putCard(0, 0, 30, 4);
            due("the 29th", x.mark(0), -10);
            due("none", x.mark(1), 0);
            x.right(0, 28, 0);
            due("ended", x.mark(0), 0);
            x.right(0, 30, 3);
            due("in its room", x.mark(1), -30);
        });
    }

    private static Book thirtyRights() {
        Book x = new Book();
        for (int i = 0; i < 30; i++) {
            due("the first 30", x.right(i % 4, i, 1), 0);
        }
        return x;
    }

    private static void holesThatWait() {
        Tally.test("Promise 6: SIZE: n is below 0. BEYOND: n is above 8", () -> {
            for (int n : new int[] {LEAST, LEAST + 1, -65536, -8, -1}) {
                due("n " + n, new Book().holes(-1L, n), SIZE);
            }
            for (int n = 0; n <= 8; n++) {
                due("n " + n, new Book().holes(-1L, n), n);
            }
            for (int n : new int[] {9, 16, 18, 65536, MOST - 18, MOST - 1, MOST}) {
                due("n " + n, new Book().holes(-1L, n), BEYOND);
            }
        });
        Tally.test("Promise 6: FULL: more than 18 would wait", () -> {
            for (int n = 0; n <= 8; n++) {
                Book x = holesWait(new Book(), 18 - n);
                due(n + " more", x.holes(0L, n), 18);
                due("one more", x.holes(0L, 1), FULL);
                due("none more", x.holes(0L, 0), 18);
                if (n < 8) {
                    Book y = holesWait(new Book(), 18 - n);
                    due((n + 1) + " more", y.holes(0L, n + 1), FULL);
                    due("as many as before wait", y.count(4), 18 - n);
                }
            }
        });
        Tally.test("Promise 6: from the lowest four bits of w on, and no others", () -> {
            long[] words = {0L, -1L, Long.MIN_VALUE, Long.MAX_VALUE, 0xFFFFFFFF00000000L, 0x00000000FFFFFFFFL, 0x80000000L,
                0x7FFFFFFFL, 0xF0F0F0F087654321L};
            for (long w : words) {
                Book x = new Book();
                x.holes(w, 8);
                x.holes(w, 1);
                due("nine", x.nine(0, 0, 0, true), 0);
                for (int h = 0; h < 9; h++) {
                    due("hole " + h + " of " + Long.toHexString(w), x.at(0, h), (int) (w >> 4 * (h % 8)) & 15);
                }
            }
        });
        Tally.test("Promise 7: the i-th of those that wait: BEYOND: there is none such", () -> {
            due("none waits", new Book().pickUp(0), BEYOND);
            Book x = new Book();
            x.holes(0x0404L, 4);
            due("the fifth of four", x.pickUp(4), BEYOND);
            due("the fourth", x.pickUp(3), 1);
            due("the first", x.pickUp(0), 1);
            due("once more", x.pickUp(0), 1);
            due("four wait", x.count(4), 4);
            holesWait(x, 5).nine(0, 0, 0, false);
            due("the first", x.at(0, 9), -1);
            due("the second, not played", x.at(0, 10), 0);
            due("the third", x.at(0, 11), 4);
            due("the fourth, not played", x.at(0, 12), -1);
            due("none waits then", x.pickUp(0), BEYOND);
            x.holes(0x444L, 3);
            due("the fourth of three", x.pickUp(3), BEYOND);
            holesWait(x, 6).nine(0, 0, 0, false);
            due("no PICK-UP is left over", x.at(1, 9), 4);
        });
    }

    private static void cardsPutDown() {
        Tally.test("Promise 8: SIZE: 18 don't wait", () -> {
            for (int n = 0; n <= 18; n++) {
                Book x = holesWait(new Book(), n);
                due(n + " wait", x.card(0, 0, 0), n == 18 ? 0 : SIZE);
                due("then", x.count(4), n == 18 ? 0 : n);
                due("cards", x.count(0), n == 18 ? 1 : 0);
            }
        });
        Tally.test("Promise 9: SIZE: 9 don't wait", () -> {
            for (int n = 0; n <= 18; n++) {
                Book x = holesWait(new Book(), n);
                due(n + " wait", x.nine(0, 0, 0, n % 2 == 0), n == 9 ? 0 : SIZE);
                due("then", x.count(4), n == 9 ? 0 : n);
                due("cards", x.count(0), n == 9 ? 1 : 0);
            }
        });
        Tally.test("Promise 8 to 10: FULL: there are 60 cards", () -> {
            for (int there = 59; there <= 60; there++) {
                int want = there == 60 ? FULL : 59;
                due("card", holesWait(cards(there), 18).card(0, 0, 0), want);
                due("front", holesWait(cards(there), 9).nine(0, 0, 0, true), want);
                due("back", holesWait(cards(there), 9).nine(0, 0, 0, false), want);
                due("away", cards(there).away(0, 0, 0), want);
                Book x = cards(60);
                x.strike(0, true);
                due("a VOID one gives no room", x.away(0, 0, 0), FULL);
                due("undone, there is room", x.undo(), 59);
                due("its number", x.away(0, 0, 5), 59);
                due("and no more", x.away(0, 0, 5), FULL);
            }
        });
        Tally.test("Promise 8 to 10: a card at the ends of player, course and day is as it was told", () -> {
            Book x = new Book();
            x.same(18, 4).card(0, 0, 0);
            x.same(18, 4).card(11, 3, 9999);
            x.same(9, 4).nine(0, 0, 0, true);
            x.same(9, 4).nine(11, 3, 9999, false);
            x.away(0, 0, -200);
            x.away(11, 9999, 900);
            for (int card = 0; card < 6; card++) {
                boolean last = card % 2 == 1;
                due("kind", x.ask(card, 0), card / 2);
                due("player", x.ask(card, 1), last ? 11 : 0);
                due("day", x.ask(card, 2), last ? 9999 : 0);
                due("VOID", x.ask(card, 3), 0);
                due("course", x.ask(card, 4), card > 3 ? NONE : last ? 3 : 0);
                due("holes", x.ask(card, 5), card > 3 ? NONE : card < 2 ? 18 : 9);
            }
        });
        Tally.test("Promise 10: what waits stays", () -> {
            for (int n : new int[] {0, 1, 9, 18}) {
                Book x = holesWait(new Book(), n);
                due("away", x.away(0, 0, 0), 0);
                due("wait", x.count(4), n);
            }
            Book x = new Book().row("12345678p");
            x.away(0, 0, 0);
            x.nine(0, 0, 0, true);
            due("the first of them", x.at(1, 0), 1);
            due("the last of them", x.at(1, 8), -1);
        });
    }

    private static Book cards(int n) {
        return new Book().aways(5, 0, Book.times(n, 100));
    }

    private static void cardsAsked() {
        Tally.test("Promise 11: 1 if that is new, else 0", () -> {
            Book x = fourCards();
            for (int card = 0; card < 4; card++) {
                due("isn't VOID already", x.strike(card, false), 0);
                due("VOID", x.strike(card, true), 1);
                due("VOID already", x.strike(card, true), 0);
                due("asked", x.ask(card, 3), 1);
                due("those that are", x.count(1), 1);
                due("not any more", x.strike(card, false), 1);
                due("asked", x.ask(card, 3), 0);
                due("none is", x.count(1), 0);
            }
        });
        Tally.test("Promise 12: 5 holes played: none to all, PICK-UPS too", () -> {
            String[] rows = {"0".repeat(18), "0".repeat(17) + "1", "p" + "0".repeat(17), "f".repeat(17) + "0", "p".repeat(18), "4".repeat(18)};
            int[] want = {0, 1, 1, 17, 18, 18};
            Book x = new Book();
            for (int i = 0; i < rows.length; i++) {
                due(rows[i], x.ask(x.row(rows[i]).card(0, 0, 0), 5), want[i]);
            }
            due("a SHORT's", x.ask(x.row("p00000004").nine(0, 0, 0, true), 5), 2);
            x.strike(6, true);
            due("a VOID one's", x.ask(6, 5), 2);
        });
        Tally.test("Promise 12: NONE of AWAY", () -> {
            Book x = fourCards();
            due("course", x.ask(3, 4), NONE);
            due("holes played", x.ask(3, 5), NONE);
            due("VOID or not", x.ask(3, 3), 0);
        });
        Tally.test("Promise 13: KIND: it isn't of that kind, nor of one under it", () -> {
            Book x = fourCards();
            int[][] want = {{1, KIND, KIND}, {2, 2, KIND}, {2, 2, KIND}, {3, KIND, 3}};
            for (int card = 0; card < 4; card++) {
                for (int kind = 0; kind < 3; kind++) {
                    due("card " + card + " as " + kind, x.as(card, kind), want[card][kind]);
                }
            }
        });
        Tally.test("Promise 14: KIND: it is an AWAY; a VOID card still has its holes", () -> {
            Book x = fourCards();
            due("away", x.at(3, 0), KIND);
            x.strike(0, true);
            due("hole 0", x.at(0, 0), 5);
            due("hole 17", x.at(0, 17), 5);
        });
        Tally.test("Promise 15 to 18: VOID, and as before when it isn't any more", () -> {
            Book x = fourCards();
            for (int card = 0; card < 4; card++) {
                x.strike(card, true);
            }
            due("adjusted", x.adjusted(0, 0), VOID);
            due("adjusted of a SHORT", x.adjusted(2, 17), VOID);
            due("mark of a CARD", x.mark(0), VOID);
            due("mark of a SHORT", x.mark(2), VOID);
            due("mark of an AWAY", x.mark(3), VOID);
            due("half", x.half(1), VOID);
            due("joined", x.joined(1), VOID);
            for (int card = 0; card < 4; card++) {
                x.strike(card, false);
            }
            due("adjusted", x.adjusted(0, 0), 5);
            due("mark of a CARD", x.mark(0), 180);
            due("mark of a SHORT", x.mark(2), 180);
            due("mark of an AWAY", x.mark(3), 77);
            due("half", x.half(1), 90);
            due("joined", x.joined(1), 2);
        });
        Tally.test("Promise 16 to 18: NONE: it has none, it isn't", () -> {
            Book x = new Book();
            x.row("4444444444444 00000").card(0, 0, 0);
            x.row("444444 000").nine(0, 0, 0, true);
            x.putNine(0, 5, 4);
            due("mark of 13 holes", x.mark(0), NONE);
            due("mark of a SHORT of 6", x.mark(1), NONE);
            due("mark of a SHORT alone", x.mark(2), NONE);
            due("half of 6", x.half(1), NONE);
            due("half of 9", x.half(2), 0);
            due("joined of 6", x.joined(1), NONE);
            due("joined of one alone", x.joined(2), NONE);
        });
    }

    private static void numbers() {
        Tally.test("Promise 20: NONE: fewer than 3, or no LOW", () -> {
            Book x = new Book().aways(0, 0, Book.times(20, 50));
            due("RAW of day 2", x.raw(0, 2, false), NONE);
            due("RAW of day 3", x.raw(0, 3, false), 30);
            due("LOW of day 19", x.raw(0, 19, true), NONE);
            due("LOW of day 20", x.raw(0, 20, true), 50);
            due("RAW of one without cards", x.raw(1, 9999, false), NONE);
            due("LOW of one without cards", x.raw(1, 9999, true), NONE);
        });
        Tally.test("Promise 21: how many LAST has: none to 20", () -> {
            Book x = new Book().aways(0, 0, Book.times(25, 50));
            for (int day = 0; day <= 25; day++) {
                due("day " + day, x.last(0, day), Math.min(day, 20));
            }
            due("the last day", x.last(0, 9999), 20);
            due("one without cards", x.last(1, 9999), 0);
        });
        Tally.test("Promise 22: NONE: there is none such", () -> {
            Book x = new Book().aways(0, 0, Book.times(2, 50)).aways(1, 0, Book.times(20, 50));
            due("of two cards", x.makes(0, 9, 0), NONE);
            due("of no card", x.makes(2, 9, 0), NONE);
            due("the first of 8", x.makes(1, 20, 0), 2);
            due("the last of 8", x.makes(1, 20, 7), 9);
            due("a ninth", x.makes(1, 20, 8), NONE);
            due("one ahead of the first", x.makes(1, 20, -1), NONE);
            due("the least", x.makes(1, 20, LEAST), NONE);
            due("the most", x.makes(1, 20, MOST), NONE);
            due("where sums would wrap", x.makes(1, 20, MOST - 7), NONE);
        });
        Tally.test("Promise 22: the least MARK first, of like ones the one ahead in ORDER", () -> {
            // by day from the last to the first, so that numbers go against ORDER
            Book x = new Book();
            for (int i = 0; i < 20; i++) {
                x.away(0, 100 - i, i % 2 == 0 ? 30 : 30 + i);
            }
            int[] want = {18, 16, 14, 12, 10, 8, 6, 4};
            for (int i = 0; i < want.length; i++) {
                due("makes " + i, x.makes(0, 101, i), want[i]);
            }
            x.strike(18, true);
            x.away(0, 82, 30);
            due("of one day the lesser number is VOID", x.makes(0, 101, 0), 20);
            x.strike(18, false);
            x.strike(19, true);
            due("and isn't any more", x.makes(0, 101, 0), 18);
            due("then the other", x.makes(0, 101, 1), 20);
        });
        Tally.test("Promise 24: G at the ends of int", () -> {
            Book x = new Book();
            // -2147483648 by 18 is -119304648, and 16 are left
            due("rank 16 of the least", x.strokes(0, LEAST, 15), -119304647);
            due("rank 17 of the least", x.strokes(0, LEAST, 16), -119304648);
            due("rank 18 of the least", x.strokes(0, LEAST, 17), -119304648);
            due("the least and 1", x.strokes(0, LEAST + 1, 16), -119304647);
            due("the least and 2", x.strokes(0, LEAST + 2, 17), -119304647);
            // 2147483647 by 18 is 119304647, and 1 is left
            due("rank 1 of the most", x.strokes(0, MOST, 0), 119304648);
            due("rank 2 of the most", x.strokes(0, MOST, 1), 119304647);
            due("the most less 1", x.strokes(0, MOST - 1, 0), 119304647);
            due("the most less 2", x.strokes(0, MOST - 2, 17), 119304646);
        });
    }

    private static void forms() {
        Tally.test("Promise 25: the sum of STROKES: least and most", () -> {
            Book x = new Book();
            x.putCard(0, 0, 0, 1);
            x.putCard(0, 0, 0, 15);
            x.putNine(0, 0, 1);
            x.putNine(0, 0, 15);
            int[] want = {18, 270, 9, 135};
            for (int card = 0; card < 4; card++) {
                due("card " + card, x.score(card, false), want[card]);
                due("net", x.score(card, true), want[card] - (card < 2 ? 54 : 27));
            }
        });
        Tally.test("Promise 25: NONE: a hole is a PICK-UP or wasn't played", () -> {
            String[] rows = {"p" + "4".repeat(17), "4".repeat(17) + "p", "0" + "4".repeat(17), "4".repeat(17) + "0"};
            Book x = new Book();
            for (String row : rows) {
                int card = x.row(row).card(0, 0, 0);
                due(row, x.score(card, false), NONE);
                due(row + ", net", x.score(card, true), NONE);
            }
            int nine = x.row("44444444p").nine(0, 0, 0, false);
            due("a SHORT's", x.score(nine, false), NONE);
            due("an AWAY's", x.score(x.away(0, 0, 0), false), KIND);
        });
        Tally.test("Promise 26: less STROKES, if that is above 0", () -> {
            Book x = new Book().aways(0, 0, 20, 20, 20);
            x.row("567 f p 0 444444444444").card(0, 0, 3);
            due("6 less 5, 6, 7, 15; PICK-UP; not played; 12 of 2", x.points(3), 1 + 24);
            x.row("p".repeat(18)).card(0, 0, 3);
            due("PICK-UPS", x.points(4), 0);
            x.row("0".repeat(18)).card(0, 0, 3);
            due("not played", x.points(5), 0);
            x.putCard(0, 0, 3, 1);
            due("the most", x.points(6), 90);
            x.putCard(0, 0, 3, 6);
            due("just none", x.points(7), 0);
            due("an AWAY's", x.points(0), KIND);
            x.same(9, 5).nine(0, 0, 3, false);
            due("a SHORT's", x.points(8), 9);
        });
        Tally.test("Promise 26 and 27: what is given below 0 counts, too", () -> {
            Book x = new Book().aways(0, 0, Book.times(3, -180)).aways(1, 0, 20, 20, 20);
            // N -200, G -20: -2, and -1 at ranks 1 .. 16
            x.putCard(0, 0, 3, 4);
            x.putCard(1, 0, 3, 5);
            due("16 of 5 less 4, 2 of 4 less 4", x.points(6), 16);
            due("4 and 1 is 5: halved; 4 and 2 loses", x.match(6, 7), -200);
            due("net", x.score(6, true), 72 + 20);
        });
    }

    /** A match against a card with 4 at each hole, from either side. */
    private static void matchDue(String shots, int up, int left) {
        Book x = new Book();
        x.putCard(0, 0, 0, 4);
        x.row(shots).card(1, 0, 0);
        due(shots, x.match(1, 0), 100 * up + left);
        due(shots + " as the other", x.match(0, 1), up == 0 ? 0 : -100 * up + left);
    }

    private static void matches() {
        Tally.test("Promise 27: it ends when one is up by more than holes are left", () -> {
            matchDue("3333333333 44444444", 10, 8);
            matchDue("3333333333 55555555", 10, 8);
            matchDue("4433333333 44444444", 8, 7);
            matchDue("33 44444444 44444444", 2, 1);
            matchDue("33 44444444 4444444 5", 2, 1);
            matchDue("4444444444 44444 333", 2, 1);
            matchDue("4444444444 444444 33", 2, 0);
            matchDue("3 44444444 444444444", 1, 0);
            matchDue("4444444444 4444444 3", 1, 0);
            matchDue("333 55555555 5555555", -7, 5);
        });
        Tally.test("Promise 27: it goes on when one is up by just as many as are left", () -> {
            matchDue("333333333 555555555", 0, 0);
            matchDue("33 44444444 444444 55", 0, 0);
            matchDue("3 44444444 44444444 5", 0, 0);
        });
        Tally.test("Promise 27: of all square at the end 0", () -> {
            matchDue("444444444 444444444", 0, 0);
            matchDue("35 35 35 35 35 35 35 35 35", 0, 0);
            Book x = fourCards();
            due("a card and itself", x.match(0, 0), 0);
        });
        Tally.test("Promise 27: a PICK-UP or one not played loses to STROKES; two such are halved", () -> {
            matchDue("p 44444444 444444444", -1, 0);
            matchDue("0 44444444 444444444", -1, 0);
            matchDue("p".repeat(18), -10, 8);
            for (String pair : new String[] {"pp", "00", "p0", "0p"}) {
                Book x = new Book();
                x.row(pair.charAt(0) + "f" + "4".repeat(16)).card(0, 0, 0);
                x.row(pair.charAt(1) + "p" + "4".repeat(16)).card(1, 0, 0);
                due(pair + ", and 15 wins", x.match(0, 1), 100);
                x.row(pair.charAt(0) + "p" + "4".repeat(16)).card(2, 0, 0);
                due(pair + ", and two PICK-UPS", x.match(2, 1), 0);
            }
        });
        Tally.test("Promise 27: STROKES at their ends, 1 and 15, win against those", () -> {
            for (String other : new String[] {"p", "0"}) {
                for (String shots : new String[] {"1", "f"}) {
                    Book x = new Book();
                    x.row(shots + "4".repeat(17)).card(0, 0, 0);
                    x.row(other + "4".repeat(17)).card(1, 0, 0);
                    due(shots + " against " + other, x.match(0, 1), 100);
                    due(other + " against " + shots, x.match(1, 0), -100);
                }
            }
            matchDue("1 44444444 444444444", 1, 0);
            matchDue("f 44444444 444444444", -1, 0);
        });
        Tally.test("Promise 27: STROKES less what is given, one more or less", () -> {
            // player 0 has G 1, at rank 1; player 1 has none
            Book x = new Book().aways(0, 0, 30, 30, 30).aways(1, 0, 20, 20, 20);
            x.putCard(0, 0, 3, 5);
            x.row("5" + "5".repeat(17)).card(1, 0, 3);
            x.row("4" + "5".repeat(17)).card(1, 0, 3);
            x.row("3" + "5".repeat(17)).card(1, 0, 3);
            due("5 less 1 against 5", x.match(6, 7), 100);
            due("5 less 1 against 4", x.match(6, 8), 0);
            due("5 less 1 against 3", x.match(6, 9), -100);
        });
        Tally.test("Promise 27: KIND: one is no CARD of its own kind, or they are of unlike courses", () -> {
            Book x = fourCards();
            x.same(18, 4).card(0, 3, 10);
            x.same(18, 4).card(0, 0, 9000);
            for (int other = 1; other <= 4; other++) {
                due("0 and " + other, x.match(0, other), KIND);
                due(other + " and 0", x.match(other, 0), KIND);
            }
            due("a SHORT and itself", x.match(1, 1), KIND);
            due("an AWAY and itself", x.match(3, 3), KIND);
            due("of unlike days", x.match(5, 0), 1008);
        });
    }

    /** Cards with 5 at each hole but for 4 at those named; 3 are given at each hole. */
    private static void putBetterAt(Book x, int... holes) {
        StringBuilder row = new StringBuilder("5".repeat(18));
        for (int h : holes) {
            row.setCharAt(h, '4');
        }
        x.row(row.toString()).card(0, 0, 0);
    }

    private static void firstOf(String why, boolean lesserFirst, int[] a, int[] b) {
        Book x = new Book();
        putBetterAt(x, a);
        putBetterAt(x, b);
        due(why + ", card 0", x.place(0), lesserFirst ? 1 : 2);
        due(why + ", card 1", x.place(1), lesserFirst ? 2 : 1);
    }

    /** Put down in either order, the one with the better hole there is first. */
    private static void ahead(String why, int[] first, int[] second) {
        firstOf(why, true, first, second);
        firstOf(why + ", put down behind", false, second, first);
    }

    private static void alike(String why, int a, int b) {
        firstOf(why, true, new int[] {a}, new int[] {b});
        firstOf(why, true, new int[] {b}, new int[] {a});
    }

    private static void places() {
        int[][] lastHolesFrom = {{9, 0}, {12, 9}, {15, 12}, {17, 15}};
        for (int[] pair : lastHolesFrom) {
            int from = pair[0];
            Tally.test("Promise 28: of like ones by those of the last " + (18 - from) + " holes", () -> {
                ahead("hole " + from + " and the one ahead", new int[] {from}, new int[] {from - 1});
                ahead("the last hole", new int[] {17}, new int[] {from - 1});
                alike("two holes ahead of these", pair[1], from - 1);
            });
        }
        Tally.test("Promise 28: by POINTS, then nine, six, three, one: each ahead of the next", () -> {
            ahead("POINTS ahead of nine", new int[] {0, 1}, new int[] {17});
            ahead("nine ahead of six", new int[] {9, 10}, new int[] {0, 17});
            ahead("six ahead of three", new int[] {12, 13}, new int[] {9, 17});
            ahead("three ahead of one", new int[] {15, 16}, new int[] {12, 17});
        });
        Tally.test("Promise 28: then the lesser number first", () -> {
            alike("just alike", 17, 17);
            firstOf("none better", true, new int[0], new int[0]);
        });
        Tally.test("Promise 28: 60 CARDS alike have places 1 .. 60", () -> {
            Book x = new Book();
            for (int n = 0; n < 60; n++) {
                x.putCard(n % 12, 1, 50, 4);
            }
            for (int n = 0; n < 60; n++) {
                due("card " + n, x.place(n), n + 1);
            }
        });
        Tally.test("Promise 28: among those of its own kind, course and day", () -> {
            Book x = new Book();
            x.putCard(0, 1, 50, 5);
            x.putCard(1, 0, 50, 1);
            x.putCard(1, 1, 49, 1);
            x.putCard(1, 1, 51, 1);
            x.same(9, 1).nine(1, 1, 50, false);
            x.away(1, 50, -200);
            due("alone", x.place(0), 1);
            x.putCard(1, 1, 50, 4);
            due("no more", x.place(0), 2);
        });
        Tally.test("Promise 28: a VOID card has its place, and the others behind it theirs", () -> {
            Book x = new Book();
            x.putCard(0, 0, 0, 4);
            x.putCard(1, 0, 0, 5);
            x.strike(0, true);
            due("the VOID one", x.place(0), 1);
            due("the one behind it", x.place(1), 2);
        });
        Tally.test("Promise 28: the first thing that is asked of a book", () -> {
            for (int asked = 0; asked < 2; asked++) {
                for (int better = 0; better < 2; better++) {
                    Book x = new Book();
                    x.putCard(0, 0, 0, better == 0 ? 4 : 5);
                    x.putCard(1, 0, 0, better == 1 ? 4 : 5);
                    due("card " + asked + ", better is " + better, x.place(asked), asked == better ? 1 : 2);
                }
            }
        });
        Tally.test("Promise 28: KIND: it is no CARD of its own kind", () -> {
            Book x = fourCards();
            due("a CARD", x.place(0), 1);
            due("a front SHORT", x.place(1), KIND);
            due("a back SHORT", x.place(2), KIND);
            due("an AWAY", x.place(3), KIND);
        });
    }

    private static void told() {
        Tally.test("Promise 29: FULL: 20 wait", () -> {
            Book x = new Book();
            for (int n = 1; n <= 20; n++) {
                due("the " + n + "th", x.tell(n % 2 == 0 ? LEAST : MOST), n);
            }
            due("a 21st", x.tell(0), FULL);
            due("20 wait", x.count(5), 20);
            x.check(0, 0);
            due("none do then", x.count(5), 0);
            due("the first again", x.tell(0), 1);
        });
        Tally.test("Promise 30: 0 if they are just these; 99 if more were told", () -> {
            for (int more = 0; more <= 11; more++) {
                Book x = nineNumbers();
                x.tellAll(Book.times(more, 100));
                due(more + " more", x.check(0, 20), more == 0 ? 0 : 99);
                due("none wait then", x.count(5), 0);
            }
        });
        Tally.test("Promise 30: 1 and i for the first that is another one", () -> {
            for (int i = 0; i < 9; i++) {
                for (int wrong : new int[] {LEAST, -1, 10, 99, 101, MOST}) {
                    Book x = new Book().aways(0, 0, Book.times(20, 100));
                    for (int j = 0; j < 9; j++) {
                        x.tell(j == i ? wrong : j == 8 ? 100 : j);
                    }
                    x.tellAll(7, 7);
                    due("the " + i + "th", x.check(0, 20), 1 + i);
                }
            }
            Book x = new Book().aways(0, 0, Book.times(20, 100)).tellAll(0, 2, 1);
            due("the first of two", x.check(0, 20), 2);
        });
        Tally.test("Promise 30: 1 and i for the first that is missing", () -> {
            for (int n = 0; n < 9; n++) {
                Book x = new Book().aways(0, 0, Book.times(20, 100));
                for (int j = 0; j < n; j++) {
                    x.tell(j);
                }
                due(n + " told", x.check(0, 20), 1 + n);
            }
        });
        Tally.test("Promise 30: NUMBER alone where there is no RAW", () -> {
            Book x = new Book().aways(0, 0, 100, 100);
            due("nothing told", x.check(0, 2), 1);
            due("540", x.tellAll(540).check(0, 2), 0);
            due("539", x.tellAll(539).check(0, 2), 1);
            due("a card ahead of it", x.tellAll(0, 540).check(0, 2), 1);
            due("540 twice", x.tellAll(540, 540).check(0, 2), 99);
        });
        Tally.test("Promise 30: BEYOND: as of number() (they are gone, too)", () -> {
            for (int bad : new int[] {LEAST, -1, 12, MOST}) {
                Book x = nineNumbers();
                due("player " + bad, x.check(bad, 20), BEYOND);
                due("gone", x.count(5), 0);
                due("nothing told then", x.check(0, 20), 1);
            }
            for (int bad : new int[] {LEAST, -1, 10000, MOST}) {
                Book x = nineNumbers();
                due("day " + bad, x.check(0, bad), BEYOND);
                due("gone", x.count(5), 0);
                due("from the first again", x.tell(0), 1);
            }
        });
        Tally.test("Promise 30: with a cap, NUMBER and not RAW", () -> {
            Book x = new Book().aways(0, 0, Book.times(20, 100)).awaysOn(0, 30, Book.times(20, 300));
            due("RAW", x.tellAll(20, 21, 22, 23, 24, 25, 26, 27, 300).check(0, 31), 9);
            due("NUMBER", x.tellAll(20, 21, 22, 23, 24, 25, 26, 27, 150).check(0, 31), 0);
        });
    }

    private static Book nineNumbers() {
        return new Book().aways(0, 0, Book.times(20, 100)).tellAll(0, 1, 2, 3, 4, 5, 6, 7, 100);
    }

    private static void countsAndUndo() {
        Tally.test("Promise 31: none and the most of each", () -> {
            Book x = cards(60);
            holesWait(x, 18).tellAll(Book.times(20, 0));
            int[] want = {60, 0, 60, 0, 18, 20};
            for (int what = 0; what < 6; what++) {
                due("count " + what, x.count(what), want[what]);
            }
            for (int card = 0; card < 60; card++) {
                x.strike(card, true);
            }
            due("VOID", x.count(1), 60);
            due("with a MARK", x.count(2), 0);
            due("cards", x.count(0), 60);
        });
        Tally.test("Promise 31: SHORTS that wait: 60 of them, then a pair less", () -> {
            Book x = new Book();
            for (int n = 0; n < 60; n++) {
                x.putNine(n % 12, n / 12 * 61, 4);
            }
            due("all wait", x.count(3), 60);
            due("none has a MARK", x.count(2), 0);
            x.undo();
            x.putNine(11, 243, 4);
            due("a pair doesn't", x.count(3), 58);
            due("one has a MARK", x.count(2), 1);
            x.strike(59, true);
            due("the other waits again", x.count(3), 59);
        });
        Tally.test("Promise 32: how many there are, from 60 to none; NONE: there is none", () -> {
            Book x = fullBook();
            x.tellAll(5, 5);
            holesWait(x, 3);
            for (int left = 59; left >= 0; left--) {
                due("undo", x.undo(), left);
            }
            due("none", x.undo(), NONE);
            due("none once more", x.undo(), NONE);
            int[] want = {0, 0, 0, 0, 3, 2};
            for (int what = 0; what < 6; what++) {
                due("count " + what, x.count(what), want[what]);
            }
            for (int player = 0; player < 12; player++) {
                due("LAST of " + player, x.last(player, 9999), 0);
            }
            due("from card 0 again", x.away(4, 0, 9), 0);
        });
        Tally.test("Promise 32: all is as before the card", () -> {
            Book x = new Book().aways(0, 0, Book.times(20, 100));
            x.putNine(0, 30, 4);
            x.putNine(0, 25, 4);
            due("LAST", x.last(0, 40), 20);
            due("joined", x.mark(20), 0);
            due("NUMBER: (0 + 7 * 100) by 8", x.number(0, 40), 88);
            x.undo();
            due("waits", x.joined(20), NONE);
            due("NUMBER", x.number(0, 40), 100);
            x.undo();
            x.undo();
            due("19", x.last(0, 40), 19);
            due("no LOW", x.raw(0, 40, true), NONE);
        });
        Tally.test("Promise 32: the latest card wherever it is in ORDER: first, between, last", () -> {
            for (int day : new int[] {0, 15, 30}) {
                Book x = new Book().aways(0, 10, 100, 100).aways(0, 20, 100, 100);
                x.away(0, day, -100);
                due("RAW of five", x.raw(0, 40, false), -100);
                due("undo", x.undo(), 4);
                due("RAW of four", x.raw(0, 40, false), 90);
                due("LAST", x.last(0, 40), 4);
                due("LAST of day 15", x.last(0, 15), 2);
            }
        });
        Tally.test("Promise 33: how many acts have answered a finding", () -> {
            Book x = fullBook();
            x.tellAll(Book.times(21, 0));
            x.strike(0, true);
            x.mark(0);
            x.half(0);
            x.ask(3, 4);
            x.holes(0, -1);
            x.about(4, 0);
            x.away(0, 0, 0);
            for (int finding = BEYOND; finding >= VOID; finding--) {
                due("found " + finding, x.found(finding), x.answered(finding));
            }
            due("BEYOND", x.found(BEYOND), 1);
            due("FULL", x.found(FULL), 2);
        });
        Tally.test("Promise 33: BEYOND: another number (counted, too)", () -> {
            Book x = new Book();
            int[] others = {LEAST, -100007, -100000, -99999, -1, 0, 1, 6, 100001, 100006, MOST};
            for (int i = 0; i < others.length; i++) {
                due("found " + others[i], x.found(others[i]), BEYOND);
                due("counted", x.found(BEYOND), i + 1);
            }
            for (int finding = NONE; finding >= VOID; finding--) {
                due("the others", x.found(finding), 0);
            }
        });
    }

    public static void main(String[] args) {
        courseArguments();
        cardArguments();
        playerAndDayArguments();
        cardNumbers();
        courses();
        rights();
        holesThatWait();
        cardsPutDown();
        cardsAsked();
        numbers();
        forms();
        matches();
        places();
        told();
        countsAndUndo();
        Tally.end();
    }
}
