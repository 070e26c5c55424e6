/** "Terms" of the document, sentence by sentence: both sides of each boundary that it names. */
public final class TermsEdgeTests {
    private static final int BEYOND = Book.BEYOND, NONE = Book.NONE, VOID = Book.VOID;

    private static void due(String call, int got, int want) {
        Tally.due(call, got, want);
    }

    /** A book in which a player's NUMBER is this one from day 3 on. */
    private static Book withNumber(int player, int number) {
        return new Book().aways(player, 0, Book.times(3, number + 20));
    }

    private static int markOf(int rating, int slope, int shots) {
        Book x = new Book();
        x.course(0, rating, slope);
        return x.mark(x.putCard(0, 0, 0, shots));
    }

    private static int halfOf(int rating, int slope, int shots) {
        Book x = new Book();
        x.course(0, rating, slope);
        return x.half(x.putNine(0, 0, shots));
    }

    // ---- to round

    private static void rounding() {
        Tally.test("TO ROUND: a MARK of just a half, to either side of it, above and below 0", () -> {
            due("113 * 36 by 72 = 56.5", markOf(684, 72, 4), 57);
            due("113 * -36 by 72 = -56.5", markOf(756, 72, 4), -56);
            due("113 * 24 by 155 = 17.497", markOf(696, 155, 4), 17);
            due("113 * 131 by 155 = 95.503", markOf(589, 155, 4), 96);
            due("113 * -24 by 155 = -17.497", markOf(744, 155, 4), -17);
            due("113 * -131 by 155 = -95.503", markOf(671, 155, 3), -96);
            due("0", markOf(720, 155, 4), 0);
        });
        Tally.test("TO ROUND: a HALF of just a half, to either side of it, above and below 0", () -> {
            due("113 * 36 by 72 = 56.5", halfOf(648, 72, 4), 57);
            due("113 * -36 by 72 = -56.5", halfOf(792, 72, 4), -56);
            due("113 * 24 by 155 = 17.497", halfOf(672, 155, 4), 17);
            due("113 * 131 by 155 = 95.503", halfOf(638, 155, 5), 96);
            due("113 * -24 by 155 = -17.497", halfOf(768, 155, 4), -17);
            due("113 * -131 by 155 = -95.503", halfOf(622, 155, 2), -96);
        });
        Tally.test("TO ROUND: G of just a half, to either side of it, above and below 0", () -> {
            int[][] numberAndG = {{45, 5}, {44, 4}, {46, 5}, {-45, -4}, {-44, -4}, {-46, -5}, {4, 0}, {5, 1}, {-5, 0}, {-6, -1}};
            for (int[] pair : numberAndG) {
                due("N " + pair[0], withNumber(0, pair[0]).given(0, 0, 3), pair[1]);
            }
            int[][] onSlope55 = {{113, 6}, {112, 5}, {-113, -5}, {-114, -6}};
            for (int[] pair : onSlope55) {
                Book x = withNumber(0, pair[0]);
                x.course(1, 720, 55);
                due("N " + pair[0] + " on SLOPE 55", x.given(0, 1, 3), pair[1]);
            }
        });
        Tally.test("TO ROUND: RAW of k MARKS, to either side of a half, above and below 0", () -> {
            int[][] countMakingSumRaw = {
                {7, 2, 3, 2}, {7, 2, -3, -1}, {9, 3, 4, 1}, {9, 3, 5, 2}, {9, 3, -4, -1}, {9, 3, -5, -2},
                {12, 4, 1, 0}, {12, 4, 2, 1}, {12, 4, -2, 0}, {12, 4, -3, -1}, {20, 8, 3, 0}, {20, 8, 4, 1},
                {20, 8, -4, 0}, {20, 8, -5, -1}, {6, 2, 3, -8}, {6, 2, -3, -11}};
            for (int[] row : countMakingSumRaw) {
                int[] marks = Book.times(row[0], 50);
                for (int i = 0; i < row[1]; i++) {
                    marks[i] = 0;
                }
                marks[0] = row[2];
                due(row[2] + " by " + row[1], new Book().aways(0, 0, marks).raw(0, row[0], false), row[3]);
            }
        });
    }

    // ---- 1: courses and cards

    private static void coursesAndCards() {
        Tally.test("RATING 500 .. 800 and SLOPE 55 .. 155: MARKS at their ends", () -> {
            due("500, 55", markOf(500, 55, 4), 452);
            due("500, 155", markOf(500, 155, 4), 160);
            due("800, 55", markOf(800, 55, 4), -164);
            due("800, 155", markOf(800, 155, 4), -58);
        });
        Tally.test("a RANK by hardness (1 .. 18, no two alike)", () -> {
            for (int h = 0; h < 18; h++) {
                Book x = new Book();
                for (int rank = 1; rank <= 18; rank++) {
                    x.hole(2, h, 4, rank);
                    int seen = 0;
                    for (int other = 0; other < 18; other++) {
                        seen |= 1 << x.about(2, 200 + other);
                    }
                    due("all ranks, with " + rank + " at " + h, seen, (1 << 19) - 2);
                    due("rank", x.about(2, 200 + h), rank);
                }
            }
        });
        Tally.test("PLAYERS are 0 .. 11: each has its own cards", () -> {
            Book x = new Book();
            for (int p = 0; p < 12; p++) {
                x.aways(p, 0, Book.times(3, 20 + p));
            }
            for (int p = 0; p < 12; p++) {
                due("player " + p, x.number(p, 3), p);
                due("player " + p, x.last(p, 9999), 3);
            }
        });
        Tally.test("DAYS 0 .. 9999: the first and the last", () -> {
            Book x = new Book().awaysOn(0, 0, 50, 60, 70).awaysOn(1, 9998, 50, 60, 70).awaysOn(2, 9999, 50, 60, 70);
            due("none is earlier than day 0", x.last(0, 0), 0);
            due("day 1", x.number(0, 1), 30);
            due("day 9999", x.number(0, 9999), 30);
            due("day 9998", x.number(1, 9998), 540);
            due("day 9999", x.number(1, 9999), 30);
            due("cards of day 9999 make nothing", x.last(2, 9999), 0);
        });
        Tally.test("CARDS 0, 1, .. (at most 60)", () -> {
            Book x = new Book();
            for (int n = 0; n < 60; n++) {
                due("its number", x.away(n % 12, n, n), n);
            }
            due("a 61st", x.away(0, 0, 0), Book.FULL);
            due("the first", x.mark(0), 0);
            due("the last", x.mark(59), 59);
            due("there are", x.count(0), 60);
        });
        Tally.test("a told MARK (-200 .. 900 tenths)", () -> {
            Book x = new Book();
            due("-201", x.away(0, 0, -201), BEYOND);
            due("-200", x.mark(x.away(0, 0, -200)), -200);
            due("900", x.mark(x.away(0, 0, 900)), 900);
            due("901", x.away(0, 0, 901), BEYOND);
        });
        Tally.test("STROKES 1 .. 15, a PICK-UP (-1), or wasn't played (0)", () -> {
            Book x = new Book();
            x.row("123456789abcdef0p1").card(0, 0, 0);
            for (int h = 0; h < 15; h++) {
                due("hole " + h, x.at(0, h), h + 1);
            }
            due("not played", x.at(0, 15), 0);
            due("PICK-UP", x.at(0, 16), -1);
            due("strokes", x.at(0, 17), 1);
        });
        Tally.test("nine holes, the first nine (front) or the last", () -> {
            Book x = new Book();
            x.row("123456789").nine(0, 0, 0, true);
            x.row("987654321").nine(1, 0, 0, false);
            due("hole 0 of the front", x.at(0, 0), 1);
            due("hole 8 of the front", x.at(0, 8), 9);
            due("hole 9 of the front", x.at(0, 9), BEYOND);
            due("hole 8 of the back", x.at(1, 8), BEYOND);
            due("hole 9 of the back", x.at(1, 9), 9);
            due("hole 17 of the back", x.at(1, 17), 1);
        });
    }

    private static void voidAndOrder() {
        Tally.test("A card that is VOID has no MARK", () -> {
            Book x = new Book().aways(0, 0, 20, 30, 40);
            x.putCard(1, 0, 0, 4);
            x.strike(3, true);
            due("a CARD's", x.mark(3), VOID);
            due("those with a MARK", x.count(2), 3);
            due("LAST", x.last(1, 1), 0);
            x.strike(0, true);
            due("an AWAY's", x.mark(0), VOID);
            due("LAST", x.last(0, 3), 2);
            due("NUMBER", x.number(0, 3), 540);
            x.strike(0, false);
            due("not VOID any more", x.number(0, 3), 0);
        });
        Tally.test("A card that is VOID has no HALF, and doesn't wait", () -> {
            Book x = new Book();
            x.putNine(0, 0, 4);
            due("it waits", x.count(3), 1);
            x.strike(0, true);
            due("HALF", x.half(0), VOID);
            due("none waits", x.count(3), 0);
            x.putNine(0, 1, 4);
            due("a later one finds none", x.joined(1), NONE);
            x.strike(0, false);
            due("and finds it again", x.joined(1), 0);
            x.strike(1, true);
            due("the earlier one waits alone", x.joined(0), NONE);
            due("one waits", x.count(3), 1);
        });
        Tally.test("ORDER of cards: by day, then by number", () -> {
            Book x = new Book();
            x.putNine(0, 5, 4);
            x.putNine(0, 5, 5);
            due("of one day the later number has the MARK", x.mark(1), 90);
            due("and the lesser none", x.mark(0), NONE);
            x.putNine(0, 4, 6);
            due("an earlier day is ahead of a lesser number", x.joined(2), 0);
            due("and the later day has the MARK", x.mark(0), 180);
            due("the third waits", x.joined(1), NONE);
        });
    }

    // ---- 2: strokes given, ADJUSTED, MARK, HALF

    private static void strokesGiven() {
        Tally.test("one more if r isn't above what is left of G by that (0 .. 17)", () -> {
            Book x = new Book();
            for (int left = 0; left < 18; left++) {
                if (left > 0) {
                    due("rank " + left + " of " + left, x.strokes(0, 36 + left, left - 1), 3);
                    due("rank " + left + " below 0", x.strokes(0, left - 36, left - 1), -1);
                }
                due("rank " + (left + 1) + " of " + left, x.strokes(0, 36 + left, left), 2);
                due("rank " + (left + 1) + " below 0", x.strokes(0, left - 36, left), -2);
            }
        });
        Tally.test("G by 18, cut down (the greatest whole number not above)", () -> {
            Book x = new Book();
            int[][] gAtRank18 = {{-37, -3}, {-36, -2}, {-19, -2}, {-18, -1}, {-1, -1}, {0, 0}, {17, 0}, {18, 1}, {35, 1}, {36, 2}};
            for (int[] pair : gAtRank18) {
                due("rank 18 of " + pair[0], x.strokes(3, pair[0], 17), pair[1]);
            }
        });
        Tally.test("N times SLOPE, and 113 times (RATING less 10 P), by 1130: at the ends", () -> {
            Book x = withNumber(1, -220);
            int[][] ratingSlopeG = {{500, 55, 4}, {500, 155, 52}, {800, 55, 34}, {800, 155, 82}, {720, 113, 54}};
            int[] ofLeast = {-33, -52, -3, -22, -22};
            for (int i = 0; i < ofLeast.length; i++) {
                int[] row = ratingSlopeG[i];
                x.course(0, row[0], row[1]);
                due("540 on " + row[0] + ", " + row[1], x.given(0, 0, 3), row[2]);
                due("-220 on " + row[0] + ", " + row[1], x.given(1, 0, 3), ofLeast[i]);
            }
        });
        Tally.test("PAR sum P of the course: 54 and 90", () -> {
            for (int par = 3; par <= 5; par += 2) {
                Book x = new Book();
                for (int h = 0; h < 18; h++) {
                    x.hole(0, h, par, h + 1);
                }
                due("P", x.about(0, 2), 18 * par);
                due("of the first nine", x.about(0, 3), 9 * par);
                due("G", x.given(0, 0, 0), par == 3 ? 72 : 36);
            }
        });
    }

    private static void adjusted() {
        Tally.test("ADJUSTED: STROKES, but at most its PAR, 2 and what is given there", () -> {
            Book x = withNumber(0, 0);
            x.hole(0, 0, 3, 1);
            x.hole(0, 3, 5, 4);
            x.row("456 678 567 f 11111111").card(0, 0, 3);
            int[] want = {4, 5, 5, 6, 7, 6, 5, 6, 6, 6, 1};
            x.hole(0, 1, 3, 2);
            x.hole(0, 2, 3, 3);
            x.hole(0, 4, 5, 5);
            x.hole(0, 15, 5, 16);
            // G stays 0: the PARS still sum up to 72
            due("P", x.about(0, 2), 72);
            for (int h = 0; h < want.length; h++) {
                due("hole " + h, x.adjusted(3, h), want[h]);
            }
        });
        Tally.test("ADJUSTED: what is given there, to either side of the rank", () -> {
            Book more = withNumber(0, 10);
            more.putCard(0, 0, 3, 15);
            due("rank 1 of G 1", more.adjusted(3, 0), 7);
            due("rank 2 of G 1", more.adjusted(3, 1), 6);
            Book less = withNumber(0, -10);
            less.putCard(0, 0, 3, 15);
            due("rank 17 of G -1", less.adjusted(3, 16), 6);
            due("rank 18 of G -1", less.adjusted(3, 17), 5);
        });
        Tally.test("ADJUSTED: of a PICK-UP just that many; of one not played its PAR and what is given", () -> {
            Book x = withNumber(0, 10);
            x.row("pp00 4444444444 4444").card(0, 0, 3);
            due("PICK-UP, rank 1", x.adjusted(3, 0), 7);
            due("PICK-UP, rank 2", x.adjusted(3, 1), 6);
            due("not played, rank 3", x.adjusted(3, 2), 4);
            x.hole(0, 2, 4, 1);
            due("not played, rank 1", x.adjusted(3, 2), 5);
            due("PICK-UP, rank 3", x.adjusted(3, 0), 6);
        });
        Tally.test("ADJUSTED: at most that also where what is given is far below 0", () -> {
            Book x = new Book();
            x.course(1, 800, 55);
            x.course(2, 720, 155);
            for (int day = 0; day < 3; day++) {
                x.putCard(0, 1, day, 1);
            }
            due("113 * (180 - 800) by 55", x.mark(0), -1274);
            due("N", x.number(0, 3), -1294);
            due("G", x.given(0, 2, 3), -177);
            x.row("1111 p0p0 1111 1111 11").card(0, 2, 3);
            due("rank 3: 4 + 2 - 9", x.adjusted(3, 2), -3);
            due("rank 4: 4 + 2 - 10", x.adjusted(3, 3), -4);
            due("PICK-UP", x.adjusted(3, 4), -4);
            due("not played", x.adjusted(3, 5), -6);
            // 3 holes of -3, 13 of -4, 2 of -6: -73
            due("113 * (-730 - 720) by 155", x.mark(3), -1057);
        });
    }

    private static void marksAndHalves() {
        Tally.test("RIGHT of a course on a day: -1 .. 3; MARK: less 10 RIGHT; HALF: less 5 RIGHT", () -> {
            Book x = new Book();
            x.putCard(0, 1, 5, 4);
            x.same(9, 4).nine(1, 1, 5, true);
            for (int right = -1; right <= 3; right++) {
                x.right(1, 5, right);
                due("MARK at RIGHT " + right, x.mark(0), -10 * right);
                due("HALF at RIGHT " + right, x.half(1), -5 * right);
            }
            x.right(1, 5, 0);
            x.right(1, 4, 3);
            x.right(1, 6, 3);
            x.right(0, 5, 3);
            x.right(2, 5, 3);
            due("MARK by other days and courses", x.mark(0), 0);
            due("HALF by other days and courses", x.half(1), 0);
        });
        Tally.test("MARK of a CARD that has at least 14 holes played (PICK-UPS, too)", () -> {
            String[] rows = {"0".repeat(18), "4".repeat(13) + "00000", "0000" + "4".repeat(14), "p".repeat(13) + "00000",
                "p".repeat(14) + "0000", "4444444 0000 ppppppp", "4444444 00000 pppppp", "p".repeat(18)};
            int[] want = {NONE, NONE, 56 + 28 - 72, NONE, 126 + 28 - 72, 28 + 28 + 63 - 72, NONE, 162 - 72};
            for (int i = 0; i < rows.length; i++) {
                Book x = new Book();
                x.row(rows[i]).card(0, 0, 0);
                due(rows[i], x.mark(0), want[i] == NONE ? NONE : 10 * want[i]);
                due("LAST", x.last(0, 1), want[i] == NONE ? 0 : 1);
            }
        });
        Tally.test("HALF of a SHORT that has at least 7", () -> {
            String[] rows = {"0".repeat(9), "444444000", "004444444", "pppppp000", "ppppppp00", "444 00 pppp", "444 000 ppp", "p".repeat(9)};
            int[] want = {NONE, NONE, 28 + 14 - 36, NONE, 63 + 14 - 36, 12 + 14 + 36 - 36, NONE, 81 - 36};
            for (int i = 0; i < rows.length; i++) {
                Book x = new Book();
                x.row(rows[i]).nine(0, 0, 0, i % 2 == 0);
                due(rows[i], x.half(0), want[i] == NONE ? NONE : 10 * want[i]);
                due("waits", x.count(3), want[i] == NONE ? 0 : 1);
            }
        });
        Tally.test("HALF: less half the RATING (cut)", () -> {
            int[][] ratingAndHalf = {{500, 110}, {501, 110}, {502, 109}, {719, 1}, {720, 0}, {721, 0}, {722, -1}, {799, -39}, {800, -40}};
            for (int[] pair : ratingAndHalf) {
                due("RATING " + pair[0], halfOf(pair[0], 113, 4), pair[1]);
            }
        });
        Tally.test("HALF: the sum of ADJUSTED of its nine, by what is given at these", () -> {
            Book x = withNumber(0, 100);
            x.same(9, 15).nine(0, 0, 3, true);
            x.same(9, 15).nine(0, 0, 4, false);
            due("ranks 1 .. 9 of G 10: 9 * 7", x.half(3), 630 - 360);
            due("ranks 10 .. 18: 7 and 8 * 6", x.half(4), 550 - 360);
        });
    }

    // ---- 2: joined

    private static void joining() {
        Tally.test("one that waits, of not more than 60 days ahead", () -> {
            for (int[] firstAndApart : new int[][] {{0, 60}, {0, 61}, {9939, 60}, {9938, 61}, {100, 0}, {100, 1}}) {
                int apart = firstAndApart[1];
                Book x = new Book();
                x.putNine(0, firstAndApart[0], 5);
                x.putNine(0, firstAndApart[0] + apart, 6);
                due(apart + " days", x.joined(1), apart > 60 ? NONE : 0);
                due(apart + " days, the earlier one", x.joined(0), apart > 60 ? NONE : 1);
                due(apart + " days, MARK", x.mark(1), apart > 60 ? NONE : 270);
                due(apart + " days, waiting", x.count(3), apart > 60 ? 2 : 0);
            }
        });
        Tally.test("is JOINED with the one of these that waited longest", () -> {
            Book x = new Book();
            x.putNine(0, 100, 4);
            x.putNine(0, 161, 5);
            x.putNine(0, 222, 6);
            due("three wait", x.count(3), 3);
            x.putNine(0, 221, 7);
            due("of 100 and 161 just 161 is of these", x.joined(3), 1);
            x.undo();
            x.putNine(0, 160, 7);
            due("100 is 60 days ahead", x.joined(3), 0);
            x.strike(0, true);
            due("161 finds 160", x.joined(1), 3);
            due("222 is alone", x.joined(2), NONE);
        });
        Tally.test("one that waits longer than 60 days still waits", () -> {
            Book x = new Book();
            x.putNine(0, 0, 4);
            x.putNine(0, 9999, 4);
            due("both wait", x.count(3), 2);
            x.putNine(0, 9939, 5);
            due("9999 is joined with 9939", x.joined(1), 2);
            due("day 0 waits", x.count(3), 1);
            due("alone", x.joined(0), NONE);
        });
        Tally.test("neither waits any more", () -> {
            Book x = new Book();
            for (int i = 0; i < 5; i++) {
                x.putNine(0, 10 + i, 4 + i);
            }
            int[] want = {1, 0, 3, 2, NONE};
            for (int i = 0; i < 5; i++) {
                due("card " + i, x.joined(i), want[i]);
            }
            due("one waits", x.count(3), 1);
        });
        Tally.test("the later one's MARK is the sum of both HALVES (Others have none)", () -> {
            Book x = new Book();
            x.course(1, 700, 130);
            x.same(9, 5).nine(0, 0, 0, false);
            x.same(9, 5).nine(0, 1, 1, false);
            due("HALF", x.half(0), 90);
            due("HALF: 113 * 100 by 130", x.half(1), 87);
            due("MARK", x.mark(1), 177);
            due("the earlier one's", x.mark(0), NONE);
            due("with a MARK", x.count(2), 1);
            due("LAST", x.last(0, 2), 1);
            due("LAST of the later one's day", x.last(0, 1), 0);
        });
        Tally.test("A SHORT that has a HALF waits: one without neither waits nor is joined", () -> {
            Book x = new Book();
            x.row("444444000").nine(0, 0, 0, true);
            x.putNine(0, 1, 4);
            x.row("000444444").nine(0, 0, 2, true);
            x.putNine(0, 3, 5);
            due("6 played", x.joined(0), NONE);
            due("6 played", x.joined(2), NONE);
            due("the others", x.joined(3), 1);
            due("none waits", x.count(3), 0);
            x.putNine(1, 3, 5);
            due("another player's", x.joined(4), NONE);
        });
    }

    // ---- 3: LAST, RAW, LOW, NUMBER

    private static void last() {
        Tally.test("LAST: the latest 20 (fewer, if there are not so many)", () -> {
            for (int n : new int[] {0, 1, 19, 20, 21, 60}) {
                due(n + " cards", new Book().aways(0, 0, Book.times(n, 100)).last(0, 9999), Math.min(n, 20));
            }
            // the 21st from behind is the least: with 20 it would make RAW
            Book x = new Book().aways(0, 10, Book.times(21, 100));
            x.away(0, 9, -200);
            due("21 are later", x.raw(0, 40, false), 100);
            x.strike(20, true);
            due("20 are later", x.raw(0, 40, false), 100);
            x.strike(19, true);
            due("19 are later: (700 - 200) by 8 = 62.5", x.raw(0, 40, false), 63);
            due("it is the least", x.makes(0, 40, 0), 21);
        });
        Tally.test("LAST: of its cards of earlier days", () -> {
            Book x = new Book().awaysOn(0, 50, 20, 30, 40);
            due("the day ahead", x.last(0, 49), 0);
            due("the same day", x.last(0, 50), 0);
            due("the day behind", x.last(0, 51), 3);
            due("NUMBER of the same day", x.number(0, 50), 540);
            due("NUMBER of the day behind", x.number(0, 51), 0);
            x.putCard(0, 0, 50, 15);
            due("a card of the same day has 54 given", x.mark(3), 900);
            x.putCard(0, 0, 51, 15);
            // LAST are four then, RAW 20 - 10, G 1
            due("one of the day behind has 1", x.mark(4), 370);
        });
        Tally.test("LAST: in ORDER, of one day by number", () -> {
            Book x = new Book().awaysOn(0, 5, Book.times(21, 100));
            x.undo();
            x.away(0, 5, -200);
            due("the last number is within", x.makes(0, 6, 0), 20);
            Book y = new Book().awaysOn(0, 5, -200).awaysOn(0, 5, Book.times(20, 100));
            due("the first number isn't", y.makes(0, 6, 0), 1);
        });
    }

    private static void raw() {
        Tally.test("RAW, if they are m, 3 at least: the table of m, k and t", () -> {
            int[] k = {0, 0, 0, 1, 1, 1, 2, 2, 2, 3, 3, 3, 4, 4, 4, 5, 5, 6, 6, 7, 8, 8};
            int[] t = {0, 0, 0, 20, 10, 0, 10, 0, 0, 0, 0, 0, 0, 0, 0, 0, 0, 0, 0, 0, 0, 0};
            for (int m = 0; m < k.length; m++) {
                Book x = new Book().aways(0, 0, Book.times(m, 100));
                due("RAW of " + m, x.raw(0, m, false), m < 3 ? NONE : 100 - t[m]);
                if (m > 0) {
                    due("the last that makes it, of " + m, x.makes(0, m, k[m] - 1), m < 3 ? NONE : m == 21 ? 8 : k[m] - 1);
                }
                due("one more, of " + m, x.makes(0, m, k[m]), NONE);
            }
        });
        Tally.test("the k with the least MARKS (of like ones those ahead in ORDER)", () -> {
            Book x = new Book().aways(0, 10, 50, 40, 40, 40, 60, 60, 60);
            due("two of three like ones", x.makes(0, 17, 0), 1);
            due("two of three like ones", x.makes(0, 17, 1), 2);
            x.away(0, 9, 40);
            due("one of an earlier day", x.makes(0, 17, 0), 7);
            due("then", x.makes(0, 17, 1), 1);
            x.strike(1, true);
            x.strike(7, true);
            due("without them", x.makes(0, 17, 0), 2);
            x.strike(7, false);
            x.away(0, 9, 39);
            due("one less than the like ones", x.makes(0, 17, 0), 8);
            due("then the first of these", x.makes(0, 17, 1), 7);
        });
        Tally.test("RAW: the sum by k, ROUNDED, less t; at most 540", () -> {
            int[][] countMarkRaw = {
                {3, 559, 539}, {3, 560, 540}, {3, 561, 540}, {4, 549, 539}, {4, 550, 540}, {4, 551, 540}, {5, 539, 539},
                {5, 540, 540}, {5, 541, 540}, {6, 550, 540}, {6, 551, 540}, {20, 540, 540}, {20, 541, 540}, {20, 900, 540},
                {3, -200, -220}, {20, -200, -200}};
            for (int[] row : countMarkRaw) {
                Book x = new Book().aways(0, 0, Book.times(row[0], row[1]));
                due(row[0] + " of " + row[1], x.raw(0, row[0], false), row[2]);
                due(row[0] + " of " + row[1], x.number(0, row[0]), row[2]);
            }
        });
    }

    private static void low() {
        Tally.test("LOW: days from 364 ahead of it to it", () -> {
            Book x = new Book().aways(0, 0, Book.times(20, 100)).awaysOn(0, 300, Book.times(20, 300));
            due("day 20 is itself one", x.raw(0, 20, true), 100);
            due("day 19 isn't", x.raw(0, 19, true), NONE);
            due("364 behind day 20", x.raw(0, 384, true), 100);
            due("NUMBER then", x.number(0, 384), 150);
            due("365 behind day 20", x.raw(0, 385, true), 300);
            due("NUMBER then", x.number(0, 385), 300);
            due("364 behind day 301", x.raw(0, 665, true), 300);
            due("365 behind day 301", x.raw(0, 666, true), NONE);
            due("RAW stays", x.raw(0, 666, false), 300);
        });
        Tally.test("LOW: the first day that can have one, day 1", () -> {
            Book x = new Book().awaysOn(0, 0, Book.times(20, 100));
            due("day 0", x.raw(0, 0, true), NONE);
            due("day 1", x.raw(0, 1, true), 100);
            due("day 365", x.raw(0, 365, true), 100);
            due("day 366", x.raw(0, 366, true), NONE);
        });
        Tally.test("LOW: to the day itself, which may be the least", () -> {
            Book x = new Book().aways(0, 9000, Book.times(20, 300)).awaysOn(0, 9998, Book.times(8, 100));
            due("the day of the cards", x.raw(0, 9998, true), NONE);
            due("the day behind them", x.raw(0, 9999, true), 100);
        });
        Tally.test("LOW: days that are the day behind one of the player's cards with a MARK", () -> {
            Book x = new Book().aways(0, 0, Book.times(20, 100));
            x.putNine(0, 400, 4);
            x.row("4444444444444 00000").card(0, 0, 400);
            x.away(1, 400, 100);
            x.away(0, 400, 100);
            x.strike(23, true);
            due("a SHORT alone, 13 holes, another's, a VOID one", x.raw(0, 401, true), NONE);
            x.strike(23, false);
            due("one with a MARK", x.raw(0, 401, true), 100);
            due("but for the day behind it alone", x.raw(0, 400, true), NONE);
        });
        Tally.test("LOW: days for which LAST has 20", () -> {
            Book x = new Book().aways(0, 0, Book.times(19, 100));
            due("19", x.raw(0, 100, true), NONE);
            x.away(0, 50, 300);
            due("20", x.raw(0, 100, true), 100);
            x.strike(0, true);
            due("19 again", x.raw(0, 100, true), NONE);
            x.away(0, 60, 300);
            due("20 again", x.raw(0, 61, true), 100);
            due("not yet", x.raw(0, 60, true), NONE);
        });
        Tally.test("LOW: the least RAW of the days, not of a part of a day", () -> {
            Book x = new Book().awaysOn(0, 5, Book.times(20, 100)).awaysOn(0, 5, Book.times(20, 300));
            due("LAST are the 20 of 300", x.raw(0, 6, true), 300);
            x.away(0, 7, 200);
            due("the least of day 6 and 8: (200 + 7 * 300) by 8", x.raw(0, 8, true), 288);
            x.away(0, 9, 500);
            due("the least of three", x.raw(0, 10, true), 288);
        });
    }

    private static void number() {
        Tally.test("NUMBER: 540 without RAW", () -> {
            Book x = new Book().aways(0, 0, -200, -200, -200);
            due("no card", x.number(1, 9999), 540);
            due("two", x.number(0, 2), 540);
            due("three", x.number(0, 3), -220);
        });
        Tally.test("NUMBER: RAW, if there is no LOW", () -> {
            Book x = new Book().aways(0, 0, Book.times(5, 100)).awaysOn(0, 100, Book.times(14, 500));
            due("19: 5 of 100 and 2 of 500 by 7", x.number(0, 101), 214);
            due("no LOW", x.raw(0, 101, true), NONE);
        });
        Tally.test("NUMBER: above LOW and 30 half of what RAW is more (cut), but at most LOW and 50", () -> {
            int[][] moreAndHeld = {{-1, -1}, {0, 0}, {29, 29}, {30, 30}, {31, 30}, {32, 31}, {33, 31}, {34, 32}, {68, 49},
                {69, 49}, {70, 50}, {71, 50}, {72, 50}, {73, 50}, {400, 50}};
            for (int low : new int[] {100, 0, -100, -200}) {
                for (int[] pair : moreAndHeld) {
                    if (low + pair[0] < -200) {
                        continue;
                    }
                    Book x = new Book().aways(0, 0, Book.times(20, low)).awaysOn(0, 30, Book.times(20, low + pair[0]));
                    due("LOW " + low + ", RAW " + pair[0] + " more", x.number(0, 31), low + pair[1]);
                    due("RAW", x.raw(0, 31, false), low + pair[0]);
                    due("LOW", x.raw(0, 31, true), Math.min(low, low + pair[0]));
                }
            }
        });
        Tally.test("NUMBER: RAW at its most, 540, ahead of the caps", () -> {
            int[][] lowAndNumber = {{540, 540}, {511, 540}, {510, 540}, {509, 539}, {508, 539}, {507, 538}, {471, 520}, {470, 520}, {469, 519}};
            for (int[] pair : lowAndNumber) {
                Book x = new Book().aways(0, 0, Book.times(20, pair[0])).awaysOn(0, 30, Book.times(20, 900));
                due("LOW " + pair[0], x.number(0, 31), pair[1]);
            }
        });
        Tally.test("NUMBER held by a cap gives the strokes of the next card", () -> {
            Book x = new Book().aways(0, 0, Book.times(20, 100)).awaysOn(0, 30, Book.times(20, 300));
            x.putCard(0, 0, 31, 15);
            due("G of 150", x.given(0, 0, 31), 15);
            due("rank 15", x.adjusted(40, 14), 7);
            due("rank 16", x.adjusted(40, 15), 6);
        });
    }

    /** Card 3 is a CARD of 15 at each hole, card 4 a SHORT that is joined with card 5; all was asked. */
    private static Book asked() {
        Book x = withNumber(0, 0);
        x.putCard(0, 0, 3, 15);
        x.putNine(0, 4, 5);
        x.putNine(0, 5, 5);
        due("MARK of the CARD", x.mark(3), 360);
        due("MARK of the pair", x.mark(5), 180);
        due("NUMBER", x.number(0, 6), 20);
        due("POINTS", x.points(3), 0);
        return x;
    }

    private static void asFromNothing() {
        Tally.test("all is as from nothing behind course()", () -> {
            Book x = asked();
            x.course(0, 700, 113);
            // G -2 on day 3, RAW 10 and G -1 on day 4 and 5
            due("G", x.given(0, 0, 3), -2);
            due("MARK of the CARD", x.mark(3), 10 * 106 - 700);
            due("HALF", x.half(4), 450 - 350);
            due("MARK of the pair", x.mark(5), 200);
        });
        Tally.test("all is as from nothing behind hole()", () -> {
            Book x = asked();
            x.hole(0, 0, 5, 18);
            due("G", x.given(0, 0, 3), -1);
            due("ADJUSTED, PAR 5, rank 18", x.adjusted(3, 0), 6);
            due("MARK of the CARD", x.mark(3), 10 * 108 - 720);
        });
        Tally.test("all is as from nothing behind right()", () -> {
            Book x = asked();
            x.right(0, 3, 3);
            x.right(0, 5, -1);
            due("MARK of the CARD", x.mark(3), 330);
            due("MARK of the pair", x.mark(5), 185);
        });
        Tally.test("all is as from nothing behind a card that comes late", () -> {
            Book x = asked();
            x.away(0, 0, -30);
            // LAST of day 3 are four: RAW -40, G -4
            due("MARK of the CARD", x.mark(3), 10 * 104 - 720);
            due("NUMBER: six, (-30 + 20) by 2, less 10", x.number(0, 6), -15);
            x.putNine(0, 1, 4);
            due("joined with the late one", x.joined(4), 7);
            due("the other waits", x.joined(5), NONE);
        });
        Tally.test("all is as from nothing behind strike() and undo()", () -> {
            Book x = asked();
            x.strike(0, true);
            due("without RAW on day 3", x.mark(3), 900);
            due("POINTS", x.points(3), 0);
            due("net", x.score(3, true), 270 - 54);
            x.strike(0, false);
            due("MARK of the CARD", x.mark(3), 360);
            x.undo();
            due("it waits", x.joined(4), NONE);
            due("NUMBER: four", x.number(0, 6), 10);
        });
    }

    private static void calls() {
        Tally.test("An object is used for at most 512 calls: the 512th is answered, too", () -> {
            Book refused = new Book();
            for (int i = 1; i < Book.MOST_CALLS; i++) {
                refused.about(-1, 0);
            }
            due("511 findings", refused.found(BEYOND), 511);
            Book full = new Book().aways(0, 0, Book.times(60, 100));
            while (full.calls() < Book.MOST_CALLS - 1) {
                full.strike(full.calls() % 60, full.calls() % 120 < 60);
            }
            // call 480 begins to strike them out again, call 510 is the last that does
            due("those that are VOID", full.count(1), 31);
        });
    }

    public static void main(String[] args) {
        rounding();
        coursesAndCards();
        voidAndOrder();
        strokesGiven();
        adjusted();
        marksAndHalves();
        joining();
        last();
        raw();
        low();
        number();
        asFromNothing();
        calls();
        Tally.end();
    }
}
