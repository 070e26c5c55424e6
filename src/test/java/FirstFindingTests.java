/** "Each act tells its findings in the order in which they are asked": calls that could tell several. */
public final class FirstFindingTests {
    private static final int BEYOND = Book.BEYOND, NONE = Book.NONE, KIND = Book.KIND;
    private static final int SIZE = Book.SIZE, FULL = Book.FULL, VOID = Book.VOID;

    /** The cards of struckOut(). */
    private static final int CARD = 0, THIRTEEN = 1, SHORT = 2, SIX = 3, AWAY = 4, THERE_IS_NONE = 5;

    private static void first(String sentence, String call, int got, int want) {
        Tally.test(sentence, () -> Tally.due(call, got, want));
    }

    /** A CARD, one with 13 holes, a front SHORT, one with 6, an AWAY: all of them VOID. */
    private static Book struckOut() {
        Book x = new Book();
        x.putCard(0, 0, 0, 4);
        x.row("4444444444444 00000").card(0, 0, 1);
        x.putNine(0, 2, 4);
        x.row("444444 000").nine(0, 0, 3, true);
        x.away(0, 4, 10);
        for (int card = CARD; card <= AWAY; card++) {
            x.strike(card, true);
        }
        return x;
    }

    private static Book full() {
        return new Book().aways(0, 0, Book.times(60, 100));
    }

    private static Book fullOfRights() {
        Book x = new Book();
        for (int i = 0; i < 30; i++) {
            x.right(0, i, 1);
        }
        return x;
    }

    private static void courses() {
        String right = "right: BEYOND, then FULL";
        first(right, "course 4", fullOfRights().right(4, 99, 1), BEYOND);
        first(right, "course -1", fullOfRights().right(-1, 99, 1), BEYOND);
        first(right, "day 10000", fullOfRights().right(0, 10000, 1), BEYOND);
        first(right, "day -1", fullOfRights().right(0, -1, 1), BEYOND);
        first(right, "right 4", fullOfRights().right(0, 99, 4), BEYOND);
        first(right, "right -2", fullOfRights().right(0, 99, -2), BEYOND);
        first(right, "FULL", fullOfRights().right(0, 99, 1), FULL);
    }

    private static void holes() {
        String holes = "holes: SIZE, BEYOND, FULL";
        for (int waiting : new int[] {0, 17, 18}) {
            first(holes, "-1 of " + waiting, new Book().same(waiting, 4).holes(0L, -1), SIZE);
            first(holes, "the least of " + waiting, new Book().same(waiting, 4).holes(0L, Integer.MIN_VALUE), SIZE);
            first(holes, "9 of " + waiting, new Book().same(waiting, 4).holes(0L, 9), BEYOND);
            first(holes, "the most of " + waiting, new Book().same(waiting, 4).holes(0L, Integer.MAX_VALUE), BEYOND);
        }
        first(holes, "8 of 11", new Book().same(11, 4).holes(0L, 8), FULL);
    }

    private static void cards() {
        String card = "card: BEYOND, SIZE, FULL";
        int[][] beyond = {{12, 0, 0}, {-1, 0, 0}, {0, 4, 0}, {0, -1, 0}, {0, 0, 10000}, {0, 0, -1}};
        for (int[] a : beyond) {
            first(card, "BEYOND and SIZE", new Book().card(a[0], a[1], a[2]), BEYOND);
            first(card, "BEYOND and FULL", full().same(18, 4).card(a[0], a[1], a[2]), BEYOND);
            first(card, "all three", full().same(17, 4).card(a[0], a[1], a[2]), BEYOND);
        }
        first(card, "SIZE and FULL", full().same(17, 4).card(0, 0, 0), SIZE);
        first(card, "SIZE and FULL, nine wait", full().same(9, 4).card(0, 0, 0), SIZE);
        first(card, "FULL", full().same(18, 4).card(0, 0, 0), FULL);

        String nine = "nine: BEYOND, SIZE, FULL";
        for (int[] a : beyond) {
            first(nine, "BEYOND and SIZE", new Book().nine(a[0], a[1], a[2], true), BEYOND);
            first(nine, "BEYOND and FULL", full().same(9, 4).nine(a[0], a[1], a[2], false), BEYOND);
            first(nine, "all three", full().same(10, 4).nine(a[0], a[1], a[2], true), BEYOND);
        }
        first(nine, "SIZE and FULL", full().same(8, 4).nine(0, 0, 0, true), SIZE);
        first(nine, "SIZE and FULL, 18 wait", full().same(18, 4).nine(0, 0, 0, false), SIZE);
        first(nine, "FULL", full().same(9, 4).nine(0, 0, 0, true), FULL);

        String away = "away: BEYOND, FULL";
        int[][] beyondAway = {{12, 0, 0}, {-1, 0, 0}, {0, 10000, 0}, {0, -1, 0}, {0, 0, 901}, {0, 0, -201}};
        for (int[] a : beyondAway) {
            first(away, "BEYOND and FULL", full().away(a[0], a[1], a[2]), BEYOND);
        }
        first(away, "FULL", full().away(0, 0, 0), FULL);
    }

    private static void cardsAsked() {
        Book x = struckOut();
        first("ask: BEYOND: another what, of an AWAY too", "6", x.ask(AWAY, 6), BEYOND);
        first("ask: BEYOND: another what, of an AWAY too", "-1", x.ask(AWAY, -1), BEYOND);
        first("ask: BEYOND: no such card, nor such a what", "6", x.ask(THERE_IS_NONE, 6), BEYOND);
        first("ask: BEYOND: no such card", "4", x.ask(THERE_IS_NONE, 4), BEYOND);
        first("as: BEYOND: no such kind, then KIND", "kind 3 of a CARD", x.as(CARD, 3), BEYOND);
        first("as: BEYOND: no such kind, then KIND", "kind -1 of an AWAY", x.as(AWAY, -1), BEYOND);
        first("as: BEYOND: no such card, then KIND", "kind 2", x.as(THERE_IS_NONE, 2), BEYOND);
        first("at: BEYOND, KIND, BEYOND", "no card, no hole", x.at(THERE_IS_NONE, 18), BEYOND);
        first("at: BEYOND, KIND, BEYOND", "an AWAY, no hole", x.at(AWAY, 18), KIND);
        first("at: BEYOND, KIND, BEYOND", "an AWAY, hole -1", x.at(AWAY, -1), KIND);
        first("at: BEYOND, KIND, BEYOND", "no hole of a SHORT", x.at(SHORT, 9), BEYOND);
    }

    private static void marks() {
        Book x = struckOut();
        String adjusted = "adjusted: BEYOND, KIND, BEYOND, VOID";
        first(adjusted, "no card, no hole", x.adjusted(THERE_IS_NONE, 18), BEYOND);
        first(adjusted, "a VOID AWAY", x.adjusted(AWAY, 0), KIND);
        first(adjusted, "a VOID AWAY, no hole", x.adjusted(AWAY, 18), KIND);
        first(adjusted, "no hole of a VOID CARD", x.adjusted(CARD, 18), BEYOND);
        first(adjusted, "hole -1 of a VOID CARD", x.adjusted(CARD, -1), BEYOND);
        first(adjusted, "no hole of a VOID SHORT", x.adjusted(SHORT, 9), BEYOND);
        first(adjusted, "a VOID SHORT", x.adjusted(SHORT, 8), VOID);
        String mark = "mark: BEYOND, VOID, NONE";
        first(mark, "a VOID CARD of 13 holes", x.mark(THIRTEEN), VOID);
        first(mark, "a VOID SHORT alone", x.mark(SHORT), VOID);
        first(mark, "a VOID SHORT of 6 holes", x.mark(SIX), VOID);
        String half = "half: BEYOND, KIND, VOID, NONE";
        first(half, "a VOID CARD", x.half(CARD), KIND);
        first(half, "a VOID CARD of 13 holes", x.half(THIRTEEN), KIND);
        first(half, "a VOID AWAY", x.half(AWAY), KIND);
        first(half, "a VOID SHORT of 6 holes", x.half(SIX), VOID);
        String joined = "joined: BEYOND, KIND, VOID, NONE";
        first(joined, "a VOID CARD", x.joined(CARD), KIND);
        first(joined, "a VOID AWAY", x.joined(AWAY), KIND);
        first(joined, "a VOID SHORT alone", x.joined(SHORT), VOID);
        first(joined, "a VOID SHORT of 6 holes", x.joined(SIX), VOID);
        for (int card = CARD; card <= AWAY; card++) {
            x.strike(card, false);
        }
        first(mark, "a CARD of 13 holes", x.mark(THIRTEEN), NONE);
        first(half, "a CARD of 13 holes", x.half(THIRTEEN), KIND);
        first(half, "a SHORT of 6 holes", x.half(SIX), NONE);
        first(joined, "a SHORT alone", x.joined(SHORT), NONE);
    }

    private static void numbersAndForms() {
        Book x = struckOut();
        for (boolean low : new boolean[] {false, true}) {
            first("raw: BEYOND, NONE", "player 12", x.raw(12, 0, low), BEYOND);
            first("raw: BEYOND, NONE", "day 10000", x.raw(1, 10000, low), BEYOND);
            first("raw: BEYOND, NONE", "no card", x.raw(1, 0, low), NONE);
        }
        for (int i : new int[] {Integer.MIN_VALUE, -1, 0, 8, Integer.MAX_VALUE}) {
            first("makes: BEYOND, NONE", "player -1", x.makes(-1, 0, i), BEYOND);
            first("makes: BEYOND, NONE", "day -1", x.makes(1, -1, i), BEYOND);
            first("makes: BEYOND, NONE", "no card", x.makes(1, 0, i), NONE);
        }
        first("score: BEYOND, KIND, NONE", "an AWAY has no STROKES at all", x.score(AWAY, true), KIND);
        first("score: BEYOND, KIND, NONE", "13 holes", x.score(THIRTEEN, true), NONE);
        first("score: BEYOND, KIND, NONE", "6 holes", x.score(SIX, false), NONE);
        for (int other : new int[] {SHORT, AWAY}) {
            first("match: BEYOND (either), KIND", "the second", x.match(other, THERE_IS_NONE), BEYOND);
            first("match: BEYOND (either), KIND", "the first", x.match(THERE_IS_NONE, other), BEYOND);
            first("match: BEYOND (either), KIND", "neither is", x.match(other, CARD), KIND);
        }
    }

    public static void main(String[] args) {
        courses();
        holes();
        cards();
        cardsAsked();
        marks();
        numbersAndForms();
        Tally.end();
    }
}
