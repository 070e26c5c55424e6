/** Each promise of the document in turn: ordinary calls, the edges that it names, wrong inputs. */
public final class PromiseTests {
    private static final int BEYOND = Book.BEYOND, NONE = Book.NONE, KIND = Book.KIND;
    private static final int SIZE = Book.SIZE, FULL = Book.FULL, VOID = Book.VOID;
    private static final int[] WILD = {Integer.MIN_VALUE, -1, Integer.MAX_VALUE};

    private static void due(String call, int got, int want) {
        Tally.due(call, got, want);
    }

    private static void newObject() {
        Book x = new Book();
        for (int c = 0; c < 4; c++) {
            due("about 0", x.about(c, 0), 720);
            due("about 1", x.about(c, 1), 113);
            due("about 2", x.about(c, 2), 72);
            due("about 3", x.about(c, 3), 36);
            for (int h = 0; h < 18; h++) {
                due("par", x.about(c, 100 + h), 4);
                due("rank", x.about(c, 200 + h), h + 1);
            }
            due("right", x.right(c, 5000, 0), 0);
        }
        for (int what = 0; what < 6; what++) {
            due("count " + what, x.count(what), 0);
        }
        for (int finding = VOID; finding <= BEYOND; finding++) {
            due("found " + finding, x.found(finding), 0);
        }
        due("number", x.number(11, 9999), 540);
        due("card 0", x.mark(0), BEYOND);
        Book y = new Book();
        y.course(0, 500, 55);
        due("another object's course", new Book().about(0, 0), 720);
    }

    private static void course() {
        Book x = new Book();
        due("least", x.course(0, 500, 55), 1);
        due("rating", x.about(0, 0), 500);
        due("slope", x.about(0, 1), 55);
        due("most", x.course(3, 800, 155), 1);
        due("rating", x.about(3, 0), 800);
        due("slope", x.about(3, 1), 155);
        due("others stay", x.about(1, 0), 720);
        due("rating 499", x.course(0, 499, 113), BEYOND);
        due("rating 801", x.course(0, 801, 113), BEYOND);
        due("slope 54", x.course(0, 700, 54), BEYOND);
        due("slope 156", x.course(0, 700, 156), BEYOND);
        due("course 4", x.course(4, 700, 113), BEYOND);
        for (int wild : WILD) {
            due("course", x.course(wild, 700, 113), BEYOND);
            due("rating", x.course(0, wild, 113), BEYOND);
            due("slope", x.course(0, 700, wild), BEYOND);
        }
        due("nothing changed", x.about(0, 0) + x.about(0, 1), 555);
        x.putCard(0, 1, 5, 5);
        due("mark", x.mark(0), 180);
        x.course(1, 700, 100);
        due("mark by the new course: 113 * 200 / 100", x.mark(0), 226);
    }

    private static void hole() {
        Book x = new Book();
        due("hole", x.hole(0, 4, 3, 18), 5);
        due("par", x.about(0, 104), 3);
        due("rank", x.about(0, 204), 18);
        due("the other's rank", x.about(0, 217), 5);
        due("the other's par", x.about(0, 117), 4);
        due("another course", x.about(1, 204), 5);
        due("its own rank", x.hole(0, 4, 5, 18), 18);
        due("its own rank stays", x.about(0, 204), 18);
        due("par 5", x.about(0, 104), 5);
        due("rank 1", x.hole(0, 17, 4, 1), 5);
        due("hole 0 gets 5", x.about(0, 200), 5);
        due("course 4", x.hole(4, 0, 4, 1), BEYOND);
        due("hole 18", x.hole(0, 18, 4, 1), BEYOND);
        due("par 2", x.hole(0, 0, 2, 1), BEYOND);
        due("par 6", x.hole(0, 0, 6, 1), BEYOND);
        due("rank 0", x.hole(0, 0, 4, 0), BEYOND);
        due("rank 19", x.hole(0, 0, 4, 19), BEYOND);
        for (int wild : WILD) {
            due("course", x.hole(wild, 0, 4, 1), BEYOND);
            due("hole", x.hole(0, wild, 4, 1), BEYOND);
            due("par", x.hole(0, 0, wild, 1), BEYOND);
            due("rank", x.hole(0, 0, 4, wild), BEYOND);
        }
        due("nothing changed", x.about(0, 200), 5);
        x.putCard(0, 1, 5, 15);
        due("18 holes of 4 + 2 + 3", x.mark(0), 900);
        x.hole(1, 0, 5, 1);
        // G is 53 then: 3 at each hole but that of rank 18
        due("marks by the new par: 10 + 16 * 9 + 8", x.mark(0), 900);
        due("adjusted", x.adjusted(0, 0), 10);
        due("adjusted", x.adjusted(0, 17), 8);
        x.hole(1, 17, 4, 1);
        due("adjusted by the new rank", x.adjusted(0, 17), 9);
        due("and by the other's", x.adjusted(0, 0), 9);
    }

    private static void right() {
        Book x = new Book();
        due("new", x.right(0, 0, 3), 0);
        due("again", x.right(0, 0, -1), 3);
        due("back to 0", x.right(0, 0, 0), -1);
        due("was 0", x.right(0, 0, 0), 0);
        for (int i = 0; i < 30; i++) {
            due("the first 30", x.right(i % 4, 9970 + i, 1 + i % 3), 0);
        }
        due("31st", x.right(0, 1, 1), FULL);
        due("31st, 0", x.right(0, 1, 0), 0);
        due("one of the 30 changes", x.right(0, 9970, -1), 1);
        due("one of the 30 ends", x.right(1, 9971, 0), 2);
        due("there is room", x.right(0, 1, 1), 0);
        due("full again", x.right(1, 9971, 2), FULL);
        due("the last of the 30", x.right(1, 9999, 3), 3);
        due("the new one", x.right(0, 1, 1), 1);
        due("right 4", x.right(0, 0, 4), BEYOND);
        due("right -2", x.right(0, 0, -2), BEYOND);
        due("course 4", x.right(4, 0, 1), BEYOND);
        due("day 10000", x.right(0, 10000, 1), BEYOND);
        for (int wild : WILD) {
            due("course", x.right(wild, 0, 1), BEYOND);
            due("day", x.right(0, wild, 1), BEYOND);
        }
        due("right", x.right(0, 0, Integer.MIN_VALUE), BEYOND);
        due("BEYOND ahead of FULL", x.right(0, 0, 5), BEYOND);
    }

    private static void about() {
        Book x = new Book();
        x.course(2, 685, 131);
        x.hole(2, 0, 5, 1);
        x.hole(2, 8, 3, 18);
        x.hole(2, 9, 3, 10);
        x.hole(2, 17, 3, 9);
        due("rating", x.about(2, 0), 685);
        due("slope", x.about(2, 1), 131);
        due("pars", x.about(2, 2), 70);
        due("pars of the first nine", x.about(2, 3), 36);
        due("par 0", x.about(2, 100), 5);
        due("par 17", x.about(2, 117), 3);
        due("rank 8", x.about(2, 208), 18);
        due("rank 17", x.about(2, 217), 9);
        for (int what : new int[] {-1, 4, 99, 118, 199, 218, 300, Integer.MIN_VALUE, Integer.MAX_VALUE}) {
            due("what " + what, x.about(2, what), BEYOND);
        }
        for (int wild : WILD) {
            due("course", x.about(wild, 0), BEYOND);
        }
        due("course 4", x.about(4, 0), BEYOND);
    }

    private static void holes() {
        Book x = new Book();
        due("none", x.holes(-1L, 0), 0);
        due("eight", x.holes(0x87654321L, 8), 8);
        due("eight of a long word", x.holes(0xFFFFFFFF0FEDCBA9L, 8), 16);
        due("three would be too many", x.holes(0x111L, 3), FULL);
        due("16 wait", x.count(4), 16);
        due("two", x.holes(0xFFFFFFFFFFFFFF53L, 2), 18);
        due("none more", x.holes(0L, 0), 18);
        due("one more", x.holes(1L, 1), FULL);
        due("n is -1", x.holes(0L, -1), SIZE);
        due("n is 9, BEYOND ahead of FULL", x.holes(0L, 9), BEYOND);
        due("n is least", x.holes(0L, Integer.MIN_VALUE), SIZE);
        due("n is most", x.holes(0L, Integer.MAX_VALUE), BEYOND);
        due("card", x.card(0, 0, 0), 0);
        for (int h = 0; h < 15; h++) {
            due("hole " + h, x.at(0, h), h + 1);
        }
        due("hole 15, not played", x.at(0, 15), 0);
        due("hole 16", x.at(0, 16), 3);
        due("hole 17", x.at(0, 17), 5);
    }

    private static void pickUp() {
        Book x = new Book();
        due("none wait", x.pickUp(0), BEYOND);
        x.holes(0x40444444L, 8);
        due("the eighth", x.pickUp(7), 1);
        due("the ninth", x.pickUp(8), BEYOND);
        due("one not played", x.pickUp(6), 1);
        due("the first", x.pickUp(0), 1);
        for (int wild : WILD) {
            due("wild", x.pickUp(wild), BEYOND);
        }
        x.holes(4L, 1);
        due("nine", x.nine(0, 0, 0, true), 0);
        due("pick-up", x.at(0, 7), -1);
        due("pick-up", x.at(0, 6), -1);
        due("pick-up", x.at(0, 0), -1);
        due("strokes", x.at(0, 5), 4);
        due("those that waited are gone", x.pickUp(0), BEYOND);
    }

    private static void card() {
        Book x = new Book();
        due("none wait", x.card(0, 0, 0), SIZE);
        x.same(17, 4);
        due("17 wait", x.card(0, 0, 0), SIZE);
        due("BEYOND ahead of SIZE", x.card(12, 0, 0), BEYOND);
        x.same(1, 4);
        due("player 12", x.card(12, 0, 0), BEYOND);
        due("course 4", x.card(0, 4, 0), BEYOND);
        due("day 10000", x.card(0, 0, 10000), BEYOND);
        for (int wild : WILD) {
            due("player", x.card(wild, 0, 0), BEYOND);
            due("course", x.card(0, wild, 0), BEYOND);
            due("day", x.card(0, 0, wild), BEYOND);
        }
        due("they still wait", x.count(4), 18);
        due("card", x.card(11, 3, 9999), 0);
        due("none wait then", x.count(4), 0);
        due("next", x.putCard(0, 0, 0, 5), 1);
        x.aways(0, 0, Book.times(58, 0));
        due("60 cards", x.count(0), 60);
        due("60 with a mark", x.count(2), 60);
        due("place", x.place(1), 1);
        due("card 59", x.ask(59, 0), 2);
        due("card 60", x.ask(60, 0), BEYOND);
        due("SIZE ahead of FULL", x.card(0, 0, 0), SIZE);
        x.same(18, 4);
        due("full", x.card(0, 0, 0), FULL);
        due("they still wait", x.count(4), 18);
        x.undo();
        due("there is room", x.card(0, 0, 0), 59);
    }

    private static void nine() {
        Book x = new Book();
        due("none wait", x.nine(0, 0, 0, true), SIZE);
        x.same(10, 4);
        due("10 wait", x.nine(0, 0, 0, true), SIZE);
        x.same(8, 4);
        due("18 wait", x.nine(0, 0, 0, true), SIZE);
        due("card", x.card(0, 0, 0), 0);
        x.same(9, 6);
        due("SIZE of a card", x.card(0, 0, 0), SIZE);
        due("player 12", x.nine(12, 0, 0, true), BEYOND);
        due("course 4", x.nine(0, 4, 0, true), BEYOND);
        due("day 10000", x.nine(0, 0, 10000, true), BEYOND);
        for (int wild : WILD) {
            due("player", x.nine(wild, 0, 0, true), BEYOND);
            due("course", x.nine(0, wild, 0, true), BEYOND);
            due("day", x.nine(0, 0, wild, false), BEYOND);
        }
        due("nine", x.nine(3, 2, 7, false), 1);
        due("none wait then", x.count(4), 0);
        due("kind", x.ask(1, 0), 1);
        due("the last nine", x.at(1, 17), 6);
        due("not the first", x.at(1, 8), BEYOND);
        due("front", x.putNine(0, 0, 5), 2);
        due("the first nine", x.at(2, 0), 5);
        due("not the last", x.at(2, 9), BEYOND);
        x.aways(0, 0, Book.times(57, 0));
        due("SIZE ahead of FULL", x.nine(0, 0, 0, true), SIZE);
        x.same(9, 6);
        due("full", x.nine(0, 0, 0, true), FULL);
        due("they still wait", x.count(4), 9);
    }

    private static void away() {
        Book x = new Book();
        x.same(5, 4);
        due("least", x.away(0, 0, -200), 0);
        due("most", x.away(11, 9999, 900), 1);
        due("what waits stays", x.count(4), 5);
        due("its mark", x.mark(0), -200);
        due("its mark", x.mark(1), 900);
        due("-201", x.away(0, 0, -201), BEYOND);
        due("901", x.away(0, 0, 901), BEYOND);
        due("player 12", x.away(12, 0, 0), BEYOND);
        due("day 10000", x.away(0, 10000, 0), BEYOND);
        due("player", x.away(-1, 0, 0), BEYOND);
        due("day", x.away(0, -1, 0), BEYOND);
        due("mark", x.away(0, 0, Integer.MAX_VALUE), BEYOND);
        due("mark", x.away(0, 0, Integer.MIN_VALUE), BEYOND);
        x.aways(5, 0, Book.times(58, 100));
        due("full", x.away(0, 0, 0), FULL);
        due("BEYOND ahead of FULL", x.away(0, 0, 901), BEYOND);
        due("60", x.count(0), 60);
    }

    private static void strike() {
        Book x = new Book();
        due("none", x.strike(0, true), BEYOND);
        x.aways(0, 1, 100, 110, 120);
        due("number", x.number(0, 9), 80);
        due("not void", x.strike(0, false), 0);
        due("void", x.strike(0, true), 1);
        due("already", x.strike(0, true), 0);
        due("number", x.number(0, 9), 540);
        due("void?", x.ask(0, 3), 1);
        due("back", x.strike(0, false), 1);
        due("void?", x.ask(0, 3), 0);
        due("number", x.number(0, 9), 80);
        due("card 3", x.strike(3, true), BEYOND);
        for (int wild : WILD) {
            due("wild", x.strike(wild, true), BEYOND);
        }
        x.strike(2, true);
        x.undo();
        x.away(0, 5, 50);
        due("a new card isn't void", x.ask(2, 3), 0);
    }

    private static void ask() {
        Book x = new Book();
        x.away(7, 30, 5);
        x.same(7, 4);
        x.same(1, 0);
        x.same(1, -1);
        x.nine(6, 2, 40, true);
        x.putCard(5, 3, 50, 15);
        x.strike(1, true);
        int[][] want = {{2, 7, 30, 0, NONE, NONE}, {1, 6, 40, 1, 2, 8}, {0, 5, 50, 0, 3, 18}};
        for (int c = 0; c < 3; c++) {
            for (int what = 0; what < 6; what++) {
                due("ask " + c + ", " + what, x.ask(c, what), want[c][what]);
            }
            due("what 6", x.ask(c, 6), BEYOND);
            due("what -1", x.ask(c, -1), BEYOND);
        }
        due("card 3", x.ask(3, 0), BEYOND);
        for (int wild : WILD) {
            due("card", x.ask(wild, 0), BEYOND);
            due("what", x.ask(0, wild), BEYOND);
        }
    }

    private static void as() {
        Book x = new Book();
        x.putCard(4, 0, 0, 4);
        x.putNine(5, 0, 4);
        x.away(6, 0, 0);
        int[][] want = {{4, KIND, KIND}, {5, 5, KIND}, {6, KIND, 6}};
        for (int c = 0; c < 3; c++) {
            for (int kind = 0; kind < 3; kind++) {
                due("as " + c + ", " + kind, x.as(c, kind), want[c][kind]);
            }
            due("kind 3", x.as(c, 3), BEYOND);
        }
        due("card 3", x.as(3, 0), BEYOND);
        for (int wild : WILD) {
            due("card", x.as(wild, 0), BEYOND);
            due("kind", x.as(0, wild), BEYOND);
        }
        x.strike(0, true);
        due("a void one", x.as(0, 0), 4);
    }

    private static void at() {
        Book x = new Book();
        x.same(16, 4);
        x.same(1, -1);
        x.same(1, 0);
        x.card(0, 0, 0);
        x.putNine(0, 0, 15);
        x.away(0, 0, 0);
        due("strokes", x.at(0, 0), 4);
        due("pick-up", x.at(0, 16), -1);
        due("not played", x.at(0, 17), 0);
        due("hole 18", x.at(0, 18), BEYOND);
        due("a nine's", x.at(1, 8), 15);
        due("not a nine's", x.at(1, 9), BEYOND);
        due("away", x.at(2, 0), KIND);
        due("away, KIND ahead of BEYOND", x.at(2, 18), KIND);
        due("card 3", x.at(3, 0), BEYOND);
        for (int wild : WILD) {
            due("card", x.at(wild, 0), BEYOND);
            due("hole", x.at(0, wild), BEYOND);
            due("hole of a nine", x.at(1, wild), BEYOND);
        }
        x.strike(0, true);
        due("a void one", x.at(0, 0), 4);
    }

    private static void adjusted() {
        Book x = new Book();
        x.hole(0, 0, 3, 1);
        x.hole(0, 1, 5, 2);
        // G: (540 * 113 + 113 * 0) by 1130 is 54: 3 at each hole
        x.holes(0x0FF9A888L, 8);
        x.same(10, 4);
        x.pickUp(7);
        x.card(0, 0, 10);
        due("at its limit 3 + 2 + 3", x.adjusted(0, 0), 8);
        due("below 5 + 2 + 3", x.adjusted(0, 1), 8);
        due("below 4 + 2 + 3", x.adjusted(0, 2), 8);
        due("above", x.adjusted(0, 3), 9);
        due("at the limit", x.adjusted(0, 4), 9);
        due("above", x.adjusted(0, 5), 9);
        due("above", x.adjusted(0, 6), 9);
        due("pick-up", x.adjusted(0, 7), 9);
        due("ordinary", x.adjusted(0, 17), 4);
        x.same(8, 4);
        x.same(1, 0);
        x.nine(0, 0, 10, false);
        due("not played: 4 + 3", x.adjusted(1, 17), 7);
        due("not its hole", x.adjusted(1, 8), BEYOND);
        x.away(0, 10, 5);
        due("away", x.adjusted(2, 0), KIND);
        due("away, KIND ahead of BEYOND", x.adjusted(2, 99), KIND);
        due("card 3", x.adjusted(3, 0), BEYOND);
        x.strike(0, true);
        due("void", x.adjusted(0, 0), VOID);
        due("BEYOND ahead of VOID", x.adjusted(0, 18), BEYOND);
        for (int wild : WILD) {
            due("card", x.adjusted(wild, 0), BEYOND);
            due("hole", x.adjusted(1, wild), BEYOND);
        }
        // RAW -100 - 20, G -12: floor -1, left 6
        x.aways(1, 0, -100, -100, -100);
        x.putCard(1, 1, 9, 9);
        due("rank 6: 4 + 2", x.adjusted(6, 5), 6);
        due("rank 7: 4 + 2 - 1", x.adjusted(6, 6), 5);
        due("the same day's cards don't count", x.number(0, 10), 540);
    }

    private static void mark() {
        Book x = new Book();
        x.course(1, 703, 127);
        x.putCard(0, 1, 0, 5);
        due("113 * (900 - 703) / 127 = 175.28", x.mark(0), 175);
        x.right(1, 0, 3);
        due("113 * (900 - 703 - 30) / 127 = 148.59", x.mark(0), 149);
        x.right(1, 0, -1);
        due("113 * (900 - 703 + 10) / 127 = 184.18", x.mark(0), 184);
        x.right(1, 1, 2);
        x.right(0, 0, 2);
        due("rights of other days and courses", x.mark(0), 184);
        x.same(13, 4);
        x.same(5, 0);
        x.card(0, 0, 0);
        due("13 played", x.mark(1), NONE);
        x.same(13, 4);
        x.same(4, 0);
        x.same(1, -1);
        x.card(1, 0, 5);
        due("14 with a pick-up: 52 + 28 + 9 = 89", x.mark(2), 170);
        x.course(2, 720, 113);
        x.putCard(2, 2, 0, 1);
        due("below 0", x.mark(3), -540);
        x.course(2, 725, 114);
        due("113 * -545 / 114 = -540.2", x.mark(3), -540);
        x.course(2, 500, 113);
        due("-320", x.mark(3), -320);
        x.course(2, 513, 122);
        due("113 * -333 / 122 = -308.4", x.mark(3), -308);
        x.course(2, 500, 64);
        due("113 * -320 / 64 = -565 just", x.mark(3), -565);
        x.course(2, 504, 72);
        due("113 * -324 / 72 = -508.5: up", x.mark(3), -508);
        x.strike(1, true);
        due("VOID ahead of NONE", x.mark(1), VOID);
        x.putNine(3, 0, 4);
        due("a nine alone", x.mark(4), NONE);
        due("card 5", x.mark(5), BEYOND);
        for (int wild : WILD) {
            due("wild", x.mark(wild), BEYOND);
        }
    }

    private static void half() {
        Book x = new Book();
        x.course(0, 721, 113);
        due("none", x.half(0), BEYOND);
        x.putNine(0, 5, 5);
        due("450 - 360", x.half(0), 90);
        x.right(0, 5, 3);
        due("450 - 360 - 15", x.half(0), 75);
        x.right(0, 5, -1);
        due("450 - 360 + 5", x.half(0), 95);
        x.same(6, 4);
        x.same(3, 0);
        x.nine(1, 0, 6, true);
        due("6 played", x.half(1), NONE);
        x.same(6, 4);
        x.same(1, -1);
        x.same(2, 0);
        x.nine(1, 0, 7, true);
        due("7 played: 24 + 9 + 14 = 47", x.half(2), 110);
        x.course(0, 700, 155);
        // G is 72 now: 4 at each hole, so 24 + 10 + 16 = 50
        due("113 * 150 / 155 = 109.35", x.half(2), 109);
        x.putCard(0, 0, 0, 4);
        x.away(0, 0, 4);
        due("card", x.half(3), KIND);
        due("away", x.half(4), KIND);
        x.strike(3, true);
        due("KIND ahead of VOID", x.half(3), KIND);
        x.strike(1, true);
        due("VOID ahead of NONE", x.half(1), VOID);
        for (int wild : WILD) {
            due("wild", x.half(wild), BEYOND);
        }
    }

    private static void joined() {
        Book x = new Book();
        x.putNine(0, 100, 4);
        due("it waits", x.joined(0), NONE);
        x.putNine(1, 101, 5);
        due("another player's", x.joined(1), NONE);
        x.putNine(0, 161, 5);
        due("61 days", x.joined(2), NONE);
        due("three wait", x.count(3), 3);
        x.putNine(0, 160, 6);
        due("60 days, come late", x.joined(3), 0);
        due("the earlier one", x.joined(0), 3);
        due("the later one's mark: 0 + 180", x.mark(3), 180);
        due("the earlier one has none", x.mark(0), NONE);
        due("two wait", x.count(3), 2);
        x.putNine(0, 161, 7);
        due("the same day", x.joined(4), 2);
        due("90 + 270", x.mark(4), 360);
        x.strike(0, true);
        due("as from nothing", x.joined(3), 2);
        due("it waits again", x.joined(4), NONE);
        due("void", x.joined(0), VOID);
        due("90 + 180", x.mark(2), 270);
        due("none", x.mark(3), NONE);
        x.strike(0, false);
        due("back", x.joined(3), 0);
        x.away(0, 0, 0);
        x.putCard(0, 0, 0, 4);
        due("away", x.joined(5), KIND);
        due("card", x.joined(6), KIND);
        due("card 7", x.joined(7), BEYOND);
        for (int wild : WILD) {
            due("wild", x.joined(wild), BEYOND);
        }
        waitedLongest();
    }

    private static void waitedLongest() {
        Book x = new Book();
        x.putNine(0, 10, 4);
        x.putNine(0, 71, 4);
        x.putNine(0, 140, 4);
        x.putNine(0, 131, 4);
        due("of 10 and 71 only 71 is near", x.joined(3), 1);
        due("140 waits", x.joined(2), NONE);
        x.putNine(0, 65, 4);
        due("65 takes 10", x.joined(4), 0);
        x.strike(3, true);
        x.strike(4, true);
        due("140 is too far from 71", x.joined(2), NONE);
        x.putNine(0, 70, 4);
        due("70 takes 10, the longest", x.joined(5), 0);
        due("71 waits", x.joined(1), NONE);
        due("two wait", x.count(3), 2);
    }

    private static void number() {
        Book x = new Book();
        x.aways(0, 10, 200, 100, 300);
        due("two", x.number(0, 12), 540);
        due("three", x.number(0, 13), 80);
        due("another player", x.number(1, 13), 540);
        x.aways(2, 0, 900, 900, 900);
        due("at most 540", x.number(2, 5), 540);
        due("player 12", x.number(12, 0), BEYOND);
        due("day 10000", x.number(0, 10000), BEYOND);
        for (int wild : WILD) {
            due("player", x.number(wild, 0), BEYOND);
            due("day", x.number(0, wild), BEYOND);
        }
        // LOW 100, then 20 cards of 100 + more: RAW is that
        int[][] rawAndNumber = {{101, 101}, {128, 128}, {130, 130}, {131, 130}, {132, 131}, {133, 131}, {169, 149}, {170, 150}, {171, 150}, {540, 150}};
        for (int[] pair : rawAndNumber) {
            Book y = new Book();
            y.aways(3, 50, Book.times(20, 100));
            y.aways(3, 100, Book.times(20, pair[0]));
            due("raw", y.raw(3, 120, false), pair[0]);
            due("low", y.raw(3, 120, true), 100);
            due("capped from " + pair[0], y.number(3, 120), pair[1]);
        }
        Book y = new Book();
        y.aways(3, 50, Book.times(20, 100));
        y.aways(3, 100, Book.times(20, 300));
        // day 70 has RAW 100 first; so have the days to 113 at 8 of 20, later ones mix
        due("the last day of 100", y.raw(3, 112, false), 100);
        due("day 112 is 364 ahead", y.raw(3, 112 + 364, true), 100);
        due("and not 365", y.raw(3, 112 + 365, true) > 100 ? 1 : 0, 1);
        due("last low", y.raw(3, 120 + 364, true), 300);
        due("no low", y.raw(3, 120 + 365, true), NONE);
        due("number without low", y.number(3, 120 + 365), 300);
        due("number then", y.number(3, 119), 150);
    }

    private static void raw() {
        int[] k = {0, 0, 0, 1, 1, 1, 2, 2, 2, 3, 3, 3, 4, 4, 4, 5, 5, 6, 6, 7, 8, 8, 8};
        int[] t = {0, 0, 0, 20, 10, 0, 10};
        for (int m = 0; m <= 22; m++) {
            Book x = new Book();
            int[] marks = new int[m];
            for (int i = 0; i < m; i++) {
                marks[i] = (i + 1) * (i + 1);
            }
            x.aways(0, 0, marks);
            int first = Math.max(0, m - 20);
            int sum = 0;
            for (int i = 0; i < k[m]; i++) {
                sum += marks[first + i];
            }
            int want = k[m] == 0 ? NONE : Math.floorDiv(2 * sum + k[m], 2 * k[m]) - (m < 7 ? t[m] : 0);
            due("raw of " + m, x.raw(0, m, false), want);
            due("low of " + m, x.raw(0, m, true) != NONE ? 1 : 0, m >= 20 ? 1 : 0);
        }
        Book x = new Book();
        x.aways(0, 0, -5, -4, 9, 9, 9, 9, 9);
        due("-9 by 2, ROUNDED: -4", x.raw(0, 7, false), -4);
        due("none yet", x.raw(0, 2, false), NONE);
        x.aways(1, 0, 700, 560, 800);
        due("less 20, then at most 540", x.raw(1, 3, false), 540);
        x.aways(2, 0, 700, 559, 800);
        due("559 less 20", x.raw(2, 3, false), 539);
        for (boolean low : new boolean[] {false, true}) {
            due("player 12", x.raw(12, 0, low), BEYOND);
            due("day 10000", x.raw(0, 10000, low), BEYOND);
            for (int wild : WILD) {
                due("player", x.raw(wild, 0, low), BEYOND);
                due("day", x.raw(0, wild, low), BEYOND);
            }
        }
        lowByDays();
    }

    /** LOW is told by whole days: 20 cards of which the last two share a day. */
    private static void lowByDays() {
        Book x = new Book();
        x.aways(0, 0, Book.times(19, 300));
        x.away(0, 50, 300);
        x.away(0, 50, 100);
        due("8 of 20: 100 and 7 of 300", x.raw(0, 51, false), 275);
        due("not the RAW of a part of the day", x.raw(0, 51, true), 275);
        due("the day itself", x.raw(0, 50, true), NONE);
        due("19 ahead of it", x.last(0, 50), 19);
    }

    private static void last() {
        Book x = new Book();
        due("none", x.last(0, 9999), 0);
        x.aways(0, 0, Book.times(25, 100));
        due("day 0", x.last(0, 0), 0);
        due("day 1", x.last(0, 1), 1);
        due("day 19", x.last(0, 19), 19);
        due("day 20", x.last(0, 20), 20);
        due("day 21", x.last(0, 21), 20);
        x.strike(0, true);
        due("without a void one", x.last(0, 20), 19);
        x.putNine(1, 0, 4);
        due("no mark", x.last(1, 5), 0);
        x.putNine(1, 3, 4);
        due("joined", x.last(1, 5), 1);
        due("of earlier days", x.last(1, 3), 0);
        due("player 12", x.last(12, 0), BEYOND);
        due("day 10000", x.last(0, 10000), BEYOND);
        for (int wild : WILD) {
            due("player", x.last(wild, 0), BEYOND);
            due("day", x.last(0, wild), BEYOND);
        }
    }

    private static void makes() {
        Book x = new Book();
        int[] marks = {50, 40, 40, 60, 30, 40, 70, 80, 40};
        for (int i = 0; i < marks.length; i++) {
            x.away(0, 100 - i, marks[i]);
        }
        // nine make 3: 30 (card 4), then of those with 40 the one of the earliest day, card 8, and 5
        due("least", x.makes(0, 101, 0), 4);
        due("like ones in ORDER", x.makes(0, 101, 1), 8);
        due("like ones in ORDER", x.makes(0, 101, 2), 5);
        due("none such", x.makes(0, 101, 3), NONE);
        due("none such", x.makes(0, 101, -1), NONE);
        due("none such", x.makes(0, 101, Integer.MAX_VALUE), NONE);
        due("none such", x.makes(0, 101, Integer.MIN_VALUE), NONE);
        x.away(0, 92, 40);
        due("of a day the lesser number", x.makes(0, 101, 1), 8);
        due("of a day the lesser number", x.makes(0, 101, 2), 9);
        due("two ahead", x.makes(0, 93, 0), NONE);
        due("player 12", x.makes(12, 101, 0), BEYOND);
        due("day 10000", x.makes(0, 10000, 0), BEYOND);
        for (int wild : WILD) {
            due("player", x.makes(wild, 0, 0), BEYOND);
            due("day", x.makes(0, wild, 0), BEYOND);
        }
    }

    private static void given() {
        Book x = new Book();
        due("540", x.given(0, 0, 0), 54);
        x.course(1, 755, 155);
        due("(540 * 155 + 113 * 35) by 1130 = 77.57", x.given(0, 1, 0), 78);
        x.hole(1, 0, 5, 1);
        due("(83700 - 113 * -25) by 1130 = 76.57", x.given(0, 1, 0), 77);
        x.aways(0, 0, 70, 70, 70);
        due("N 50: 5", x.given(0, 0, 3), 5);
        x.aways(1, 0, 65, 65, 65);
        due("N 45: 4.5, so 5", x.given(1, 0, 3), 5);
        x.aways(2, 0, -25, -25, -25);
        due("N -45: -4.5, so -4", x.given(2, 0, 3), -4);
        due("the day of the third card", x.given(2, 0, 2), 54);
        due("player 12", x.given(12, 0, 0), BEYOND);
        due("course 4", x.given(0, 4, 0), BEYOND);
        due("day 10000", x.given(0, 0, 10000), BEYOND);
        for (int wild : WILD) {
            due("player", x.given(wild, 0, 0), BEYOND);
            due("course", x.given(0, wild, 0), BEYOND);
            due("day", x.given(0, 0, wild), BEYOND);
        }
    }

    private static void strokes() {
        Book x = new Book();
        x.hole(1, 0, 4, 18);
        due("rank 18 of 18", x.strokes(1, 18, 0), 1);
        due("rank 18 of 17", x.strokes(1, 17, 0), 0);
        due("rank 1 of 1", x.strokes(1, 1, 17), 1);
        due("rank 1 of 0", x.strokes(1, 0, 17), 0);
        due("rank 2 of 19", x.strokes(1, 19, 1), 1);
        due("rank 2 of 20", x.strokes(1, 20, 1), 2);
        due("rank 18 of -1", x.strokes(1, -1, 0), -1);
        due("rank 17 of -1", x.strokes(1, -1, 16), 0);
        due("rank 1 of -18", x.strokes(1, -18, 17), -1);
        due("rank 18 of -19", x.strokes(1, -19, 0), -2);
        due("least", x.strokes(0, Integer.MIN_VALUE, 15), -119304647);
        due("least", x.strokes(0, Integer.MIN_VALUE, 16), -119304648);
        due("most", x.strokes(0, Integer.MAX_VALUE, 0), 119304648);
        due("most", x.strokes(0, Integer.MAX_VALUE, 1), 119304647);
        due("course 4", x.strokes(4, 0, 0), BEYOND);
        due("hole 18", x.strokes(0, 0, 18), BEYOND);
        for (int wild : WILD) {
            due("course", x.strokes(wild, 0, 0), BEYOND);
            due("hole", x.strokes(0, 0, wild), BEYOND);
        }
    }

    private static void score() {
        Book x = new Book();
        x.putCard(0, 0, 0, 15);
        due("270", x.score(0, false), 270);
        due("less 54", x.score(0, true), 216);
        x.aways(1, 0, 120, 120, 120);
        x.same(9, 5);
        x.nine(1, 0, 5, false);
        due("45", x.score(4, false), 45);
        // G 10: ranks 1 .. 10, so of the last nine just rank 10
        due("less 1", x.score(4, true), 44);
        x.strike(4, true);
        due("a void one", x.score(4, true), 44);
        due("away", x.score(1, false), KIND);
        x.same(17, 4);
        x.same(1, -1);
        x.card(2, 0, 0);
        due("pick-up", x.score(5, false), NONE);
        x.same(1, 0);
        x.same(17, 4);
        x.card(2, 0, 0);
        due("not played", x.score(6, true), NONE);
        due("card 7", x.score(7, false), BEYOND);
        for (int wild : WILD) {
            due("wild", x.score(wild, true), BEYOND);
        }
    }

    private static void points() {
        Book x = new Book();
        x.aways(0, 0, 120, 120, 120);
        // G 10 on day 5: holes 0 .. 9 have one more
        x.holes(0x87654321L, 8);
        x.holes(0x07654321L, 8);
        x.holes(0x44L, 2);
        x.pickUp(16);
        x.card(0, 0, 5);
        // 7 less 1 .. 7: 6 5 4 3 2 1 0 0; 7 less 1, 2: 6 5; 6 less 3 .. 7: 3 2 1 0 0; 0, pick-up; 2
        due("points", x.points(3), 21 + 11 + 6 + 2);
        x.strike(3, true);
        due("a void one", x.points(3), 40);
        x.hole(0, 17, 5, 18);
        x.course(0, 730, 113);
        due("one more at 17", x.points(3), 41);
        x.putNine(0, 5, 6);
        due("9 holes of 7 less 6", x.points(4), 9);
        due("away", x.points(0), KIND);
        due("card 5", x.points(5), BEYOND);
        for (int wild : WILD) {
            due("wild", x.points(wild), BEYOND);
        }
    }

    private static void match() {
        Book x = new Book();
        x.putCard(0, 0, 0, 4);
        x.putCard(1, 0, 0, 5);
        due("10 and 8", x.match(0, 1), 1008);
        due("the other", x.match(1, 0), -992);
        due("itself", x.match(0, 0), 0);
        x.putCard(2, 1, 0, 4);
        due("unlike courses", x.match(0, 2), KIND);
        x.putNine(2, 0, 4);
        x.away(2, 0, 5);
        due("nine", x.match(0, 3), KIND);
        due("nine", x.match(3, 0), KIND);
        due("away", x.match(4, 0), KIND);
        due("away", x.match(4, 4), KIND);
        due("card 5", x.match(0, 5), BEYOND);
        due("BEYOND ahead of KIND", x.match(3, 5), BEYOND);
        due("BEYOND ahead of KIND", x.match(-1, 3), BEYOND);
        for (int wild : WILD) {
            due("first", x.match(wild, 0), BEYOND);
            due("second", x.match(0, wild), BEYOND);
        }
        x.same(17, 4);
        x.same(1, 3);
        x.card(3, 0, 0);
        due("one up at the last", x.match(5, 0), 100);
        due("one down at the last", x.match(0, 5), -100);
        x.same(1, 3);
        x.same(16, 4);
        x.same(1, 5);
        x.card(4, 0, 0);
        due("one up, then all square", x.match(6, 0), 0);
        x.same(2, 3);
        x.same(16, 4);
        x.card(5, 0, 0);
        due("two up with one left", x.match(7, 0), 201);
        x.same(1, -1);
        x.same(1, 0);
        x.same(16, 4);
        x.card(6, 0, 0);
        due("pick-up and not played lose", x.match(0, 8), 201);
        x.putCard(7, 0, 0, 15);
        due("they lose to 15, too: 2 down, then 10 holes won", x.match(8, 9), 806);
        x.same(1, 0);
        x.same(1, -1);
        x.same(16, 4);
        x.card(8, 0, 0);
        due("two such are halved", x.match(8, 10), 0);
        x.aways(9, 0, 20, 20, 20);
        x.putCard(9, 0, 5, 4);
        due("none given against 3 at each hole", x.match(14, 0), -992);
        x.strike(0, true);
        due("a void one", x.match(14, 0), -992);
    }

    private static void place() {
        Book x = new Book();
        // all have 3 given at each hole; like sums, unlike ends
        int[][] over = {{0, 1}, {9, 10}, {12, 13}, {15, 16}, {17, 17}};
        x.putCard(0, 0, 7, 5);
        for (int[] pair : over) {
            putWithOneLess(x, pair[0]);
        }
        // one stroke less at 17, 15, 12, 9, 0 of the same sum
        due("the last hole", x.place(5), 1);
        due("the last three", x.place(4), 2);
        due("the last six", x.place(3), 3);
        due("the last nine", x.place(2), 4);
        due("the sum", x.place(1), 5);
        due("the least sum", x.place(0), 6);
        putWithOneLess(x, 17);
        due("the lesser number first", x.place(6), 2);
        due("the others go down", x.place(4), 3);
        x.putCard(0, 0, 8, 4);
        x.putCard(0, 1, 7, 4);
        x.putNine(0, 7, 1);
        due("another day, course, kind", x.place(5), 1);
        due("alone", x.place(7), 1);
        due("alone", x.place(8), 1);
        x.strike(5, true);
        due("a void one keeps its place", x.place(5), 1);
        due("nine", x.place(9), KIND);
        x.away(0, 7, 0);
        due("away", x.place(10), KIND);
        due("card 11", x.place(11), BEYOND);
        for (int wild : WILD) {
            due("wild", x.place(wild), BEYOND);
        }
    }

    private static void putWithOneLess(Book x, int hole) {
        for (int h = 0; h < 18; h++) {
            x.same(1, h == hole ? 4 : 5);
        }
        x.card(1, 0, 7);
    }

    private static void tell() {
        Book x = new Book();
        for (int i = 1; i <= 20; i++) {
            due("tell", x.tell(i % 2 == 0 ? Integer.MIN_VALUE : Integer.MAX_VALUE), i);
        }
        due("the 21st", x.tell(0), FULL);
        due("20 wait", x.count(5), 20);
        x.check(0, 0);
        due("from nothing", x.tell(5), 1);
    }

    private static void check() {
        Book x = new Book();
        due("nothing told", x.check(0, 0), 1);
        x.tell(540);
        due("the number alone", x.check(0, 0), 0);
        due("gone", x.count(5), 0);
        x.aways(0, 0, 90, 80, 80, 100, 100, 100);
        // six make two: cards 1 and 2; 80 less 10
        int[][] told = {{1, 2, 70}, {1, 2, 70, 0}, {1, 2}, {1, 2, 71}, {1, 3, 70}, {2, 1, 70}, {1}, {}, {1, 2, 71, 5}};
        int[] want = {0, 99, 3, 3, 2, 1, 2, 1, 3};
        for (int i = 0; i < told.length; i++) {
            for (int v : told[i]) {
                x.tell(v);
            }
            due("told row " + i, x.check(0, 6), want[i]);
            due("gone", x.count(5), 0);
        }
        for (int i = 0; i < 20; i++) {
            x.tell(540);
        }
        due("20 told", x.check(1, 6), 99);
        x.tell(540);
        due("player 12", x.check(12, 0), BEYOND);
        due("gone, too", x.count(5), 0);
        x.tell(540);
        due("day 10000", x.check(0, 10000), BEYOND);
        due("gone, too", x.count(5), 0);
        for (int wild : WILD) {
            due("player", x.check(wild, 0), BEYOND);
            due("day", x.check(0, wild), BEYOND);
        }
    }

    private static void count() {
        Book x = new Book();
        x.putCard(0, 0, 0, 4);
        x.putNine(1, 0, 4);
        x.putNine(2, 0, 4);
        x.putNine(1, 1, 4);
        x.away(3, 0, 0);
        x.same(18, 0);
        x.card(4, 0, 0);
        x.strike(0, true);
        x.strike(5, true);
        x.same(3, 4);
        x.tell(1);
        x.tell(1);
        int[] want = {6, 2, 2, 1, 3, 2};
        for (int what = 0; what < 6; what++) {
            due("count " + what, x.count(what), want[what]);
        }
        x.strike(2, true);
        due("a void one doesn't wait", x.count(3), 0);
        x.strike(3, true);
        due("the other of its pair waits", x.count(3), 1);
        due("one with a mark", x.count(2), 1);
        due("what 6", x.count(6), BEYOND);
        for (int wild : WILD) {
            due("wild", x.count(wild), BEYOND);
        }
    }

    private static void undo() {
        Book x = new Book();
        due("none", x.undo(), NONE);
        x.aways(0, 10, 100, 100);
        x.away(0, 5, 60);
        due("number", x.number(0, 20), 40);
        due("the latest by number, not by day", x.undo(), 2);
        due("number", x.number(0, 20), 540);
        due("card 2 is no more", x.mark(2), BEYOND);
        due("its number comes again", x.away(1, 3, 7), 2);
        due("with another mark", x.mark(2), 7);
        x.putNine(4, 0, 4);
        x.putNine(4, 1, 4);
        due("joined", x.joined(3), 4);
        x.same(4, 4);
        due("undo", x.undo(), 4);
        due("it waits again", x.joined(3), NONE);
        due("holes stay", x.count(4), 4);
        for (int left = 3; left >= 0; left--) {
            due("undo", x.undo(), left);
        }
        due("none", x.undo(), NONE);
        due("number", x.number(0, 20), 540);
    }

    private static void found() {
        Book x = new Book();
        x.course(9, 0, 0);
        x.undo();
        x.undo();
        x.holes(0, -1);
        x.holes(0, -1);
        x.holes(0, -1);
        x.away(0, 0, 0);
        for (int i = 0; i < 4; i++) {
            x.half(0);
        }
        x.strike(0, true);
        for (int i = 0; i < 6; i++) {
            x.mark(0);
        }
        for (int i = 0; i < 25; i++) {
            x.tell(0);
        }
        int[] want = {1, 2, 4, 3, 5, 6};
        for (int i = 0; i < 6; i++) {
            due("found " + i, x.found(BEYOND - i), want[i]);
        }
        due("-100000", x.found(-100000), BEYOND);
        due("-100007", x.found(-100007), BEYOND);
        due("0", x.found(0), BEYOND);
        due("least", x.found(Integer.MIN_VALUE), BEYOND);
        due("most", x.found(Integer.MAX_VALUE), BEYOND);
        due("counted, too", x.found(BEYOND), 6);
        due("an answer like a finding", x.strokes(0, 18 * NONE, 0), NONE);
        due("isn't one", x.found(NONE), 2);
        x.tell(0);
        x.check(12, 0);
        due("check's", x.found(BEYOND), 7);
    }

    public static void main(String[] args) {
        Runnable[] tests = {
            PromiseTests::newObject, PromiseTests::course, PromiseTests::hole, PromiseTests::right,
            PromiseTests::about, PromiseTests::holes, PromiseTests::pickUp, PromiseTests::card,
            PromiseTests::nine, PromiseTests::away, PromiseTests::strike, PromiseTests::ask,
            PromiseTests::as, PromiseTests::at, PromiseTests::adjusted, PromiseTests::mark,
            PromiseTests::half, PromiseTests::joined, PromiseTests::number, PromiseTests::raw,
            PromiseTests::last, PromiseTests::makes, PromiseTests::given, PromiseTests::strokes,
            PromiseTests::score, PromiseTests::points, PromiseTests::match, PromiseTests::place,
            PromiseTests::tell, PromiseTests::check, PromiseTests::count, PromiseTests::undo,
            PromiseTests::found};
        for (int i = 0; i < tests.length; i++) {
            Tally.test("promise " + (i + 1), tests[i]);
        }
        Tally.end();
    }
}
