import java.util.ArrayList;
import java.util.List;
import java.util.function.Supplier;

/**
 * "One that answers a finding changes nothing but what found() tells": of two books made alike, one
 * is also asked what must be refused; then both have to answer everything alike.
 */
public final class RefusedCallTests {
    private static final int BEYOND = Book.BEYOND, NONE = Book.NONE, KIND = Book.KIND;
    private static final int SIZE = Book.SIZE, FULL = Book.FULL, VOID = Book.VOID;
    private static final int LEAST = Integer.MIN_VALUE, MOST = Integer.MAX_VALUE;
    private static final int[] DAYS = {0, 11, 31, 41, 60, 400, 9999};

    private interface Act {
        int on(Book x);
    }

    private record Question(String name, Act act) {
    }

    // ---- books

    /** Cards of each kind, some VOID, joined, waiting or without a MARK; no holes wait, two numbers do. */
    private static Book lively() {
        Book x = new Book();
        x.course(0, 705, 127);
        x.hole(0, 3, 5, 9);
        x.hole(0, 12, 3, 1);
        x.course(1, 688, 98);
        x.right(0, 10, 2);
        x.right(1, 30, -1);
        x.right(0, 40, 3);
        x.row("4567p5450 654345676").card(0, 0, 10);
        x.row("455554444 455556443").card(1, 0, 10);
        x.row("5546p5460").nine(0, 0, 11, true);
        x.row("444565554").nine(0, 1, 30, false);
        x.row("543456755").nine(0, 0, 40, true);
        x.aways(0, 12, 150, 120, 133);
        x.row("555665554 455556447").card(0, 0, 50);
        x.row("444444444 555555555").card(1, 0, 10);
        x.strike(9, true);
        x.row("456000456").nine(2, 2, 60, false);
        x.row("456000456 4p56704p0").card(2, 3, 60);
        x.tell(x.makes(0, 60, 0));
        x.tell(x.makes(0, 60, 1));
        return x;
    }

    private static final int A_CARD = 0, A_SHORT = 2, IT_WAITS = 4, AN_AWAY = 5, A_VOID = 9, SIX_HOLES = 10, THIRTEEN = 11, NO_CARD = 12;

    private static Book lively(String holesThatWait) {
        return lively().row(holesThatWait);
    }

    private static Book lively7() {
        return lively("12p450f");
    }

    private static Book lively9() {
        return lively("12p450f43");
    }

    private static Book lively12() {
        return lively("12p450f43 567");
    }

    private static Book lively18() {
        return lively("12p450f43 5678p9a01");
    }

    /** 60 cards, 30 times a RIGHT, 20 numbers. */
    private static Book full(String holesThatWait) {
        Book x = lively();
        x.aways(3, 100, Book.times(25, 123)).aways(4, 9970, Book.times(23, 77));
        for (int i = 3; i < 30; i++) {
            x.right(i % 4, 100 + i, 1 + i % 3);
        }
        for (int i = 2; i < 20; i++) {
            x.tell(i);
        }
        return x.row(holesThatWait);
    }

    private static Book full9() {
        return full("12p450f43");
    }

    private static Book full18() {
        return full("12p450f43 5678p9a01");
    }

    // ---- what both are asked

    private static List<Question> questions(int cards) {
        List<Question> all = new ArrayList<>();
        for (int c = 0; c < 4; c++) {
            aboutCourse(all, c);
        }
        for (int what = 0; what < 6; what++) {
            int w = what;
            all.add(new Question("count " + w, x -> x.count(w)));
        }
        for (int card = 0; card < cards; card++) {
            aboutCard(all, card);
            if (card < 12) {
                aboutHoles(all, card);
            }
        }
        for (int player = 0; player < 12; player++) {
            aboutPlayer(all, player);
        }
        return all;
    }

    private static void aboutCourse(List<Question> all, int c) {
        for (int what = 0; what < 4; what++) {
            int w = what;
            all.add(new Question("about " + c + ", " + w, x -> x.about(c, w)));
        }
        for (int hole = 0; hole < 18; hole++) {
            int h = hole;
            all.add(new Question("PAR " + c + ", " + h, x -> x.about(c, 100 + h)));
            all.add(new Question("RANK " + c + ", " + h, x -> x.about(c, 200 + h)));
        }
    }

    private static void aboutCard(List<Question> all, int card) {
        for (int what = 0; what < 6; what++) {
            int w = what;
            all.add(new Question("ask " + card + ", " + w, x -> x.ask(card, w)));
        }
        for (int kind = 0; kind < 3; kind++) {
            int k = kind;
            all.add(new Question("as " + card + ", " + k, x -> x.as(card, k)));
        }
        all.add(new Question("mark " + card, x -> x.mark(card)));
        all.add(new Question("half " + card, x -> x.half(card)));
        all.add(new Question("joined " + card, x -> x.joined(card)));
        all.add(new Question("score " + card, x -> x.score(card, false)));
        all.add(new Question("net score " + card, x -> x.score(card, true)));
        all.add(new Question("points " + card, x -> x.points(card)));
        all.add(new Question("place " + card, x -> x.place(card)));
        all.add(new Question("match 1, " + card, x -> x.match(1, card)));
        all.add(new Question("match " + card + ", 8", x -> x.match(card, 8)));
    }

    private static void aboutHoles(List<Question> all, int card) {
        for (int hole = 0; hole < 18; hole++) {
            int h = hole;
            all.add(new Question("at " + card + ", " + h, x -> x.at(card, h)));
            all.add(new Question("adjusted " + card + ", " + h, x -> x.adjusted(card, h)));
        }
    }

    private static void aboutPlayer(List<Question> all, int p) {
        for (int day : DAYS) {
            all.add(new Question("number " + p + ", " + day, x -> x.number(p, day)));
            all.add(new Question("RAW " + p + ", " + day, x -> x.raw(p, day, false)));
            all.add(new Question("LOW " + p + ", " + day, x -> x.raw(p, day, true)));
            all.add(new Question("last " + p + ", " + day, x -> x.last(p, day)));
            all.add(new Question("given " + p + ", " + day, x -> x.given(p, 0, day)));
            for (int i = 0; i < 3; i++) {
                int n = i;
                all.add(new Question("makes " + p + ", " + day + ", " + n, x -> x.makes(p, day, n)));
            }
        }
    }

    // ---- what shows the rest by changing it

    /** RIGHT where it may be set, and how much room there is for it. */
    private static List<Question> rights() {
        List<Question> all = new ArrayList<>();
        for (int i = 0; i < 31; i++) {
            int day = 7000 + i;
            all.add(new Question("room for RIGHT", x -> x.right(3, day, 1)));
        }
        for (int c = 0; c < 4; c++) {
            int course = c;
            for (int day : new int[] {0, 10, 30, 40, 99, 9998, 9999}) {
                all.add(new Question("RIGHT of " + c + ", " + day, x -> x.right(course, day, 0)));
            }
            for (int i = 3; i < 30; i++) {
                int day = 100 + i;
                all.add(new Question("RIGHT of " + c + ", " + day, x -> x.right(course, day, 0)));
            }
        }
        return all;
    }

    /** The holes that wait, put down on a card. */
    private static List<Question> waitingHoles() {
        List<Question> all = new ArrayList<>();
        all.add(new Question("undo", Book::undo));
        for (int i = 0; i < 18; i++) {
            all.add(new Question("one hole more", x -> x.holes(8L, 1)));
        }
        all.add(new Question("card", x -> x.card(5, 3, 77)));
        for (int h = 0; h < 18; h++) {
            int hole = h;
            all.add(new Question("a hole that waited, " + h, x -> x.at(x.count(0) - 1, hole)));
        }
        return all;
    }

    /** The numbers that wait, and whether one more does: two that make RAW, and NUMBER behind. */
    private static List<Question> toldNumbers(boolean more) {
        List<Question> all = new ArrayList<>();
        if (more) {
            all.add(new Question("one number more", x -> x.tell(x.number(0, 60))));
        }
        all.add(new Question("check", x -> x.check(0, 60)));
        all.add(new Question("check again", x -> x.check(0, 60)));
        return all;
    }

    private static List<Question> cardsByChange() {
        List<Question> all = new ArrayList<>();
        for (int card = 0; card < 12; card++) {
            int c = card;
            all.add(new Question("strike " + c, x -> x.strike(c, true)));
            all.add(new Question("NUMBER", x -> x.number(0, 60)));
        }
        for (int i = 0; i < 61; i++) {
            all.add(new Question("undo", Book::undo));
        }
        all.add(new Question("away", x -> x.away(0, 9, 5)));
        all.add(new Question("its MARK", x -> x.mark(0)));
        return all;
    }

    // ---- the tests

    /** An act that is refused, against nothing at all. */
    private static void refused(String call, int finding, Supplier<Book> book, Act act) {
        Tally.test(call + " is refused", () -> compare(call, finding, book, act, x -> 0));
    }

    private static void compare(String call, int finding, Supplier<Book> book, Act act, Act instead) {
        Book sample = book.get();
        List<Question> all = questions(sample.count(0));
        int atOnce = Book.MOST_CALLS - sample.calls() - 20;
        for (int from = 0; from < all.size(); from += atOnce) {
            ask(call, finding, book, act, instead, all.subList(from, Math.min(all.size(), from + atOnce)));
        }
        ask(call, finding, book, act, instead, rights());
        ask(call, finding, book, act, instead, waitingHoles());
        ask(call, finding, book, act, instead, toldNumbers(true));
        ask(call, finding, book, act, instead, toldNumbers(false));
        ask(call, finding, book, act, instead, cardsByChange());
    }

    private static void ask(String call, int finding, Supplier<Book> book, Act act, Act instead, List<Question> questions) {
        Book plain = book.get();
        Book tried = book.get();
        instead.on(plain);
        Tally.due(call, act.on(tried), finding);
        for (int f = BEYOND; f >= VOID; f--) {
            Tally.due("found " + f + " behind " + call, tried.found(f), plain.found(f) + (f == finding ? 1 : 0));
        }
        for (Question q : questions) {
            int want = q.act.on(plain);
            Tally.due(q.name + " behind " + call, q.act.on(tried), want);
        }
    }

    private static void courses() {
        Supplier<Book> b = RefusedCallTests::lively7;
        refused("course(4, ..)", BEYOND, b, x -> x.course(4, 600, 100));
        refused("course(-1, ..)", BEYOND, b, x -> x.course(-1, 600, 100));
        refused("course, RATING 499", BEYOND, b, x -> x.course(0, 499, 100));
        refused("course, RATING 801", BEYOND, b, x -> x.course(0, 801, 100));
        refused("course, SLOPE 54", BEYOND, b, x -> x.course(0, 600, 54));
        refused("course, SLOPE 156", BEYOND, b, x -> x.course(0, 600, 156));
        refused("hole of course 4", BEYOND, b, x -> x.hole(4, 0, 3, 18));
        refused("hole 18", BEYOND, b, x -> x.hole(0, 18, 3, 18));
        refused("hole -1", BEYOND, b, x -> x.hole(0, -1, 3, 18));
        refused("hole, PAR 2", BEYOND, b, x -> x.hole(0, 0, 2, 18));
        refused("hole, PAR 6", BEYOND, b, x -> x.hole(0, 0, 6, 18));
        refused("hole, RANK 0", BEYOND, b, x -> x.hole(0, 0, 3, 0));
        refused("hole, RANK 19", BEYOND, b, x -> x.hole(0, 0, 3, 19));
        refused("right of course 4", BEYOND, b, x -> x.right(4, 10, 1));
        refused("right on day 10000", BEYOND, b, x -> x.right(0, 10000, 1));
        refused("right on day -1", BEYOND, b, x -> x.right(0, -1, 1));
        refused("right 4", BEYOND, b, x -> x.right(0, 10, 4));
        refused("right -2", BEYOND, b, x -> x.right(0, 10, -2));
        refused("a 31st right", FULL, RefusedCallTests::full18, x -> x.right(0, 10 + 1, 1));
        refused("a 31st right, of a card's day", FULL, RefusedCallTests::full18, x -> x.right(0, 50, -1));
        refused("about(4, 0)", BEYOND, b, x -> x.about(4, 0));
        refused("about(0, 4)", BEYOND, b, x -> x.about(0, 4));
    }

    private static void holes() {
        refused("holes, n -1", SIZE, RefusedCallTests::lively7, x -> x.holes(-1L, -1));
        refused("holes, the least n", SIZE, RefusedCallTests::lively7, x -> x.holes(-1L, LEAST));
        refused("holes, n 9", BEYOND, RefusedCallTests::lively7, x -> x.holes(-1L, 9));
        refused("holes, the most n", BEYOND, RefusedCallTests::lively7, x -> x.holes(-1L, MOST));
        refused("7 holes of which 6 would do", FULL, RefusedCallTests::lively12, x -> x.holes(-1L, 7));
        refused("one hole above 18", FULL, RefusedCallTests::lively18, x -> x.holes(-1L, 1));
        refused("pickUp(7) of 7", BEYOND, RefusedCallTests::lively7, x -> x.pickUp(7));
        refused("pickUp(-1)", BEYOND, RefusedCallTests::lively7, x -> x.pickUp(-1));
        refused("pickUp(18) of 18", BEYOND, RefusedCallTests::lively18, x -> x.pickUp(18));
        refused("pickUp(0) of none", BEYOND, RefusedCallTests::lively, x -> x.pickUp(0));
    }

    private static void cards() {
        Supplier<Book> b = RefusedCallTests::lively18;
        refused("card of player 12", BEYOND, b, x -> x.card(12, 0, 10));
        refused("card of player -1", BEYOND, b, x -> x.card(-1, 0, 10));
        refused("card on course 4", BEYOND, b, x -> x.card(0, 4, 10));
        refused("card on day 10000", BEYOND, b, x -> x.card(0, 0, 10000));
        refused("card on day -1", BEYOND, b, x -> x.card(0, 0, -1));
        refused("card of 12 holes", SIZE, RefusedCallTests::lively12, x -> x.card(0, 0, 10));
        refused("card of 9 holes", SIZE, RefusedCallTests::lively9, x -> x.card(0, 0, 10));
        refused("card of no holes", SIZE, RefusedCallTests::lively, x -> x.card(0, 0, 10));
        refused("a 61st card", FULL, RefusedCallTests::full18, x -> x.card(0, 0, 10));
        for (boolean front : new boolean[] {true, false}) {
            Supplier<Book> n = RefusedCallTests::lively9;
            refused("nine of player 12", BEYOND, n, x -> x.nine(12, 0, 10, front));
            refused("nine on course 4", BEYOND, n, x -> x.nine(0, 4, 10, front));
            refused("nine on day 10000", BEYOND, n, x -> x.nine(0, 0, 10000, front));
            refused("nine of 18 holes", SIZE, b, x -> x.nine(0, 0, 10, front));
            refused("nine of 12 holes", SIZE, RefusedCallTests::lively12, x -> x.nine(0, 0, 10, front));
            refused("nine of 7 holes", SIZE, RefusedCallTests::lively7, x -> x.nine(0, 0, 10, front));
            refused("nine as a 61st card", FULL, RefusedCallTests::full9, x -> x.nine(0, 0, 10, front));
        }
        refused("away of player 12", BEYOND, b, x -> x.away(12, 10, 5));
        refused("away of player -1", BEYOND, b, x -> x.away(-1, 10, 5));
        refused("away on day 10000", BEYOND, b, x -> x.away(0, 10000, 5));
        refused("away of -201", BEYOND, b, x -> x.away(0, 10, -201));
        refused("away of 901", BEYOND, b, x -> x.away(0, 10, 901));
        refused("away as a 61st card", FULL, RefusedCallTests::full9, x -> x.away(0, 10, 5));
        refused("strike of no card", BEYOND, b, x -> x.strike(NO_CARD, true));
        refused("strike of card -1", BEYOND, b, x -> x.strike(-1, true));
        refused("strike of card 60", BEYOND, RefusedCallTests::full9, x -> x.strike(60, true));
    }

    private static void cardsAsked() {
        Supplier<Book> b = RefusedCallTests::lively7;
        refused("ask of no card", BEYOND, b, x -> x.ask(NO_CARD, 0));
        refused("ask of another what", BEYOND, b, x -> x.ask(A_CARD, 6));
        refused("ask, course of an AWAY", NONE, b, x -> x.ask(AN_AWAY, 4));
        refused("ask, holes of an AWAY", NONE, b, x -> x.ask(AN_AWAY, 5));
        refused("as of no card", BEYOND, b, x -> x.as(NO_CARD, 0));
        refused("as of another kind", BEYOND, b, x -> x.as(A_CARD, 3));
        refused("as, a CARD as SHORT", KIND, b, x -> x.as(A_CARD, 1));
        refused("at of no card", BEYOND, b, x -> x.at(NO_CARD, 0));
        refused("at of an AWAY", KIND, b, x -> x.at(AN_AWAY, 0));
        refused("at of no hole", BEYOND, b, x -> x.at(A_SHORT, 9));
        refused("adjusted of no card", BEYOND, b, x -> x.adjusted(NO_CARD, 0));
        refused("adjusted of an AWAY", KIND, b, x -> x.adjusted(AN_AWAY, 0));
        refused("adjusted of no hole", BEYOND, b, x -> x.adjusted(A_CARD, 18));
        refused("adjusted of a VOID one", VOID, b, x -> x.adjusted(A_VOID, 0));
        refused("mark of no card", BEYOND, b, x -> x.mark(NO_CARD));
        refused("mark of a VOID one", VOID, b, x -> x.mark(A_VOID));
        refused("mark of 13 holes", NONE, b, x -> x.mark(THIRTEEN));
        refused("half of no card", BEYOND, b, x -> x.half(NO_CARD));
        refused("half of a CARD", KIND, b, x -> x.half(A_CARD));
        refused("half of six holes", NONE, b, x -> x.half(SIX_HOLES));
        refused("joined of no card", BEYOND, b, x -> x.joined(NO_CARD));
        refused("joined of an AWAY", KIND, b, x -> x.joined(AN_AWAY));
        refused("joined of one that waits", NONE, b, x -> x.joined(IT_WAITS));
        Supplier<Book> struck = () -> {
            Book x = lively7();
            x.strike(A_SHORT, true);
            return x;
        };
        refused("half of a VOID one", VOID, struck, x -> x.half(A_SHORT));
        refused("joined of a VOID one", VOID, struck, x -> x.joined(A_SHORT));
    }

    private static void numbersAndForms() {
        Supplier<Book> b = RefusedCallTests::lively7;
        refused("number of player 12", BEYOND, b, x -> x.number(12, 60));
        refused("number on day 10000", BEYOND, b, x -> x.number(0, 10000));
        refused("raw of player 12", BEYOND, b, x -> x.raw(12, 60, false));
        refused("raw of no RAW", NONE, b, x -> x.raw(1, 60, false));
        refused("raw of no LOW", NONE, b, x -> x.raw(0, 60, true));
        refused("last of player 12", BEYOND, b, x -> x.last(12, 60));
        refused("makes of player 12", BEYOND, b, x -> x.makes(12, 60, 0));
        refused("makes of none such", NONE, b, x -> x.makes(0, 60, 2));
        refused("makes of -1", NONE, b, x -> x.makes(0, 60, -1));
        refused("given of player 12", BEYOND, b, x -> x.given(12, 0, 60));
        refused("given on course 4", BEYOND, b, x -> x.given(0, 4, 60));
        refused("strokes of course 4", BEYOND, b, x -> x.strokes(4, 10, 0));
        refused("strokes at hole 18", BEYOND, b, x -> x.strokes(0, 10, 18));
        refused("score of no card", BEYOND, b, x -> x.score(NO_CARD, true));
        refused("score of an AWAY", KIND, b, x -> x.score(AN_AWAY, true));
        refused("score of a PICK-UP", NONE, b, x -> x.score(A_CARD, true));
        refused("points of no card", BEYOND, b, x -> x.points(NO_CARD));
        refused("points of an AWAY", KIND, b, x -> x.points(AN_AWAY));
        refused("match with no card", BEYOND, b, x -> x.match(A_CARD, NO_CARD));
        refused("match of no card", BEYOND, b, x -> x.match(NO_CARD, A_CARD));
        refused("match with a SHORT", KIND, b, x -> x.match(A_CARD, A_SHORT));
        refused("match of unlike courses", KIND, b, x -> x.match(A_CARD, THIRTEEN));
        refused("place of no card", BEYOND, b, x -> x.place(NO_CARD));
        refused("place of a SHORT", KIND, b, x -> x.place(A_SHORT));
    }

    private static void told() {
        refused("a 21st number", FULL, RefusedCallTests::full9, x -> x.tell(540));
        refused("count of another what", BEYOND, RefusedCallTests::lively7, x -> x.count(6));
        refused("undo of no card", NONE, Book::new, Book::undo);
        refused("undo of no card, holes and numbers wait", NONE, () -> new Book().row("4p0").tellAll(5, 540), Book::undo);
        refused("found of another number", BEYOND, RefusedCallTests::lively7, x -> x.found(0));
        // the one that says itself what it changes: the numbers are gone, as behind a check that is answered
        Act answered = x -> x.check(0, 60);
        for (Supplier<Book> book : List.<Supplier<Book>>of(RefusedCallTests::lively7, RefusedCallTests::full9)) {
            Tally.test("check is refused: BEYOND (they are gone, too), and nothing else", () -> {
                compare("check of player 12", BEYOND, book, x -> x.check(12, 60), answered);
                compare("check of player -1", BEYOND, book, x -> x.check(-1, 60), answered);
                compare("check on day 10000", BEYOND, book, x -> x.check(0, 10000), answered);
                compare("check on day -1", BEYOND, book, x -> x.check(0, -1), answered);
            });
        }
    }

    /** What the tests above rest on: the books are what their names say. */
    private static void books() {
        Tally.test("the books are as these tests need them", () -> {
            Book x = lively7();
            Tally.due("cards", x.count(0), NO_CARD);
            Tally.due("VOID", x.count(1), 1);
            Tally.due("it waits", x.joined(IT_WAITS), NONE);
            Tally.due("holes", x.count(4), 7);
            Tally.due("numbers", x.count(5), 2);
            x.tell(x.number(0, 60));
            Tally.due("they are those that make RAW", x.check(0, 60), 0);
            Book y = full18();
            Tally.due("cards", y.count(0), 60);
            Tally.due("holes", y.count(4), 18);
            Tally.due("numbers", y.count(5), 20);
            Tally.due("no finding on the way", y.answered(BEYOND) + y.answered(NONE) + y.answered(FULL) + y.answered(SIZE), 0);
        });
    }

    public static void main(String[] args) {
        books();
        courses();
        holes();
        cards();
        cardsAsked();
        numbersAndForms();
        told();
        Tally.end();
    }
}
