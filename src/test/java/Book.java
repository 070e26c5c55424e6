/**
 * A ClubStrokes with short ways to put down cards, that keeps a test within the 512 calls for
 * which the document promises anything, and knows what found() is to tell.
 */
final class Book {
    static final int BEYOND = -100001, NONE = -100002, KIND = -100003;
    static final int SIZE = -100004, FULL = -100005, VOID = -100006;
    static final int MOST_CALLS = 512;

    private final ClubStrokes club = new ClubStrokes();
    private final int[] findings = new int[6];
    private int calls;

    int calls() {
        return calls;
    }

    /** How many calls on this book have answered the finding. */
    int answered(int finding) {
        return findings[BEYOND - finding];
    }

    private int counted(int answer) {
        calls++;
        if (calls > MOST_CALLS) {
            Tally.fault("the test makes more than 512 calls on one object");
        }
        if (answer <= BEYOND && answer >= VOID) {
            findings[BEYOND - answer]++;
        }
        return answer;
    }

    // ---- short ways

    /** Holes: a digit to f each, 0 for one not played, p for a PICK-UP; blanks are passed over. */
    Book row(String shots) {
        String holes = shots.replace(" ", "");
        int ahead = 0;
        for (int from = 0; from < holes.length(); from += 8) {
            int n = Math.min(8, holes.length() - from);
            long w = 0;
            for (int i = n - 1; i >= 0; i--) {
                char hole = holes.charAt(from + i);
                w = w << 4 | (hole == 'p' ? 1 : Character.digit(hole, 16));
            }
            ahead = holes(w, n) - n;
            for (int i = 0; i < n; i++) {
                if (holes.charAt(from + i) == 'p') {
                    pickUp(ahead + i);
                }
            }
        }
        return this;
    }

    /** Holes that all have the same STROKES (0: not played; -1: PICK-UPS). */
    Book same(int n, int shots) {
        return row((shots < 0 ? "p" : Integer.toHexString(shots)).repeat(n));
    }

    int putCard(int player, int course, int day, int shots) {
        return same(18, shots).card(player, course, day);
    }

    /** The first nine of course 0. */
    int putNine(int player, int day, int shots) {
        return same(9, shots).nine(player, 0, day, true);
    }

    /** AWAYS of one player, one a day from a day on. */
    Book aways(int player, int day, int... marks) {
        for (int i = 0; i < marks.length; i++) {
            away(player, day + i, marks[i]);
        }
        return this;
    }

    /** AWAYS of one player, all of one day. */
    Book awaysOn(int player, int day, int... marks) {
        for (int mark : marks) {
            away(player, day, mark);
        }
        return this;
    }

    Book tellAll(int... numbers) {
        for (int v : numbers) {
            tell(v);
        }
        return this;
    }

    static int[] times(int n, int value) {
        int[] row = new int[n];
        java.util.Arrays.fill(row, value);
        return row;
    }

    // ---- the face

    int course(int c, int rating, int slope) {
        return counted(club.course(c, rating, slope));
    }

    int hole(int c, int h, int par, int rank) {
        return counted(club.hole(c, h, par, rank));
    }

    int right(int c, int day, int right) {
        return counted(club.right(c, day, right));
    }

    int about(int c, int what) {
        return counted(club.about(c, what));
    }

    int holes(long w, int n) {
        return counted(club.holes(w, n));
    }

    int pickUp(int i) {
        return counted(club.pickUp(i));
    }

    int card(int player, int course, int day) {
        return counted(club.card(player, course, day));
    }

    int nine(int player, int course, int day, boolean front) {
        return counted(club.nine(player, course, day, front));
    }

    int away(int player, int day, int mark) {
        return counted(club.away(player, day, mark));
    }

    int strike(int card, boolean out) {
        return counted(club.strike(card, out));
    }

    int ask(int card, int what) {
        return counted(club.ask(card, what));
    }

    int as(int card, int kind) {
        return counted(club.as(card, kind));
    }

    int at(int card, int hole) {
        return counted(club.at(card, hole));
    }

    int adjusted(int card, int hole) {
        return counted(club.adjusted(card, hole));
    }

    int mark(int card) {
        return counted(club.mark(card));
    }

    int half(int card) {
        return counted(club.half(card));
    }

    int joined(int card) {
        return counted(club.joined(card));
    }

    int number(int player, int day) {
        return counted(club.number(player, day));
    }

    int raw(int player, int day, boolean low) {
        return counted(club.raw(player, day, low));
    }

    int last(int player, int day) {
        return counted(club.last(player, day));
    }

    int makes(int player, int day, int i) {
        return counted(club.makes(player, day, i));
    }

    int given(int player, int course, int day) {
        return counted(club.given(player, course, day));
    }

    /** Not counted as a finding where course and hole are: what is given may be any number. */
    int strokes(int course, int g, int hole) {
        int answer = club.strokes(course, g, hole);
        boolean refused = course < 0 || course > 3 || hole < 0 || hole > 17;
        counted(refused ? answer : 0);
        return answer;
    }

    int score(int card, boolean net) {
        return counted(club.score(card, net));
    }

    int points(int card) {
        return counted(club.points(card));
    }

    int match(int a, int b) {
        return counted(club.match(a, b));
    }

    int place(int card) {
        return counted(club.place(card));
    }

    int tell(int v) {
        return counted(club.tell(v));
    }

    int check(int player, int day) {
        return counted(club.check(player, day));
    }

    int count(int what) {
        return counted(club.count(what));
    }

    int undo() {
        return counted(club.undo());
    }

    int found(int finding) {
        return counted(club.found(finding));
    }
}
