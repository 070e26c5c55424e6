/**
 * The book of a club: courses, cards, and the numbers that follow from them.
 *
 * Nothing that follows from the cards is carried along by the calls: a change only makes the
 * players concerned stale, and the next question reckons them anew, from their first card on. So a
 * card that comes late, is void or is undone needs no care of its own.
 */
public final class ClubStrokes {
    private static final int BEYOND = -100001;
    private static final int NONE = -100002;
    private static final int KIND = -100003;
    private static final int SIZE = -100004;
    private static final int FULL = -100005;
    private static final int VOID = -100006;
    private static final int FINDINGS = 6;

    private static final int CARD = 0;
    private static final int SHORT = 1;
    private static final int AWAY = 2;

    private static final int COURSES = 4;
    private static final int PLAYERS = 12;
    private static final int LAST_DAY = 9999;
    private static final int MOST_CARDS = 60;
    private static final int MOST_RIGHTS = 30;
    private static final int MOST_TOLD = 20;
    private static final int HOLES = 18;
    private static final int NINE = 9;
    private static final int HOLES_A_CALL = 8;
    private static final int PICK_UP = -1;

    private static final int USUAL_SLOPE = 113;
    private static final int HIGHEST_NUMBER = 540;
    private static final int MOST_LAST = 20;
    private static final int MOST_MAKING = 8;
    private static final int PLAYED_FOR_MARK = 14;
    private static final int PLAYED_FOR_HALF = 7;
    private static final int DAYS_OF_WAITING = 60;
    private static final int DAYS_OF_LOW = 364;
    private static final int SOFT_CAP = 30;
    private static final int HARD_CAP = 50;

    /** By how many LAST has: how many of them make RAW, and what is taken off. */
    private static final int[] MAKING =
            {0, 0, 0, 1, 1, 1, 2, 2, 2, 3, 3, 3, 4, 4, 4, 5, 5, 6, 6, 7, 8};
    private static final int[] TAKEN_OFF =
            {0, 0, 0, 20, 10, 0, 10, 0, 0, 0, 0, 0, 0, 0, 0, 0, 0, 0, 0, 0, 0};
    /** The holes from which on POINTS are compared, in turn, for a place. */
    private static final int[] PLACED_FROM = {0, 9, 12, 15, 17};
    private static final int[] NO_HOLES = {};

    private final Course[] courses = new Course[COURSES];
    private final Player[] players = new Player[PLAYERS];
    private final Card[] cards = new Card[MOST_CARDS];
    private int cardCount;
    private final Rights rights = new Rights();
    private final Best best = new Best();
    private final Row waitingHoles = new Row(HOLES);
    private final Row toldNumbers = new Row(MOST_TOLD);
    private final int[] answered = new int[FINDINGS];

    public ClubStrokes() {
        for (int c = 0; c < COURSES; c++) {
            courses[c] = new Course(c);
        }
        for (int p = 0; p < PLAYERS; p++) {
            players[p] = new Player();
        }
    }

    // ---- courses

    public int course(int c, int rating, int slope) {
        Course course = courseOf(c);
        if (course == null || !isWithin(rating, 500, 800) || !isWithin(slope, 55, 155)) {
            return refuse(BEYOND);
        }
        course.rating = rating;
        course.slope = slope;
        makeAllStale();
        return 1;
    }

    public int hole(int c, int h, int par, int rank) {
        Course course = courseOf(c);
        if (course == null || !isHole(h) || !isWithin(par, 3, 5) || !isWithin(rank, 1, HOLES)) {
            return refuse(BEYOND);
        }
        int had = course.rankAt(h);
        course.setHole(h, par, rank);
        makeAllStale();
        return had;
    }

    public int right(int c, int day, int right) {
        if (courseOf(c) == null || !isDay(day) || !isWithin(right, -1, 3)) {
            return refuse(BEYOND);
        }
        int was = rights.valueFor(c, day);
        if (was == 0 && right != 0 && rights.isFull()) {
            return refuse(FULL);
        }
        rights.put(c, day, right);
        makeAllStale();
        return was;
    }

    public int about(int c, int what) {
        Course course = courseOf(c);
        if (course == null) {
            return refuse(BEYOND);
        }
        if (isWithin(what, 100, 100 + HOLES - 1)) {
            return course.parAt(what - 100);
        }
        if (isWithin(what, 200, 200 + HOLES - 1)) {
            return course.rankAt(what - 200);
        }
        switch (what) {
            case 0: return course.rating;
            case 1: return course.slope;
            case 2: return course.parsOfFirst(HOLES);
            case 3: return course.parsOfFirst(NINE);
            default: return refuse(BEYOND);
        }
    }

    // ---- cards

    public int holes(long w, int n) {
        if (n < 0) {
            return refuse(SIZE);
        }
        if (n > HOLES_A_CALL) {
            return refuse(BEYOND);
        }
        if (waitingHoles.size + n > HOLES) {
            return refuse(FULL);
        }
        for (int i = 0; i < n; i++) {
            waitingHoles.append((int) ((w >>> (4 * i)) & 15L));
        }
        return waitingHoles.size;
    }

    public int pickUp(int i) {
        if (i < 0 || i >= waitingHoles.size) {
            return refuse(BEYOND);
        }
        waitingHoles.values[i] = PICK_UP;
        return 1;
    }

    public int card(int player, int course, int day) {
        return putDown(player, course, day, CARD, 0);
    }

    public int nine(int player, int course, int day, boolean front) {
        return putDown(player, course, day, SHORT, front ? 0 : NINE);
    }

    public int away(int player, int day, int mark) {
        Player owner = playerOf(player);
        if (owner == null || !isDay(day) || !isWithin(mark, -200, 900)) {
            return refuse(BEYOND);
        }
        if (cardCount >= MOST_CARDS) {
            return refuse(FULL);
        }
        Card card = new Card(cardCount, AWAY, owner, player, day, NO_HOLES);
        card.toldMark = mark;
        return enter(card);
    }

    public int strike(int card, boolean out) {
        Card found = cardOf(card);
        if (found == null) {
            return refuse(BEYOND);
        }
        if (found.isVoid == out) {
            return 0;
        }
        found.isVoid = out;
        found.owner.isStale = true;
        return 1;
    }

    public int ask(int card, int what) {
        Card found = cardOf(card);
        if (found == null || !isWithin(what, 0, 5)) {
            return refuse(BEYOND);
        }
        if (what >= 4 && found.course == null) {
            return refuse(NONE);
        }
        switch (what) {
            case 0: return found.kind;
            case 1: return found.player;
            case 2: return found.day;
            case 3: return found.isVoid ? 1 : 0;
            case 4: return found.course.number;
            default: return found.holesPlayed();
        }
    }

    public int as(int card, int kind) {
        Card found = cardOf(card);
        if (found == null || !isWithin(kind, CARD, AWAY)) {
            return refuse(BEYOND);
        }
        if (kind != CARD && kind != found.kind) {
            return refuse(KIND);
        }
        return found.player;
    }

    public int at(int card, int hole) {
        Card found = cardOf(card);
        if (found == null) {
            return refuse(BEYOND);
        }
        int finding = found.findingAtHole(hole);
        return finding != 0 ? refuse(finding) : found.shotsAt(hole);
    }

    // ---- marks and numbers

    public int adjusted(int card, int hole) {
        Card found = cardOf(card);
        if (found == null) {
            return refuse(BEYOND);
        }
        int finding = found.findingAtHole(hole);
        if (finding != 0) {
            return refuse(finding);
        }
        if (found.isVoid) {
            return refuse(VOID);
        }
        found.owner.settle(rights, best);
        return found.adjustedAt(hole);
    }

    public int mark(int card) {
        Card found = cardOf(card);
        if (found == null) {
            return refuse(BEYOND);
        }
        if (found.isVoid) {
            return refuse(VOID);
        }
        found.owner.settle(rights, best);
        return orNone(found.mark);
    }

    public int half(int card) {
        Card found = cardOf(card);
        if (found == null) {
            return refuse(BEYOND);
        }
        int finding = found.findingAsShort();
        if (finding != 0) {
            return refuse(finding);
        }
        found.owner.settle(rights, best);
        return orNone(found.half);
    }

    public int joined(int card) {
        Card found = cardOf(card);
        if (found == null) {
            return refuse(BEYOND);
        }
        int finding = found.findingAsShort();
        if (finding != 0) {
            return refuse(finding);
        }
        found.owner.settle(rights, best);
        return found.partner == null ? refuse(NONE) : found.partner.number;
    }

    public int number(int player, int day) {
        Player owner = playerOf(player);
        if (owner == null || !isDay(day)) {
            return refuse(BEYOND);
        }
        owner.settle(rights, best);
        return owner.numberFor(day);
    }

    public int raw(int player, int day, boolean low) {
        Player owner = playerOf(player);
        if (owner == null || !isDay(day)) {
            return refuse(BEYOND);
        }
        owner.settle(rights, best);
        return orNone(low ? owner.lowFor(day) : owner.rawFor(day));
    }

    public int last(int player, int day) {
        Player owner = playerOf(player);
        if (owner == null || !isDay(day)) {
            return refuse(BEYOND);
        }
        owner.settle(rights, best);
        Card end = owner.markedBefore(day);
        return end == null ? 0 : end.lastToHere();
    }

    public int makes(int player, int day, int i) {
        Player owner = playerOf(player);
        if (owner == null || !isDay(day)) {
            return refuse(BEYOND);
        }
        owner.settle(rights, best);
        best.gather(owner.markedBefore(day));
        return i < 0 || i >= best.size ? refuse(NONE) : best.numbers[i];
    }

    public int given(int player, int course, int day) {
        Player owner = playerOf(player);
        Course played = courseOf(course);
        if (owner == null || played == null || !isDay(day)) {
            return refuse(BEYOND);
        }
        owner.settle(rights, best);
        return played.givenFor(owner.numberFor(day));
    }

    public int strokes(int course, int g, int hole) {
        Course played = courseOf(course);
        if (played == null || !isHole(hole)) {
            return refuse(BEYOND);
        }
        return played.shareAt(hole, g);
    }

    // ---- forms

    public int score(int card, boolean net) {
        Card found = cardOf(card);
        if (found == null) {
            return refuse(BEYOND);
        }
        if (found.course == null) {
            return refuse(KIND);
        }
        if (!found.isScored()) {
            return refuse(NONE);
        }
        found.owner.settle(rights, best);
        return found.shotsSum(net);
    }

    public int points(int card) {
        Card found = cardOf(card);
        if (found == null) {
            return refuse(BEYOND);
        }
        if (found.course == null) {
            return refuse(KIND);
        }
        found.owner.settle(rights, best);
        return found.pointsFrom(0);
    }

    public int match(int a, int b) {
        Card first = cardOf(a);
        Card second = cardOf(b);
        if (first == null || second == null) {
            return refuse(BEYOND);
        }
        if (first.kind != CARD || second.kind != CARD || first.course != second.course) {
            return refuse(KIND);
        }
        first.owner.settle(rights, best);
        second.owner.settle(rights, best);
        int up = 0;
        for (int h = 0; h < HOLES; h++) {
            up += wonBy(first, second, h);
            int left = HOLES - 1 - h;
            if (Math.abs(up) > left) {
                return 100 * up + left;
            }
        }
        return 0;
    }

    public int place(int card) {
        Card found = cardOf(card);
        if (found == null) {
            return refuse(BEYOND);
        }
        if (found.kind != CARD) {
            return refuse(KIND);
        }
        found.owner.settle(rights, best);
        int place = 1;
        for (int i = 0; i < cardCount; i++) {
            Card other = cards[i];
            if (other != null && other.isRivalOf(found)) {
                other.owner.settle(rights, best);
                place += isAhead(other, found) ? 1 : 0;
            }
        }
        return place;
    }

    // ---- what is told

    public int tell(int v) {
        if (toldNumbers.size >= MOST_TOLD) {
            return refuse(FULL);
        }
        toldNumbers.append(v);
        return toldNumbers.size;
    }

    public int check(int player, int day) {
        int told = toldNumbers.size;
        toldNumbers.size = 0;
        Player owner = playerOf(player);
        if (owner == null || !isDay(day)) {
            return refuse(BEYOND);
        }
        owner.settle(rights, best);
        best.gather(owner.markedBefore(day));
        for (int i = 0; i <= best.size; i++) {
            int due = i < best.size ? best.numbers[i] : owner.numberFor(day);
            if (i >= told || toldNumbers.values[i] != due) {
                return 1 + i;
            }
        }
        return told > best.size + 1 ? 99 : 0;
    }

    public int count(int what) {
        switch (what) {
            case 0: return cardCount;
            case 4: return waitingHoles.size;
            case 5: return toldNumbers.size;
            default: break;
        }
        if (!isWithin(what, 1, 3)) {
            return refuse(BEYOND);
        }
        int sum = 0;
        for (int i = 0; i < cardCount; i++) {
            Card card = cards[i];
            if (card != null) {
                card.owner.settle(rights, best);
                sum += card.isCounted(what) ? 1 : 0;
            }
        }
        return sum;
    }

    public int undo() {
        Card latest = cardOf(cardCount - 1);
        if (latest == null) {
            return refuse(NONE);
        }
        latest.owner.remove(latest);
        cardCount--;
        cards[cardCount] = null;
        return cardCount;
    }

    public int found(int finding) {
        if (!isWithin(finding, VOID, BEYOND)) {
            return refuse(BEYOND);
        }
        return answered[BEYOND - finding];
    }

    // ---- what the calls share

    /** Counted here and not by the answer: strokes() may answer such a number without a finding. */
    private int refuse(int finding) {
        if (isWithin(finding, VOID, BEYOND)) {
            answered[BEYOND - finding]++;
        }
        return finding;
    }

    private int orNone(int value) {
        return value == NONE ? refuse(NONE) : value;
    }

    private Course courseOf(int c) {
        return c >= 0 && c < COURSES ? courses[c] : null;
    }

    private Player playerOf(int p) {
        return p >= 0 && p < PLAYERS ? players[p] : null;
    }

    private Card cardOf(int n) {
        return n >= 0 && n < cardCount ? cards[n] : null;
    }

    private static boolean isWithin(int value, int least, int most) {
        return value >= least && value <= most;
    }

    private static boolean isDay(int day) {
        return isWithin(day, 0, LAST_DAY);
    }

    private static boolean isHole(int hole) {
        return hole >= 0 && hole < HOLES;
    }

    /** The greatest whole number not above the fraction and a half. */
    private static int rounded(int above, int below) {
        return below < 1 ? 0 : Math.floorDiv(2 * above + below, 2 * below);
    }

    private int putDown(int player, int course, int day, int kind, int firstHole) {
        Player owner = playerOf(player);
        Course played = courseOf(course);
        if (owner == null || played == null || !isDay(day)) {
            return refuse(BEYOND);
        }
        if (waitingHoles.size != (kind == SHORT ? NINE : HOLES)) {
            return refuse(SIZE);
        }
        if (cardCount >= MOST_CARDS) {
            return refuse(FULL);
        }
        Card card = new Card(cardCount, kind, owner, player, day, waitingHoles.takeAll());
        card.course = played;
        card.firstHole = firstHole;
        return enter(card);
    }

    private int enter(Card card) {
        if (cardCount < MOST_CARDS) {
            cards[cardCount] = card;
            cardCount++;
        }
        card.owner.insert(card);
        return card.number;
    }

    private void makeAllStale() {
        for (Player player : players) {
            if (player != null) {
                player.isStale = true;
            }
        }
    }

    /** 1: the first wins the hole; -1: the second; 0: it is halved. */
    private static int wonBy(Card first, Card second, int hole) {
        boolean firstHasShots = first.shotsAt(hole) > 0;
        boolean secondHasShots = second.shotsAt(hole) > 0;
        if (!firstHasShots || !secondHasShots) {
            return (firstHasShots ? 1 : 0) - (secondHasShots ? 1 : 0);
        }
        int less = second.netAt(hole) - first.netAt(hole);
        if (less == 0) {
            return 0;
        }
        return less > 0 ? 1 : -1;
    }

    private static boolean isAhead(Card card, Card other) {
        for (int from : PLACED_FROM) {
            int more = card.pointsFrom(from) - other.pointsFrom(from);
            if (more != 0) {
                return more > 0;
            }
        }
        return card.number < other.number;
    }

    /** Numbers in a row that wait to be taken. */
    private static final class Row {
        final int[] values;
        int size;

        Row(int most) {
            values = new int[Math.max(most, 0)];
        }

        void append(int value) {
            if (size >= 0 && size < values.length) {
                values[size] = value;
                size++;
            }
        }

        int[] takeAll() {
            int[] taken = new int[Math.max(size, 0)];
            for (int i = 0; i < taken.length && i < values.length; i++) {
                taken[i] = values[i];
            }
            size = 0;
            return taken;
        }
    }

    private static final class Course {
        final int number;
        int rating = 720;
        int slope = USUAL_SLOPE;
        private final int[] pars = new int[HOLES];
        private final int[] ranks = new int[HOLES];

        Course(int number) {
            this.number = number;
            for (int h = 0; h < HOLES; h++) {
                pars[h] = 4;
                ranks[h] = h + 1;
            }
        }

        int parAt(int hole) {
            return hole >= 0 && hole < HOLES ? pars[hole] : 0;
        }

        int rankAt(int hole) {
            return hole >= 0 && hole < HOLES ? ranks[hole] : 0;
        }

        int parsOfFirst(int n) {
            int sum = 0;
            for (int h = 0; h < n && h < HOLES; h++) {
                sum += pars[h];
            }
            return sum;
        }

        void setHole(int hole, int par, int rank) {
            if (!isHole(hole)) {
                return;
            }
            for (int h = 0; h < HOLES; h++) {
                if (ranks[h] == rank) {
                    ranks[h] = ranks[hole];
                }
            }
            ranks[hole] = rank;
            pars[hole] = par;
        }

        /** STROKES GIVEN here to one who has that NUMBER. */
        int givenFor(int clubNumber) {
            int byCourse = USUAL_SLOPE * (rating - 10 * parsOfFirst(HOLES));
            return rounded(clubNumber * slope + byCourse, 10 * USUAL_SLOPE);
        }

        /** What of STROKES GIVEN is given at a hole. */
        int shareAt(int hole, int g) {
            int each = Math.floorDiv(g, HOLES);
            return rankAt(hole) <= Math.floorMod(g, HOLES) ? each + 1 : each;
        }
    }

    /** RIGHT where it isn't 0. */
    private static final class Rights {
        private final int[] courses = new int[MOST_RIGHTS];
        private final int[] days = new int[MOST_RIGHTS];
        private final int[] values = new int[MOST_RIGHTS];
        private int size;

        boolean isFull() {
            return size >= MOST_RIGHTS;
        }

        int valueFor(int course, int day) {
            int i = indexOf(course, day);
            return i < 0 ? 0 : values[i];
        }

        void put(int course, int day, int value) {
            int i = indexOf(course, day);
            if (i >= 0) {
                change(i, value);
            } else if (value != 0 && !isFull()) {
                courses[size] = course;
                days[size] = day;
                values[size] = value;
                size++;
            }
        }

        private int indexOf(int course, int day) {
            for (int i = 0; i < size && i < MOST_RIGHTS; i++) {
                if (courses[i] == course && days[i] == day) {
                    return i;
                }
            }
            return -1;
        }

        private void change(int i, int value) {
            if (value == 0) {
                size--;
                courses[i] = courses[size];
                days[i] = days[size];
                values[i] = values[size];
            } else {
                values[i] = value;
            }
        }
    }

    private static final class Card {
        final int number;
        final int kind;
        final Player owner;
        final int player;
        final int day;
        /** null of an AWAY. */
        Course course;
        int firstHole;
        /** By its own holes, as is what is given there. */
        private final int[] shots;
        private final int[] shares;
        int toldMark;
        boolean isVoid;
        /** The owner's next one in ORDER. */
        Card next;

        // Found by Player.settle, as are the shares.
        int mark = NONE;
        int half = NONE;
        Card partner;
        /** Of a card with a MARK: the owner's one with a MARK ahead, how many to here, their RAW. */
        Card markedAhead;
        int marksToHere;
        int raw = NONE;

        Card(int number, int kind, Player owner, int player, int day, int[] shots) {
            this.number = number;
            this.kind = kind;
            this.owner = owner;
            this.player = player;
            this.day = day;
            this.shots = shots;
            this.shares = new int[shots.length];
        }

        /** 0 where there is no finding. */
        int findingAtHole(int hole) {
            if (course == null) {
                return KIND;
            }
            return hole >= firstHole && hole - firstHole < shots.length ? 0 : BEYOND;
        }

        int findingAsShort() {
            if (kind != SHORT) {
                return KIND;
            }
            return isVoid ? VOID : 0;
        }

        /** As count() asks: 1 VOID, 2 with a MARK, 3 waiting. */
        boolean isCounted(int what) {
            switch (what) {
                case 1: return isVoid;
                case 2: return mark != NONE;
                case 3: return waits();
                default: return false;
            }
        }

        boolean waits() {
            return half != NONE && partner == null;
        }

        boolean isRivalOf(Card other) {
            return kind == other.kind && course == other.course && day == other.day;
        }

        int lastToHere() {
            return marksToHere < MOST_LAST ? marksToHere : MOST_LAST;
        }

        int holesPlayed() {
            int played = 0;
            for (int shot : shots) {
                played += shot != 0 ? 1 : 0;
            }
            return played;
        }

        boolean isScored() {
            for (int shot : shots) {
                if (shot <= 0) {
                    return false;
                }
            }
            return true;
        }

        int shotsAt(int hole) {
            int i = hole - firstHole;
            return i >= 0 && i < shots.length ? shots[i] : 0;
        }

        int shareAt(int hole) {
            int i = hole - firstHole;
            return i >= 0 && i < shares.length ? shares[i] : 0;
        }

        int netAt(int hole) {
            return shotsAt(hole) - shareAt(hole);
        }

        /** PAR, 2 and what is given. */
        int limitAt(int hole) {
            return course == null ? 0 : course.parAt(hole) + 2 + shareAt(hole);
        }

        int adjustedAt(int hole) {
            int limit = limitAt(hole);
            int shot = shotsAt(hole);
            if (shot == 0) {
                return limit - 2;
            }
            return shot == PICK_UP || shot > limit ? limit : shot;
        }

        int shotsSum(boolean net) {
            int sum = 0;
            for (int i = 0; i < shots.length; i++) {
                int hole = firstHole + i;
                sum += net ? netAt(hole) : shotsAt(hole);
            }
            return sum;
        }

        int pointsFrom(int from) {
            int sum = 0;
            for (int i = 0; i < shots.length; i++) {
                int hole = firstHole + i;
                if (hole >= from && shots[i] > 0) {
                    sum += Math.max(limitAt(hole) - shots[i], 0);
                }
            }
            return sum;
        }

        void share(int g) {
            for (int i = 0; i < shares.length; i++) {
                shares[i] = course == null ? 0 : course.shareAt(firstHole + i, g);
            }
        }

        /** A MARK or HALF: tenths are what is taken off the sum of ADJUSTED. */
        int worthLess(int tenths) {
            if (course == null) {
                return NONE;
            }
            int sum = 0;
            for (int i = 0; i < shots.length; i++) {
                sum += adjustedAt(firstHole + i);
            }
            return rounded(USUAL_SLOPE * (10 * sum - tenths), course.slope);
        }
    }

    /** The cards that make RAW, the least MARK first. */
    private static final class Best {
        private final int[] marks = new int[MOST_MAKING];
        final int[] numbers = new int[MOST_MAKING];
        int size;

        /** From the LAST that end with this card. */
        void gather(Card end) {
            size = 0;
            if (end == null) {
                return;
            }
            int last = end.lastToHere();
            int wanted = making(last);
            Card card = end;
            for (int i = 0; i < last && card != null; i++) {
                offer(card, wanted);
                card = card.markedAhead;
            }
        }

        int rawTo(Card end) {
            gather(end);
            if (size < 1 || end == null) {
                return NONE;
            }
            int sum = 0;
            for (int i = 0; i < size && i < MOST_MAKING; i++) {
                sum += marks[i];
            }
            int raw = rounded(sum, size) - takenOff(end.lastToHere());
            return Math.min(raw, HIGHEST_NUMBER);
        }

        /** Cards are offered from the latest on, so that one goes ahead of those of a like MARK. */
        private void offer(Card card, int wanted) {
            if (wanted < 1 || wanted > MOST_MAKING) {
                return;
            }
            if (size >= wanted) {
                if (marks[wanted - 1] < card.mark) {
                    return;
                }
                size = wanted - 1;
            }
            int place = size;
            while (place > 0 && marks[place - 1] >= card.mark) {
                marks[place] = marks[place - 1];
                numbers[place] = numbers[place - 1];
                place--;
            }
            marks[place] = card.mark;
            numbers[place] = card.number;
            size++;
        }

        private static int making(int last) {
            return last >= 0 && last < MAKING.length ? MAKING[last] : 0;
        }

        private static int takenOff(int last) {
            return last >= 0 && last < TAKEN_OFF.length ? TAKEN_OFF[last] : 0;
        }
    }

    private static final class Player {
        /** The first card in ORDER; each leads to the next. */
        private Card first;
        /** The last one in ORDER that has a MARK; each leads to the one ahead. */
        private Card lastMarked;
        boolean isStale;

        /** A new card has the highest number, so it goes behind all of its day. */
        void insert(Card card) {
            isStale = true;
            Card ahead = null;
            for (Card c = first; c != null && c.day <= card.day; c = c.next) {
                ahead = c;
            }
            if (ahead == null) {
                card.next = first;
                first = card;
            } else {
                card.next = ahead.next;
                ahead.next = card;
            }
        }

        void remove(Card card) {
            isStale = true;
            if (first == card) {
                first = card.next;
                return;
            }
            for (Card c = first; c != null; c = c.next) {
                if (c.next == card) {
                    c.next = card.next;
                }
            }
        }

        /** All cards anew, in ORDER: a NUMBER needs the MARKS of earlier days and no others. */
        void settle(Rights rights, Best best) {
            if (!isStale) {
                return;
            }
            isStale = false;
            lastMarked = null;
            int day = -1;
            int clubNumber = HIGHEST_NUMBER;
            for (Card card = first; card != null; card = card.next) {
                if (card.course != null && card.day != day) {
                    day = card.day;
                    clubNumber = numberFor(day);
                }
                reckonCard(card, clubNumber, rights);
                if (card.mark != NONE) {
                    appendMarked(card, best);
                }
            }
        }

        private void reckonCard(Card card, int clubNumber, Rights rights) {
            card.mark = NONE;
            card.half = NONE;
            card.partner = null;
            Course course = card.course;
            if (course == null) {
                card.mark = card.isVoid ? NONE : card.toldMark;
                return;
            }
            card.share(course.givenFor(clubNumber));
            if (card.isVoid) {
                return;
            }
            int right = rights.valueFor(course.number, card.day);
            int played = card.holesPlayed();
            if (card.kind == CARD && played >= PLAYED_FOR_MARK) {
                card.mark = card.worthLess(course.rating + 10 * right);
            } else if (card.kind == SHORT && played >= PLAYED_FOR_HALF) {
                card.half = card.worthLess(course.rating / 2 + 5 * right);
                join(card);
            }
        }

        private void join(Card card) {
            Card waiting = longestWaiting(card);
            if (waiting != null) {
                waiting.partner = card;
                card.partner = waiting;
                card.mark = waiting.half + card.half;
            }
        }

        private Card longestWaiting(Card card) {
            for (Card c = first; c != null && c != card; c = c.next) {
                if (c.waits() && c.day >= card.day - DAYS_OF_WAITING) {
                    return c;
                }
            }
            return null;
        }

        private void appendMarked(Card card, Best best) {
            card.markedAhead = lastMarked;
            card.marksToHere = lastMarked == null ? 1 : lastMarked.marksToHere + 1;
            card.raw = best.rawTo(card);
            lastMarked = card;
        }

        /** The last card with a MARK of an earlier day: LAST ends with it. */
        Card markedBefore(int day) {
            Card card = lastMarked;
            while (card != null && card.day >= day) {
                card = card.markedAhead;
            }
            return card;
        }

        int rawFor(int day) {
            Card end = markedBefore(day);
            return end == null ? NONE : end.raw;
        }

        /** Going back, the first card met of each day ends the LAST of the day behind it. */
        int lowFor(int day) {
            int low = NONE;
            int dayMet = -1;
            for (Card c = markedBefore(day); c != null; c = c.markedAhead) {
                if (c.marksToHere < MOST_LAST || c.day + 1 < day - DAYS_OF_LOW) {
                    return low;
                }
                if (c.day != dayMet) {
                    low = low == NONE ? c.raw : Math.min(low, c.raw);
                    dayMet = c.day;
                }
            }
            return low;
        }

        int numberFor(int day) {
            int raw = rawFor(day);
            if (raw == NONE) {
                return HIGHEST_NUMBER;
            }
            int low = lowFor(day);
            if (low == NONE || raw <= low + SOFT_CAP) {
                return raw;
            }
            int softened = low + SOFT_CAP + (raw - low - SOFT_CAP) / 2;
            return Math.min(softened, low + HARD_CAP);
        }
    }
}
