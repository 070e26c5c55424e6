import java.util.ArrayList;
import java.util.Comparator;
import java.util.HashMap;
import java.util.List;
import java.util.Map;

/**
 * Long runs of mixed calls, drawn from fixed seeds, on the program and on a plain model beside it
 * that follows the document's words and keeps nothing between calls but what was put in.
 */
public final class ModelRuns {
    static final int BEYOND = -100001, NONE = -100002, KIND = -100003;
    static final int SIZE = -100004, FULL = -100005, VOID = -100006;

    /** A finding, on its way out of the model. */
    static final class Finding extends RuntimeException {
        private static final long serialVersionUID = 1L;
        final int code;

        Finding(int code) {
            super(null, null, false, false);
            this.code = code;
        }
    }

    static void refuseIf(boolean bad, int code) {
        if (bad) {
            throw new Finding(code);
        }
    }

    static final class ModelCard {
        int number, kind, player, day, course, from, told;
        int[] shots;
        boolean out;

        boolean has(int hole) {
            return shots != null && hole >= from && hole < from + shots.length;
        }
    }

    static final class Model {
        final int[][] par = new int[4][18], rank = new int[4][18];
        final int[] rating = {720, 720, 720, 720}, slope = {113, 113, 113, 113};
        final Map<Integer, Integer> rights = new HashMap<>();
        final List<ModelCard> cards = new ArrayList<>();
        final List<Integer> waiting = new ArrayList<>(), told = new ArrayList<>();
        final Map<Integer, Integer> found = new HashMap<>();
        /** Within one state of the book alone: every call that may change it empties them. */
        final Map<Long, Integer> numbers = new HashMap<>();
        final Map<Integer, Integer> marks = new HashMap<>();

        Model() {
            for (int c = 0; c < 4; c++) {
                for (int h = 0; h < 18; h++) {
                    par[c][h] = 4;
                    rank[c][h] = h + 1;
                }
            }
        }

        static int round(long above, long below) {
            // below is above 0: a half more, and down to a whole number
            double exact = Math.floor((double) (2 * above + below) / (2.0 * below));
            return (int) exact;
        }

        ModelCard card(int n) {
            refuseIf(n < 0 || n >= cards.size(), BEYOND);
            return cards.get(n);
        }

        void needCourse(int c) {
            refuseIf(c < 0 || c > 3, BEYOND);
        }

        void needPlayerDay(int p, int day) {
            refuseIf(p < 0 || p > 11 || day < 0 || day > 9999, BEYOND);
        }

        List<ModelCard> ordered(int player) {
            List<ModelCard> all = new ArrayList<>();
            for (ModelCard c : cards) {
                if (c.player == player) {
                    all.add(c);
                }
            }
            all.sort(Comparator.comparingInt((ModelCard c) -> c.day).thenComparingInt(c -> c.number));
            return all;
        }

        int parSum(int c) {
            int sum = 0;
            for (int h = 0; h < 18; h++) {
                sum += par[c][h];
            }
            return sum;
        }

        int share(int c, int g, int hole) {
            long left = ((g % 18) + 18) % 18;
            return (int) ((g - left) / 18) + (rank[c][hole] > left ? 0 : 1);
        }

        int given(int p, int c, int day) {
            return round((long) number(p, day) * slope[c] + 113L * (rating[c] - 10 * parSum(c)), 1130);
        }

        int shareOf(ModelCard card, int hole) {
            return share(card.course, given(card.player, card.course, card.day), hole);
        }

        int adjusted(ModelCard card, int hole) {
            int shots = card.shots[hole - card.from];
            int most = par[card.course][hole] + 2 + shareOf(card, hole);
            if (shots == -1) {
                return most;
            }
            return shots == 0 ? most - 2 : Math.min(shots, most);
        }

        int played(ModelCard card) {
            int n = 0;
            for (int s : card.shots) {
                if (s != 0) {
                    n++;
                }
            }
            return n;
        }

        int right(ModelCard card) {
            return rights.getOrDefault(card.course * 10000 + card.day, 0);
        }

        int sumAdjusted(ModelCard card) {
            int sum = 0;
            for (int i = 0; i < card.shots.length; i++) {
                sum += adjusted(card, card.from + i);
            }
            return sum;
        }

        Integer half(ModelCard card) {
            if (card.kind != 1 || card.out || played(card) < 7) {
                return null;
            }
            int c = card.course;
            return round(113L * (10 * sumAdjusted(card) - rating[c] / 2 - 5 * right(card)), slope[c]);
        }

        /** Pairs of the player's cards up to a day: from each to the other. */
        Map<Integer, Integer> pairs(int player, int toDay) {
            Map<Integer, Integer> pairs = new HashMap<>();
            List<ModelCard> queue = new ArrayList<>();
            for (ModelCard card : ordered(player)) {
                if (card.day > toDay || half(card) == null) {
                    continue;
                }
                ModelCard mate = null;
                for (ModelCard w : queue) {
                    if (mate == null && card.day - w.day <= 60) {
                        mate = w;
                    }
                }
                if (mate == null) {
                    queue.add(card);
                } else {
                    queue.remove(mate);
                    pairs.put(mate.number, card.number);
                    pairs.put(card.number, mate.number);
                }
            }
            return pairs;
        }

        Integer mark(ModelCard card) {
            if (!marks.containsKey(card.number)) {
                marks.put(card.number, freshMark(card));
            }
            return marks.get(card.number);
        }

        Integer freshMark(ModelCard card) {
            if (card.out) {
                return null;
            }
            int c = card.course;
            if (card.kind == 2) {
                return card.told;
            }
            if (card.kind == 0) {
                return played(card) < 14 ? null
                        : (Integer) round(113L * (10 * sumAdjusted(card) - rating[c] - 10 * right(card)), slope[c]);
            }
            Integer mate = pairs(card.player, card.day).get(card.number);
            if (mate == null) {
                return null;
            }
            ModelCard other = cards.get(mate);
            boolean later = other.day < card.day || other.day == card.day && mate < card.number;
            return later ? (Integer) (half(other) + half(card)) : null;
        }

        List<ModelCard> last(int player, int day) {
            List<ModelCard> marked = new ArrayList<>();
            for (ModelCard card : ordered(player)) {
                if (card.day < day && mark(card) != null) {
                    marked.add(card);
                }
            }
            return marked.subList(Math.max(0, marked.size() - 20), marked.size());
        }

        List<ModelCard> makes(int player, int day) {
            List<ModelCard> sorted = new ArrayList<>(last(player, day));
            int m = sorted.size();
            int k = m < 3 ? 0 : m < 6 ? 1 : m < 9 ? 2 : m < 12 ? 3 : m < 15 ? 4 : m < 17 ? 5 : m < 19 ? 6 : m - 12;
            sorted.sort(Comparator.comparingInt((ModelCard c) -> mark(c)));
            return sorted.subList(0, k);
        }

        Integer raw(int player, int day) {
            List<ModelCard> makes = makes(player, day);
            if (makes.isEmpty()) {
                return null;
            }
            int sum = 0;
            for (ModelCard card : makes) {
                sum += mark(card);
            }
            int m = last(player, day).size();
            int t = m == 3 ? 20 : m == 4 || m == 6 ? 10 : 0;
            return Math.min(540, round(sum, makes.size()) - t);
        }

        Integer low(int player, int day) {
            Integer low = null;
            for (ModelCard card : ordered(player)) {
                int e = card.day + 1;
                if (e < day - 364 || e > day || mark(card) == null || last(player, e).size() != 20) {
                    continue;
                }
                int raw = raw(player, e);
                low = low == null || raw < low ? (Integer) raw : low;
            }
            return low;
        }

        int number(int player, int day) {
            long key = player * 100000L + day;
            Integer known = numbers.get(key);
            if (known != null) {
                return known;
            }
            Integer raw = raw(player, day);
            int number = 540;
            if (raw != null) {
                Integer low = low(player, day);
                number = low == null || raw <= low + 30 ? raw
                        : Math.min(low + 50, low + 30 + (raw - low - 30) / 2);
            }
            numbers.put(key, number);
            return number;
        }

        int points(ModelCard card, int from) {
            int sum = 0;
            for (int i = 0; i < card.shots.length; i++) {
                int hole = card.from + i;
                int more = par[card.course][hole] + 2 + shareOf(card, hole) - card.shots[i];
                if (hole >= from && card.shots[i] > 0 && more > 0) {
                    sum += more;
                }
            }
            return sum;
        }

        int match(ModelCard a, ModelCard b) {
            int up = 0;
            for (int h = 0; h < 18; h++) {
                int lost = 1000;
                int x = a.shots[h] > 0 ? a.shots[h] - shareOf(a, h) : lost;
                int y = b.shots[h] > 0 ? b.shots[h] - shareOf(b, h) : lost;
                up += x < y ? 1 : x > y ? -1 : 0;
                if (up > 17 - h || -up > 17 - h) {
                    return 100 * up + 17 - h;
                }
            }
            return 0;
        }

        int place(ModelCard card) {
            List<ModelCard> field = new ArrayList<>();
            for (ModelCard c : cards) {
                if (c.kind == 0 && c.course == card.course && c.day == card.day) {
                    field.add(c);
                }
            }
            Comparator<ModelCard> best = Comparator.comparingInt((ModelCard c) -> -points(c, 0));
            for (int n : new int[] {9, 6, 3, 1}) {
                best = best.thenComparingInt(c -> -points(c, 18 - n));
            }
            field.sort(best.thenComparingInt(c -> c.number));
            return 1 + field.indexOf(card);
        }

        int put(int kind, int p, int c, int day, int n, int from) {
            refuseIf(p < 0 || p > 11 || c < 0 || c > 3 || day < 0 || day > 9999, BEYOND);
            refuseIf(waiting.size() != n, SIZE);
            refuseIf(cards.size() >= 60, FULL);
            ModelCard card = add(kind, p, day);
            card.course = c;
            card.from = from;
            card.shots = new int[n];
            for (int i = 0; i < n; i++) {
                card.shots[i] = waiting.get(i);
            }
            waiting.clear();
            return card.number;
        }

        ModelCard add(int kind, int p, int day) {
            ModelCard card = new ModelCard();
            card.number = cards.size();
            card.kind = kind;
            card.player = p;
            card.day = day;
            card.course = -1;
            cards.add(card);
            return card;
        }

        static int orNone(Integer value) {
            refuseIf(value == null, NONE);
            return value;
        }

        int call(int f, long w, int[] a, boolean b) {
            if (f < 12 || f == 31) {
                numbers.clear();
                marks.clear();
            }
            try {
                return f < 14 ? callBook(f, w, a, b) : f < 24 ? callMarks(f, a, b) : callForms(f, a, b);
            } catch (Finding e) {
                found.merge(e.code, 1, Integer::sum);
                return e.code;
            }
        }

        int callBook(int f, long w, int[] a, boolean b) {
            switch (f) {
                case 0:
                    needCourse(a[0]);
                    refuseIf(a[1] < 500 || a[1] > 800 || a[2] < 55 || a[2] > 155, BEYOND);
                    rating[a[0]] = a[1];
                    slope[a[0]] = a[2];
                    return 1;
                case 1: {
                    needCourse(a[0]);
                    refuseIf(a[1] < 0 || a[1] > 17 || a[2] < 3 || a[2] > 5 || a[3] < 1 || a[3] > 18, BEYOND);
                    int had = rank[a[0]][a[1]];
                    int other = 0;
                    while (rank[a[0]][other] != a[3]) {
                        other++;
                    }
                    rank[a[0]][other] = had;
                    rank[a[0]][a[1]] = a[3];
                    par[a[0]][a[1]] = a[2];
                    return had;
                }
                case 2: {
                    needCourse(a[0]);
                    refuseIf(a[1] < 0 || a[1] > 9999 || a[2] < -1 || a[2] > 3, BEYOND);
                    int key = a[0] * 10000 + a[1];
                    int was = rights.getOrDefault(key, 0);
                    refuseIf(was == 0 && a[2] != 0 && rights.size() == 30, FULL);
                    rights.remove(key);
                    if (a[2] != 0) {
                        rights.put(key, a[2]);
                    }
                    return was;
                }
                case 3: {
                    needCourse(a[0]);
                    int what = a[1];
                    if (what >= 100 && what <= 117) {
                        return par[a[0]][what - 100];
                    }
                    if (what >= 200 && what <= 217) {
                        return rank[a[0]][what - 200];
                    }
                    refuseIf(what < 0 || what > 3, BEYOND);
                    int nine = 0;
                    for (int h = 0; h < 9; h++) {
                        nine += par[a[0]][h];
                    }
                    return new int[] {rating[a[0]], slope[a[0]], parSum(a[0]), nine}[what];
                }
                case 4:
                    refuseIf(a[0] < 0, SIZE);
                    refuseIf(a[0] > 8, BEYOND);
                    refuseIf(waiting.size() + a[0] > 18, FULL);
                    for (int i = 0; i < a[0]; i++) {
                        waiting.add((int) (w % 16 + 16) % 16);
                        w >>= 4;
                    }
                    return waiting.size();
                case 5:
                    refuseIf(a[0] < 0 || a[0] >= waiting.size(), BEYOND);
                    waiting.set(a[0], -1);
                    return 1;
                case 6:
                    return put(0, a[0], a[1], a[2], 18, 0);
                case 7:
                    return put(1, a[0], a[1], a[2], 9, b ? 0 : 9);
                case 8: {
                    needPlayerDay(a[0], a[1]);
                    refuseIf(a[2] < -200 || a[2] > 900, BEYOND);
                    refuseIf(cards.size() >= 60, FULL);
                    ModelCard card = add(2, a[0], a[1]);
                    card.told = a[2];
                    return card.number;
                }
                case 9: {
                    ModelCard card = card(a[0]);
                    int fresh = card.out != b ? 1 : 0;
                    card.out = b;
                    return fresh;
                }
                case 10: {
                    ModelCard card = card(a[0]);
                    refuseIf(a[1] < 0 || a[1] > 5, BEYOND);
                    refuseIf(a[1] > 3 && card.kind == 2, NONE);
                    int played = card.kind == 2 ? 0 : played(card);
                    return new int[] {card.kind, card.player, card.day, card.out ? 1 : 0, card.course, played}[a[1]];
                }
                case 11: {
                    ModelCard card = card(a[0]);
                    refuseIf(a[1] < 0 || a[1] > 2, BEYOND);
                    refuseIf(a[1] == 1 && card.kind != 1 || a[1] == 2 && card.kind != 2, KIND);
                    return card.player;
                }
                default: {
                    ModelCard card = card(a[0]);
                    refuseIf(card.kind == 2, KIND);
                    refuseIf(!card.has(a[1]), BEYOND);
                    if (f == 12) {
                        return card.shots[a[1] - card.from];
                    }
                    refuseIf(card.out, VOID);
                    return adjusted(card, a[1]);
                }
            }
        }

        int callMarks(int f, int[] a, boolean b) {
            switch (f) {
                case 14: {
                    ModelCard card = card(a[0]);
                    refuseIf(card.out, VOID);
                    return orNone(mark(card));
                }
                case 15:
                case 16: {
                    ModelCard card = card(a[0]);
                    refuseIf(card.kind != 1, KIND);
                    refuseIf(card.out, VOID);
                    return orNone(f == 15 ? half(card) : pairs(card.player, 9999).get(card.number));
                }
                case 17:
                    needPlayerDay(a[0], a[1]);
                    return number(a[0], a[1]);
                case 18:
                    needPlayerDay(a[0], a[1]);
                    return orNone(b ? low(a[0], a[1]) : raw(a[0], a[1]));
                case 19:
                    needPlayerDay(a[0], a[1]);
                    return last(a[0], a[1]).size();
                case 20: {
                    needPlayerDay(a[0], a[1]);
                    List<ModelCard> makes = makes(a[0], a[1]);
                    refuseIf(a[2] < 0 || a[2] >= makes.size(), NONE);
                    return makes.get(a[2]).number;
                }
                case 21:
                    needCourse(a[1]);
                    needPlayerDay(a[0], a[2]);
                    return given(a[0], a[1], a[2]);
                default:
                    needCourse(a[0]);
                    refuseIf(a[2] < 0 || a[2] > 17, BEYOND);
                    return share(a[0], a[1], a[2]);
            }
        }

        int callForms(int f, int[] a, boolean b) {
            switch (f) {
                case 24: {
                    ModelCard card = card(a[0]);
                    refuseIf(card.kind == 2, KIND);
                    int sum = 0;
                    for (int i = 0; i < card.shots.length; i++) {
                        refuseIf(card.shots[i] < 1, NONE);
                        sum += card.shots[i] - (b ? shareOf(card, card.from + i) : 0);
                    }
                    return sum;
                }
                case 25: {
                    ModelCard card = card(a[0]);
                    refuseIf(card.kind == 2, KIND);
                    return points(card, 0);
                }
                case 26: {
                    ModelCard x = card(a[0]);
                    ModelCard y = card(a[1]);
                    refuseIf(x.kind != 0 || y.kind != 0 || x.course != y.course, KIND);
                    return match(x, y);
                }
                case 27: {
                    ModelCard card = card(a[0]);
                    refuseIf(card.kind != 0, KIND);
                    return place(card);
                }
                case 28:
                    refuseIf(told.size() == 20, FULL);
                    told.add(a[0]);
                    return told.size();
                case 29: {
                    List<Integer> said = new ArrayList<>(told);
                    told.clear();
                    needPlayerDay(a[0], a[1]);
                    List<Integer> due = new ArrayList<>();
                    for (ModelCard card : makes(a[0], a[1])) {
                        due.add(card.number);
                    }
                    due.add(number(a[0], a[1]));
                    for (int i = 0; i < due.size(); i++) {
                        if (i >= said.size() || !said.get(i).equals(due.get(i))) {
                            return 1 + i;
                        }
                    }
                    return said.size() > due.size() ? 99 : 0;
                }
                case 30:
                    return count(a[0]);
                case 31:
                    refuseIf(cards.isEmpty(), NONE);
                    cards.remove(cards.size() - 1);
                    return cards.size();
                default:
                    refuseIf(a[0] < VOID || a[0] > BEYOND, BEYOND);
                    return found.getOrDefault(a[0], 0);
            }
        }

        int count(int what) {
            refuseIf(what < 0 || what > 5, BEYOND);
            int out = 0, marked = 0, waits = 0;
            for (ModelCard card : cards) {
                out += card.out ? 1 : 0;
                marked += mark(card) != null ? 1 : 0;
                waits += half(card) != null && !pairs(card.player, 9999).containsKey(card.number) ? 1 : 0;
            }
            return new int[] {cards.size(), out, marked, waits, waiting.size(), told.size()}[what];
        }
    }

    static final String[] NAMES = {
        "course", "hole", "right", "about", "holes", "pickUp", "card", "nine", "away", "strike", "ask", "as",
        "at", "adjusted", "mark", "half", "joined", "number", "raw", "last", "makes", "given", "strokes", "",
        "score", "points", "match", "place", "tell", "check", "count", "undo", "found"};

    static int callProgram(ClubStrokes x, int f, long w, int[] a, boolean b) {
        switch (f) {
            case 0: return x.course(a[0], a[1], a[2]);
            case 1: return x.hole(a[0], a[1], a[2], a[3]);
            case 2: return x.right(a[0], a[1], a[2]);
            case 3: return x.about(a[0], a[1]);
            case 4: return x.holes(w, a[0]);
            case 5: return x.pickUp(a[0]);
            case 6: return x.card(a[0], a[1], a[2]);
            case 7: return x.nine(a[0], a[1], a[2], b);
            case 8: return x.away(a[0], a[1], a[2]);
            case 9: return x.strike(a[0], b);
            case 10: return x.ask(a[0], a[1]);
            case 11: return x.as(a[0], a[1]);
            case 12: return x.at(a[0], a[1]);
            case 13: return x.adjusted(a[0], a[1]);
            case 14: return x.mark(a[0]);
            case 15: return x.half(a[0]);
            case 16: return x.joined(a[0]);
            case 17: return x.number(a[0], a[1]);
            case 18: return x.raw(a[0], a[1], b);
            case 19: return x.last(a[0], a[1]);
            case 20: return x.makes(a[0], a[1], a[2]);
            case 21: return x.given(a[0], a[1], a[2]);
            case 22: return x.strokes(a[0], a[1], a[2]);
            case 24: return x.score(a[0], b);
            case 25: return x.points(a[0]);
            case 26: return x.match(a[0], a[1]);
            case 27: return x.place(a[0]);
            case 28: return x.tell(a[0]);
            case 29: return x.check(a[0], a[1]);
            case 30: return x.count(a[0]);
            case 31: return x.undo();
            default: return x.found(a[0]);
        }
    }

    /** One run: draws calls, makes them on both sides, and stops at the first difference. */
    static final class Run {
        final int seed;
        final ClubStrokes program = new ClubStrokes();
        final Model model = new Model();
        final int[] met;
        long state;
        int calls;
        boolean wrong;
        final int players, days, firstDay, span;

        Run(int seed, int[] met) {
            this.seed = seed;
            this.met = met;
            state = seed * 2862933555777941757L + 3037000493L;
            players = new int[] {1, 1, 2, 3, 12}[below(5)];
            days = new int[] {3, 30, 150, 800, 9999}[below(5)];
            firstDay = below(10000 - days);
            span = new int[] {40, 300, 1100}[below(3)];
        }

        int below(int n) {
            state = state * 6364136223846793005L + 1442695040888963407L;
            return (int) ((state >>> 33) % n);
        }

        boolean seldom(int n) {
            return below(n) == 0;
        }

        int draw(int least, int most) {
            if (seldom(60)) {
                return new int[] {least - 1, most + 1, Integer.MIN_VALUE, Integer.MAX_VALUE}[below(4)];
            }
            return least + below(most - least + 1);
        }

        int day() {
            return draw(firstDay, firstDay + days);
        }

        int player() {
            return draw(0, players - 1);
        }

        int course() {
            return seldom(4) ? draw(0, 3) : 0;
        }

        int anyCard() {
            return model.cards.isEmpty() ? draw(0, 1) : draw(0, model.cards.size() - 1);
        }

        int call(int f, long w, boolean b, int... a) {
            if (calls >= 512 || wrong) {
                return 0;
            }
            calls++;
            int due = model.call(f, w, a, b);
            int got = callProgram(program, f, w, a, b);
            met[f]++;
            if (due != got) {
                wrong = true;
                System.out.println("seed " + seed + ", call " + calls + ": " + NAMES[f] + " " + w + " "
                        + java.util.Arrays.toString(a) + " " + b + " answered " + got + ", due is " + due);
            }
            return due;
        }

        long word() {
            long w = 0;
            int style = below(5);
            for (int i = 0; i < 16; i++) {
                int shots = style == 0 ? below(16) : style == 1 ? 1 + below(3) : style == 2 ? 5 + below(6) : 3 + below(4);
                w = w << 4 | (seldom(25) ? 0 : shots);
            }
            return w;
        }

        void putCard() {
            int kind = below(10);
            if (kind < 4) {
                call(8, 0, false, player(), day(), draw(-200 + below(300), 900 - below(800)));
                return;
            }
            int want = kind < 7 ? 18 : 9;
            if (model.waiting.size() > want) {
                want = 18;
            }
            for (int i = 0; i < 4 && model.waiting.size() < want; i++) {
                call(4, word(), false, Math.min(8, want - model.waiting.size()));
            }
            for (int i = below(8); i > 5; i--) {
                call(5, 0, false, draw(0, Math.max(0, model.waiting.size() - 1)));
            }
            int f = model.waiting.size() == 18 || seldom(30) ? 6 : 7;
            call(f, 0, seldom(2), player(), course(), day());
        }

        void change() {
            switch (below(12)) {
                case 0: call(0, 0, false, course(), draw(500, 800), draw(55, 155)); break;
                case 1: call(1, 0, false, course(), draw(0, 17), draw(3, 5), draw(1, 18)); break;
                case 2:
                case 3: call(2, 0, false, course(), day(), draw(-1, 3)); break;
                case 4: call(4, word(), false, draw(0, 8)); break;
                case 5: call(5, 0, false, draw(0, 17)); break;
                case 6: call(28, 0, false, draw(-50, 600)); break;
                case 7: if (seldom(3)) { call(31, 0, false); } break;
                default: call(9, 0, seldom(2), anyCard()); break;
            }
        }

        void ask() {
            switch (below(26)) {
                case 0: call(3, 0, false, course(), new int[] {draw(0, 3), draw(100, 117), draw(200, 217)}[below(3)]); break;
                case 1: call(10, 0, false, anyCard(), draw(0, 5)); break;
                case 2: call(11, 0, false, anyCard(), draw(0, 2)); break;
                case 3: call(12, 0, false, anyCard(), draw(0, 17)); break;
                case 4: call(13, 0, false, anyCard(), draw(0, 17)); break;
                case 5:
                case 6: call(14, 0, false, anyCard()); break;
                case 7: call(15, 0, false, anyCard()); break;
                case 8: call(16, 0, false, anyCard()); break;
                case 9:
                case 10: call(17, 0, false, player(), askedDay()); break;
                case 11:
                case 12: call(18, 0, seldom(2), player(), askedDay()); break;
                case 13: call(19, 0, false, player(), askedDay()); break;
                case 14: call(20, 0, false, player(), askedDay(), draw(0, 7)); break;
                case 15: call(21, 0, false, player(), course(), askedDay()); break;
                case 16: call(22, 0, false, course(), seldom(3) ? draw(-2000000, 2000000) : draw(-60, 60), draw(0, 17)); break;
                case 17: call(24, 0, seldom(2), anyCard()); break;
                case 18: call(25, 0, false, anyCard()); break;
                case 19:
                case 20: call(26, 0, false, anyCard(), anyCard()); break;
                case 21:
                case 22: call(27, 0, false, anyCard()); break;
                case 23: call(30, 0, false, draw(0, 5)); break;
                case 24: call(32, 0, false, draw(VOID, BEYOND)); break;
                default: tellAndCheck(); break;
            }
        }

        int askedDay() {
            return Math.min(9999, day() + (seldom(3) ? span : 0));
        }

        void tellAndCheck() {
            int p = below(players);
            int day = Math.min(9999, firstDay + below(days + span));
            for (int i = 0; i < 9; i++) {
                int card = call(20, 0, false, p, day, i);
                if (card < 0) {
                    break;
                }
                call(28, 0, false, seldom(30) ? card + 1 : card);
            }
            int number = call(17, 0, false, p, day);
            if (!seldom(8)) {
                call(28, 0, false, number);
            }
            if (seldom(8)) {
                call(28, 0, false, number);
            }
            call(29, 0, false, seldom(20) ? 12 : p, day);
        }

        boolean go() {
            int mix = 1 + below(6);
            for (int i = 0; i < 2000 && calls < 512 && !wrong; i++) {
                int kind = below(10);
                if (kind < mix) {
                    putCard();
                } else if (kind < mix + 1) {
                    change();
                } else {
                    ask();
                }
            }
            return !wrong;
        }
    }

    public static void main(String[] args) {
        int runs = args.length > 0 ? Integer.parseInt(args[0]) : 150;
        int[] met = new int[33];
        int wrong = 0;
        for (int seed = 1; seed <= runs; seed++) {
            if (!new Run(seed, met).go()) {
                wrong++;
            }
        }
        for (int f = 0; f < met.length; f++) {
            if (met[f] == 0 && !NAMES[f].isEmpty()) {
                wrong++;
                System.out.println(NAMES[f] + " was never called");
            }
        }
        System.out.println(runs + " runs beside the model, " + wrong + " with another answer");
        if (wrong != 0) {
            System.exit(1);
        }
    }
}
