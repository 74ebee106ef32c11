import java.util.Arrays;

/** A valley in which a prize once had is the last, by law. */
public final class NobodyTwice {
    public static final int NONE = -1, BAD = -2, NO = -3, FULL = -4;

    private static final int YEARS = 8;
    private static final int SORTS = 3;
    private static final int MOST_WORTH = 30;
    private static final int PEOPLE = 6;
    private static final int KINDS = 6;
    private static final int ARTS = 10;
    private static final int ROWS = 6;
    private static final int ROW = 4;
    private static final int IMAGES = 2;
    private static final int MOST_BYTES = 150;
    private static final int MOST_SEED = 999999;
    private static final int MOST_VALLEYS = 60;
    private static final int COUNTS = 8;
    private static final int BAD_TOLD_APART = -10;
    private static final int NOT_SO_MANY = -5;
    private static final int STATUS_UNKNOWN = -1;

    private final Valley now;
    private final Valley draft;
    private final Valley[] images;
    private final boolean[] kept;
    private final Contest contest;
    private final Foresight foresight;
    private final Script script;
    private long above;
    private long below;
    private int refusedBad;
    private int refusedNo;
    private int refusedFull;

    public NobodyTwice() {
        now = new Valley();
        draft = new Valley();
        images = new Valley[IMAGES];
        kept = new boolean[IMAGES];
        for (int i = 0; i < IMAGES; i++) {
            images[i] = new Valley();
        }
        contest = new Contest();
        foresight = new Foresight(contest);
        script = new Script();
        above = 0;
        below = 1;
    }

    // ---- a valley

    public int valley() {
        int had = now.people;
        now.empty();
        return had;
    }

    public int prize(int y, int sort, int worth) {
        if (!within(y, 0, YEARS - 1) || !within(sort, 0, SORTS - 1) || !within(worth, 1, MOST_WORTH)) {
            return bad();
        }
        int had = now.worths[y];
        now.setPrize(y, sort, worth);
        now.undoable = 0;
        return had;
    }

    public int one(int kind, int a, int b, int c) {
        if (!within(kind, 0, KINDS - 1) || !isArt(a) || !isArt(b) || !isArt(c)) {
            return bad();
        }
        if (now.people >= PEOPLE) {
            return full();
        }
        now.addOne(kind, a, b, c);
        now.undoable = 0;
        return now.people - 1;
    }

    public int type(int c) {
        if (!within(c, 0, 127)) {
            return bad();
        }
        if (script.length >= MOST_BYTES) {
            return full();
        }
        script.append(c);
        return script.length;
    }

    public int clear() {
        int had = script.length;
        script.length = 0;
        return had;
    }

    public int read() {
        int items = script.tellInto(draft);
        if (items >= 0) {
            now.take(draft);
        }
        return items;
    }

    // ---- years

    public int year() {
        if (now.year >= YEARS) {
            return no();
        }
        contest.allByKind();
        contest.hold(now, now.year);
        now.pass(contest.first, contest.second);
        return contest.first;
    }

    public int undo() {
        if (now.undoable <= 0) {
            return no();
        }
        now.takeBack();
        return now.year;
    }

    public int of(int p, int what) {
        if (!isOne(p) || !within(what, 0, 6)) {
            return bad();
        }
        switch (what) {
            case 0:
                return now.kinds[p];
            case 4:
                return now.wins[p];
            case 5:
                return now.seconds[p];
            case 6:
                return contest.isBarred(now, p) ? 1 : 0;
            default:
                return now.arts[p * SORTS + what - 1];
        }
    }

    public int about(int y, int what) {
        if (!within(y, 0, YEARS - 1) || !within(what, 0, 1)) {
            bad();
            return BAD_TOLD_APART;
        }
        return what == 0 ? now.sorts[y] : now.worths[y];
    }

    public int good(int p, int sort, int y) {
        if (!isOne(p) || !within(sort, 0, SORTS - 1) || !within(y, 0, YEARS - 1)) {
            return bad();
        }
        return contest.skillBy(now.kinds[p], now.arts[p * SORTS + sort], y);
    }

    // ---- who wins

    public int enter(int y) {
        if (!isToCome(y)) {
            return bad();
        }
        foresight.contestOf(now, y);
        return contest.entrants;
    }

    public int winner(int y, int what) {
        if (!isToCome(y) || !within(what, 0, 1)) {
            return bad();
        }
        foresight.contestOf(now, y);
        return what == 0 ? contest.first : contest.second;
    }

    public int end(int p, int what) {
        if (!isOne(p) || !within(what, 0, 1)) {
            return bad();
        }
        foresight.begin(now);
        foresight.runTo(YEARS);
        return what == 0 ? foresight.trial.worthWonBy(p) : foresight.trial.seconds[p];
    }

    public int left() {
        return foresight.untaken(now);
    }

    public int best(int p, int what) {
        if (!isOne(p) || !within(what, 0, 1)) {
            return bad();
        }
        int y = foresight.bestYear(now, p);
        return y == NONE || what == 0 ? y : now.worths[y];
    }

    public int rivals(int a, int b, int k) {
        if (!isOne(a) || !isOne(b) || a == b || k < NONE) {
            bad();
            return BAD_TOLD_APART;
        }
        foresight.weighRivals(now, a, b);
        return foresight.resting(now.year, k);
    }

    public int handicap(int p) {
        if (!isOne(p)) {
            return bad();
        }
        contest.allByKind();
        return contest.handicapOf(now, p);
    }

    public int order(int p) {
        if (!isOne(p)) {
            return bad();
        }
        return foresight.bestSwap(now, p);
    }

    // ---- what one tried for

    public int note(int p, int w, int l, int tried) {
        if (!isOne(p) || !within(w, 1, MOST_WORTH) || !within(l, 0, YEARS - 1) || !within(tried, 0, 1)) {
            return bad();
        }
        if (now.notes.rows >= ROWS) {
            return full();
        }
        now.notes.add(p, w, l, tried);
        return now.notes.rows;
    }

    public int beaten(int p, int q, int sort, int y) {
        if (!isOne(p) || !isOne(q) || p == q || !within(sort, 0, SORTS - 1) || !within(y, 0, YEARS - 1)) {
            return bad();
        }
        if (now.beatings.rows >= ROWS) {
            return full();
        }
        now.beatings.add(p, q, sort, y);
        return now.beatings.rows;
    }

    public int forget(int what) {
        if (!within(what, 0, 1)) {
            return bad();
        }
        Table table = what == 0 ? now.notes : now.beatings;
        int had = table.rows;
        table.rows = 0;
        return had;
    }

    public int is(int p) {
        if (!isOne(p)) {
            return bad();
        }
        return contest.kindsThatFit(now.notes, p);
    }

    public int offer(int p) {
        if (!isOne(p)) {
            return bad();
        }
        int behind = Math.max(0, YEARS - 1 - now.year);
        return contest.tellingWorth(contest.kindsThatFit(now.notes, p), behind);
    }

    public int may(int p, int sort) {
        if (!isOne(p) || !within(sort, 0, SORTS - 1)) {
            return bad();
        }
        int bits = 0;
        for (int art = 0; art < ARTS; art++) {
            if (contest.artFits(now, p, sort, art)) {
                bits |= 1 << art;
            }
        }
        return bits;
    }

    public int clash() {
        int wrong = 0;
        for (int r = 0; r < now.beatings.rows; r++) {
            if (!contest.isSo(now, r)) {
                wrong++;
            }
        }
        return wrong;
    }

    public int odds(int p, int y) {
        if (!isOne(p) || !isToCome(y)) {
            return bad();
        }
        foresight.begin(now);
        foresight.runTo(y);
        setFraction(contest.strength(foresight.trial, p, y), contest.strengthOfAll(foresight.trial, y));
        return 1;
    }

    public int valleys(int seed, int n) {
        if (!within(seed, 0, MOST_SEED) || !within(n, 0, MOST_VALLEYS)) {
            return bad();
        }
        return foresight.worthInValleys(now, seed, n);
    }

    // ---- what there is

    public long part(int what) {
        if (!within(what, 0, 1)) {
            return bad();
        }
        return what == 0 ? above : below;
    }

    public int image(int i) {
        if (!within(i, 0, IMAGES - 1)) {
            return bad();
        }
        images[i].take(now);
        kept[i] = true;
        return 1;
    }

    public int from(int i) {
        if (!within(i, 0, IMAGES - 1)) {
            return bad();
        }
        if (!kept[i]) {
            return no();
        }
        now.take(images[i]);
        return 1;
    }

    public int status(int what) {
        switch (what) {
            case 0:
                return refusedBad;
            case 1:
                return refusedNo;
            case 2:
                return refusedFull;
            default:
                bad();
                return STATUS_UNKNOWN;
        }
    }

    public int count(int what) {
        if (!within(what, 0, COUNTS - 1)) {
            return bad();
        }
        return amount(what);
    }

    public long digest() {
        long h = 1303;
        for (int what = 0; what < COUNTS; what++) {
            h = 31 * h + amount(what);
        }
        h = now.mixedInto(h);
        h = 31 * h + above;
        return 31 * h + below;
    }

    // ---- helpers of the face

    private static boolean within(int x, int least, int most) {
        return x >= least && x <= most;
    }

    private static boolean isArt(int a) {
        return within(a, 0, ARTS - 1);
    }

    private boolean isOne(int p) {
        return within(p, 0, now.people - 1);
    }

    private boolean isToCome(int y) {
        return within(y, now.year, YEARS - 1);
    }

    private int bad() {
        refusedBad++;
        return BAD;
    }

    private int no() {
        refusedNo++;
        return NO;
    }

    private int full() {
        refusedFull++;
        return FULL;
    }

    private int amount(int what) {
        switch (what) {
            case 0:
                return now.people;
            case 1:
                return now.year;
            case 2:
                return now.prizesTold();
            case 3:
                return now.winsOfAll();
            case 4:
                return now.notes.rows;
            case 5:
                return now.beatings.rows;
            case 6:
                return now.undoable;
            default:
                return script.length;
        }
    }

    private void setFraction(int part, int whole) {
        above = 0;
        below = 1;
        if (part <= 0 || whole <= 0) {
            return;
        }
        int divisor = 1;
        for (int d = 2; d <= part; d++) {
            if (part % d == 0 && whole % d == 0) {
                divisor = d;
            }
        }
        above = part / divisor;
        below = whole / divisor;
    }

    // ---- the kinds, each under the one it is told by

    private static class Plain {
        boolean wants(int worth, int behind) {
            return true;
        }

        int skill(int art, int y) {
            return art;
        }

        boolean barredBy(int wins) {
            return wins >= 1;
        }
    }

    private static class Saver extends Plain {
        boolean wants(int worth, int behind) {
            return worth >= 15 || behind <= 1;
        }
    }

    private static final class Hider extends Plain {
        boolean barredBy(int wins) {
            return wins >= 2;
        }
    }

    private static final class Proud extends Saver {
        boolean wants(int worth, int behind) {
            return super.wants(worth, behind) && worth >= 8;
        }

        int skill(int art, int y) {
            return super.skill(art, y) + 1;
        }
    }

    private static final class Dog extends Plain {
        int skill(int art, int y) {
            return y % 2 == 1 ? 2 * super.skill(art, y) : 0;
        }
    }

    private static final class Old extends Saver {
        int skill(int art, int y) {
            return Math.max(0, super.skill(art, y) - y / 2);
        }
    }

    /** Rows of four numbers, as they come: the notes, or who was beaten. */
    private static final class Table {
        private final int[] cells = new int[ROWS * ROW];
        private int rows;

        void add(int a, int b, int c, int d) {
            if (rows >= ROWS) {
                return;
            }
            int at = rows * ROW;
            cells[at] = a;
            cells[at + 1] = b;
            cells[at + 2] = c;
            cells[at + 3] = d;
            rows++;
        }

        int cell(int row, int column) {
            if (row < 0 || row >= rows || column < 0 || column >= ROW) {
                return NONE;
            }
            return cells[row * ROW + column];
        }

        void takeRows(Table other) {
            System.arraycopy(other.cells, 0, cells, 0, cells.length);
            rows = other.rows;
        }

        long mixedInto(long h) {
            for (int i = 0; i < rows * ROW; i++) {
                h = 31 * h + cells[i];
            }
            return h;
        }
    }

    /** All that an image keeps. */
    private static final class Valley {
        private final int[] sorts = new int[YEARS];
        private final int[] worths = new int[YEARS];
        private final int[] kinds = new int[PEOPLE];
        private final int[] arts = new int[PEOPLE * SORTS];
        private final int[] wins = new int[PEOPLE];
        private final int[] seconds = new int[PEOPLE];
        private final int[] firstOf = new int[YEARS];
        private final int[] secondOf = new int[YEARS];
        private final Table notes = new Table();
        private final Table beatings = new Table();
        private int people;
        private int year;
        private int undoable;

        Valley() {
            empty();
        }

        void empty() {
            Arrays.fill(sorts, NONE);
            Arrays.fill(worths, 0);
            people = 0;
            year = 0;
            undoable = 0;
            notes.rows = 0;
            beatings.rows = 0;
        }

        void setPrize(int y, int sort, int worth) {
            sorts[y] = sort;
            worths[y] = worth;
        }

        void addOne(int kind, int a, int b, int c) {
            if (people >= PEOPLE) {
                return;
            }
            kinds[people] = kind;
            arts[people * SORTS] = a;
            arts[people * SORTS + 1] = b;
            arts[people * SORTS + 2] = c;
            wins[people] = 0;
            seconds[people] = 0;
            people++;
        }

        /** What years that go by look at and change, and no more: trials are many. */
        void takeCourse(Valley other) {
            System.arraycopy(other.sorts, 0, sorts, 0, YEARS);
            System.arraycopy(other.worths, 0, worths, 0, YEARS);
            System.arraycopy(other.kinds, 0, kinds, 0, PEOPLE);
            System.arraycopy(other.arts, 0, arts, 0, PEOPLE * SORTS);
            System.arraycopy(other.wins, 0, wins, 0, PEOPLE);
            System.arraycopy(other.seconds, 0, seconds, 0, PEOPLE);
            people = other.people;
            year = other.year;
            undoable = other.undoable;
        }

        void take(Valley other) {
            takeCourse(other);
            System.arraycopy(other.firstOf, 0, firstOf, 0, YEARS);
            System.arraycopy(other.secondOf, 0, secondOf, 0, YEARS);
            notes.takeRows(other.notes);
            beatings.takeRows(other.beatings);
        }

        void pass(int first, int second) {
            if (year < 0 || year >= YEARS) {
                return;
            }
            if (within(first, 0, people - 1)) {
                wins[first] |= 1 << year;
            }
            if (within(second, 0, people - 1)) {
                seconds[second]++;
            }
            firstOf[year] = first;
            secondOf[year] = second;
            year++;
            undoable++;
        }

        void takeBack() {
            if (year <= 0 || year > YEARS || undoable <= 0) {
                return;
            }
            year--;
            undoable--;
            int first = firstOf[year];
            int second = secondOf[year];
            if (within(first, 0, people - 1)) {
                wins[first] &= ~(1 << year);
            }
            if (within(second, 0, people - 1)) {
                seconds[second]--;
            }
        }

        void swapPrizes(int i, int j) {
            int sort = sorts[i];
            int worth = worths[i];
            setPrize(i, sorts[j], worths[j]);
            setPrize(j, sort, worth);
        }

        int worthWonBy(int p) {
            int sum = 0;
            for (int y = 0; y < YEARS; y++) {
                sum += worthWonIn(p, y);
            }
            return sum;
        }

        int worthWonIn(int p, int y) {
            return (wins[p] >> y & 1) * worths[y];
        }

        int prizesTold() {
            int told = 0;
            for (int y = 0; y < YEARS; y++) {
                if (sorts[y] != NONE) {
                    told++;
                }
            }
            return told;
        }

        int winsOfAll() {
            int sum = 0;
            for (int p = 0; p < people; p++) {
                sum += Integer.bitCount(wins[p]);
            }
            return sum;
        }

        long mixedInto(long h) {
            for (int y = 0; y < YEARS; y++) {
                h = 31 * h + sorts[y];
                h = 31 * h + worths[y];
            }
            for (int p = 0; p < people; p++) {
                h = 31 * h + kinds[p];
                for (int s = 0; s < SORTS; s++) {
                    h = 31 * h + arts[p * SORTS + s];
                }
                h = 31 * h + wins[p];
                h = 31 * h + seconds[p];
            }
            return beatings.mixedInto(notes.mixedInto(h));
        }
    }

    /** The law of a contest, and what follows from a kind. */
    private static final class Contest {
        private static final int BY_KIND = -1;

        private final Plain[] ways = new Plain[KINDS];
        private final int[] chosen = new int[PEOPLE];
        private int entrants;
        private int first;
        private int second;

        Contest() {
            ways[0] = new Plain();
            ways[1] = new Saver();
            ways[2] = new Hider();
            ways[3] = new Proud();
            ways[4] = new Dog();
            ways[5] = new Old();
            allByKind();
        }

        void allByKind() {
            Arrays.fill(chosen, BY_KIND);
        }

        /** From now on one tries in that year alone, whatever the kind would. */
        void choose(int p, int y) {
            if (within(p, 0, PEOPLE - 1)) {
                chosen[p] = y;
            }
        }

        int skillBy(int kind, int art, int y) {
            return within(kind, 0, KINDS - 1) ? ways[kind].skill(art, y) : 0;
        }

        boolean isBarred(Valley v, int p) {
            int kind = v.kinds[p];
            return within(kind, 0, KINDS - 1) && ways[kind].barredBy(Integer.bitCount(v.wins[p]));
        }

        /** How good one is in a year's contest; 0: one does not enter. */
        int strength(Valley v, int p, int y) {
            if (!within(p, 0, v.people - 1) || !within(y, 0, YEARS - 1) || v.sorts[y] == NONE) {
                return 0;
            }
            int kind = v.kinds[p];
            if (!within(kind, 0, KINDS - 1) || isBarred(v, p)) {
                return 0;
            }
            boolean byKind = chosen[p] == BY_KIND;
            boolean tries = byKind ? ways[kind].wants(v.worths[y], YEARS - 1 - y) : chosen[p] == y;
            return tries ? ways[kind].skill(v.arts[p * SORTS + v.sorts[y]], y) : 0;
        }

        int strengthOfAll(Valley v, int y) {
            int sum = 0;
            for (int p = 0; p < v.people; p++) {
                sum += strength(v, p, y);
            }
            return sum;
        }

        void hold(Valley v, int y) {
            entrants = 0;
            first = NONE;
            second = NONE;
            int best = 0;
            int next = 0;
            for (int p = 0; p < v.people; p++) {
                int good = strength(v, p, y);
                if (good > 0) {
                    entrants |= 1 << p;
                }
                if (good > best) {
                    second = first;
                    next = best;
                    first = p;
                    best = good;
                } else if (good > next) {
                    second = p;
                    next = good;
                }
            }
        }

        int handicapOf(Valley v, int p) {
            int y = v.year;
            if (!within(y, 0, YEARS - 1) || v.sorts[y] == NONE || isBarred(v, p)) {
                return NONE;
            }
            int own = skillBy(v.kinds[p], v.arts[p * SORTS + v.sorts[y]], y);
            if (own < 1) {
                return NONE;
            }
            int sum = 0;
            for (int q = 0; q < v.people; q++) {
                if (q != p) {
                    // an earlier one wins when alike, so must fall below
                    int allowed = q < p ? own - 1 : own;
                    sum += Math.max(0, strength(v, q, y) - allowed);
                }
            }
            return sum;
        }

        int kindsThatFit(Table notes, int p) {
            int bits = 0;
            for (int kind = 0; kind < KINDS; kind++) {
                if (kindFits(notes, p, kind)) {
                    bits |= 1 << kind;
                }
            }
            return bits;
        }

        private boolean kindFits(Table notes, int p, int kind) {
            for (int r = 0; r < notes.rows; r++) {
                boolean tried = notes.cell(r, 3) == 1;
                if (notes.cell(r, 0) == p && ways[kind].wants(notes.cell(r, 1), notes.cell(r, 2)) != tried) {
                    return false;
                }
            }
            return true;
        }

        /** The worth that leaves the fewest kinds in the greater part. */
        int tellingWorth(int kinds, int behind) {
            int all = Integer.bitCount(kinds);
            if (all == 0) {
                return NONE;
            }
            int least = KINDS + 1;
            int worth = NONE;
            for (int w = 1; w <= MOST_WORTH; w++) {
                int trying = 0;
                for (int kind = 0; kind < KINDS; kind++) {
                    if ((kinds >> kind & 1) == 1 && ways[kind].wants(w, behind)) {
                        trying++;
                    }
                }
                int greater = Math.max(trying, all - trying);
                if (greater < least) {
                    least = greater;
                    worth = w;
                }
            }
            return worth;
        }

        boolean isSo(Valley v, int r) {
            return isSoWith(v, r, NONE, 0);
        }

        /** Whether a beating is so, were the art of one in its sort another. */
        private boolean isSoWith(Valley v, int r, int one, int art) {
            int better = v.beatings.cell(r, 0);
            int worse = v.beatings.cell(r, 1);
            int sort = v.beatings.cell(r, 2);
            int y = v.beatings.cell(r, 3);
            if (!within(better, 0, v.people - 1) || !within(worse, 0, v.people - 1) || !within(sort, 0, SORTS - 1)) {
                return false;
            }
            int betterArt = better == one ? art : v.arts[better * SORTS + sort];
            int worseArt = worse == one ? art : v.arts[worse * SORTS + sort];
            return skillBy(v.kinds[better], betterArt, y) > skillBy(v.kinds[worse], worseArt, y);
        }

        boolean artFits(Valley v, int one, int sort, int art) {
            Table beatings = v.beatings;
            for (int r = 0; r < beatings.rows; r++) {
                boolean inIt = beatings.cell(r, 0) == one || beatings.cell(r, 1) == one;
                if (inIt && beatings.cell(r, 2) == sort && !isSoWith(v, r, one, art)) {
                    return false;
                }
            }
            return true;
        }
    }

    /** Years that go by on trial; the valley itself stays as it is. */
    private static final class Foresight {
        private static final long FACTOR = 1103515245L;
        private static final long STEP = 12345L;
        private static final long MODULUS = 2147483648L;

        private final Contest contest;
        private final Valley trial = new Valley();
        private final int[] worthsOfA = new int[YEARS * YEARS];
        private final int[] worthsOfB = new int[YEARS * YEARS];

        Foresight(Contest contest) {
            this.contest = contest;
        }

        void begin(Valley v) {
            trial.takeCourse(v);
            contest.allByKind();
        }

        void runTo(int end) {
            for (int y = trial.year; y < end && y < YEARS; y++) {
                contest.hold(trial, y);
                trial.pass(contest.first, contest.second);
            }
        }

        void contestOf(Valley v, int y) {
            begin(v);
            runTo(y);
            contest.hold(trial, y);
        }

        int untaken(Valley v) {
            begin(v);
            runTo(YEARS);
            int won = 0;
            for (int p = 0; p < trial.people; p++) {
                won |= trial.wins[p];
            }
            int bits = 0;
            for (int y = v.year; y < YEARS; y++) {
                if (v.sorts[y] != NONE && (won >> y & 1) == 0) {
                    bits |= 1 << y;
                }
            }
            return bits;
        }

        int bestYear(Valley v, int p) {
            int most = 0;
            int year = NONE;
            for (int y = v.year; y < YEARS; y++) {
                begin(v);
                contest.choose(p, y);
                runTo(y + 1);
                if (trial.worthWonIn(p, y) > most) {
                    most = trial.worthWonIn(p, y);
                    year = y;
                }
            }
            return year;
        }

        void weighRivals(Valley v, int a, int b) {
            for (int i = v.year; i < YEARS; i++) {
                for (int j = v.year; j < YEARS; j++) {
                    begin(v);
                    contest.choose(a, i);
                    contest.choose(b, j);
                    runTo(Math.max(i, j) + 1);
                    worthsOfA[i * YEARS + j] = trial.worthWonIn(a, i);
                    worthsOfB[i * YEARS + j] = trial.worthWonIn(b, j);
                }
            }
        }

        /** The k-th pair that rests, or how many do. */
        int resting(int year, int k) {
            int found = 0;
            for (int i = year; i < YEARS; i++) {
                for (int j = year; j < YEARS; j++) {
                    if (!rests(year, i, j)) {
                        continue;
                    }
                    if (found == k) {
                        return i * YEARS + j;
                    }
                    found++;
                }
            }
            return k == NONE ? found : NOT_SO_MANY;
        }

        private boolean rests(int year, int i, int j) {
            int at = i * YEARS + j;
            for (int other = year; other < YEARS; other++) {
                if (worthsOfA[other * YEARS + j] > worthsOfA[at] || worthsOfB[i * YEARS + other] > worthsOfB[at]) {
                    return false;
                }
            }
            return true;
        }

        int bestSwap(Valley v, int p) {
            begin(v);
            runTo(YEARS);
            int most = trial.worthWonBy(p);
            int pair = NONE;
            for (int i = v.year; i < YEARS; i++) {
                for (int j = i + 1; j < YEARS; j++) {
                    begin(v);
                    trial.swapPrizes(i, j);
                    runTo(YEARS);
                    if (trial.worthWonBy(p) > most) {
                        most = trial.worthWonBy(p);
                        pair = 10 * i + j;
                    }
                }
            }
            return pair;
        }

        int worthInValleys(Valley v, int seed, int n) {
            long x = seed;
            int sum = 0;
            for (int i = 0; i < n; i++) {
                begin(v);
                for (int y = v.year; y < YEARS; y++) {
                    x = (x * FACTOR + STEP) % MODULUS;
                    trial.setPrize(y, (int) (x / 65536 % SORTS), (int) (x / 1048576 % MOST_WORTH) + 1);
                    contest.hold(trial, y);
                    trial.pass(contest.first, contest.second);
                    sum += contest.first == NONE ? 0 : trial.worths[y];
                }
            }
            return sum;
        }
    }

    /** The text, and the reading of it. */
    private static final class Script {
        private static final int AT_END = 0;
        private static final int AT_WORD = 1;
        private static final int AT_NUMBER = 2;
        private static final int AT_SEMICOLON = 3;
        private static final int AT_NOTHING = 4;
        private static final int FAULT_BASE = -10;

        private final int[] bytes = new int[MOST_BYTES];
        private int length;
        private int start;
        private int end;
        private int token;
        private int number;

        void append(int c) {
            if (length < MOST_BYTES) {
                bytes[length] = c;
                length++;
            }
        }

        /** The number of items; or the fault, below FAULT_BASE. */
        int tellInto(Valley v) {
            v.empty();
            end = 0;
            advance();
            if (!isWord("valley") || !endsItem()) {
                return FAULT_BASE - start;
            }
            int items = 1;
            // an item has a byte at least, so there are fewer than bytes
            for (int i = 0; i < MOST_BYTES; i++) {
                advance();
                if (token == AT_END) {
                    return items;
                }
                boolean told = isWord("prize") ? tellPrize(v) : isWord("one") && tellOne(v);
                if (!told || !endsItem()) {
                    return FAULT_BASE - start;
                }
                items++;
            }
            return items;
        }

        private boolean tellPrize(Valley v) {
            if (!hasNumber(0, YEARS - 1)) {
                return false;
            }
            int y = number;
            if (!hasNumber(0, SORTS - 1)) {
                return false;
            }
            int sort = number;
            if (!hasNumber(1, MOST_WORTH)) {
                return false;
            }
            v.setPrize(y, sort, number);
            return true;
        }

        private boolean tellOne(Valley v) {
            // a 7th is a fault at its word, so no number is looked at
            if (v.people >= PEOPLE || !hasNumber(0, KINDS - 1)) {
                return false;
            }
            int kind = number;
            if (!hasNumber(0, ARTS - 1)) {
                return false;
            }
            int a = number;
            if (!hasNumber(0, ARTS - 1)) {
                return false;
            }
            int b = number;
            if (!hasNumber(0, ARTS - 1)) {
                return false;
            }
            v.addOne(kind, a, b, number);
            return true;
        }

        private boolean hasNumber(int least, int most) {
            advance();
            return token == AT_NUMBER && within(number, least, most);
        }

        private boolean endsItem() {
            advance();
            return token == AT_SEMICOLON;
        }

        private boolean isWord(String word) {
            if (token != AT_WORD || end - start != word.length()) {
                return false;
            }
            for (int i = 0; i < word.length(); i++) {
                if (bytes[start + i] != word.charAt(i)) {
                    return false;
                }
            }
            return true;
        }

        /** The next token: where it starts, where it ends, what it is. */
        private void advance() {
            start = end;
            while (start < length && bytes[start] == ' ') {
                start++;
            }
            end = start;
            if (start >= length) {
                token = AT_END;
            } else if (isLetter(bytes[start])) {
                token = AT_WORD;
                while (end < length && isLetter(bytes[end])) {
                    end++;
                }
            } else if (isFigure(bytes[start])) {
                takeFigures();
            } else {
                token = bytes[start] == ';' ? AT_SEMICOLON : AT_NOTHING;
                end = start + 1;
            }
        }

        private void takeFigures() {
            number = 0;
            while (end < length && isFigure(bytes[end])) {
                // only the first two count: a longer run is no number
                if (end - start < 2) {
                    number = 10 * number + bytes[end] - '0';
                }
                end++;
            }
            token = end - start <= 2 ? AT_NUMBER : AT_NOTHING;
        }

        private static boolean isLetter(int c) {
            return c >= 'a' && c <= 'z';
        }

        private static boolean isFigure(int c) {
            return c >= '0' && c <= '9';
        }
    }
}
