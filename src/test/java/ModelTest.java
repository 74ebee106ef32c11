import java.util.ArrayList;
import java.util.Arrays;
import java.util.List;
import java.util.Random;
import java.util.regex.Matcher;
import java.util.regex.Pattern;

/** Long runs of calls by a seed, against a second telling of the document that shares no code with the class. */
public final class ModelTest {
    private static final int RUNS = 3000;
    private static final int CALLS = 512;
    private static final String[] CALL_NAMES = {
        "valley", "prize", "one", "type", "clear", "read", "year", "undo", "of", "about", "good", "enter", "winner", "end",
        "left", "best", "rivals", "handicap", "order", "note", "beaten", "forget", "is", "offer", "may", "clash", "odds",
        "valleys", "part", "image", "from", "status", "count", "digest"};
    // how many numbers each call takes
    private static final int[] ARITY = {
        0, 3, 4, 1, 0, 0, 0, 0, 2, 2, 3, 1, 2, 2,
        0, 2, 3, 1, 1, 4, 4, 1, 1, 1, 2, 0, 2,
        2, 1, 1, 1, 1, 1, 0};

    public static void main(String[] args) {
        int wrong = 0;
        for (int run = 0; run < RUNS && wrong < 10; run++) {
            wrong += runOf(run) ? 0 : 1;
        }
        System.out.println(wrong == 0 ? "class and model agree" : wrong + " runs differ");
        if (wrong != 0) {
            System.exit(1);
        }
    }

    private static boolean runOf(int seed) {
        Random random = new Random(seed);
        NobodyTwice x = new NobodyTwice();
        Model m = new Model();
        List<String> told = new ArrayList<>();
        int rarely = 1 + random.nextInt(60);
        int typed = 0;
        String script = "";
        for (int i = 0; i < CALLS; i++) {
            int call;
            int[] a;
            if (typed < script.length()) {
                call = 3;
                a = new int[] {script.charAt(typed++)};
            } else if (typed > 0) {
                call = 5;
                a = new int[0];
                typed = 0;
                script = "";
            } else if (random.nextInt(80) == 0) {
                script = aScript(random);
                call = 4;
                a = new int[0];
            } else {
                call = pick(random, i, rarely);
                a = numbers(random, call, m);
            }
            long got = answer(x, call, a);
            long want = m.answer(call, a);
            told.add(CALL_NAMES[call] + Arrays.toString(a) + " = " + got);
            boolean digests = i % 16 == 0 || i == CALLS - 1;
            if (got != want || digests && x.digest() != m.digest()) {
                System.out.println("seed " + seed + ", call " + i + ": due is " + want + " at the last of");
                told.subList(Math.max(0, told.size() - 60), told.size()).forEach(System.out::println);
                return false;
            }
        }
        return true;
    }

    private static int pick(Random random, int i, int rarely) {
        if (i < 20 && random.nextInt(3) > 0) {
            return 1 + random.nextInt(2);
        }
        int call = random.nextInt(CALL_NAMES.length);
        // these undo what others built, so that they come seldom
        boolean sweeping = call == 0 || call == 1 || call == 2 || call == 4 || call == 5 || call == 21 || call == 30;
        return sweeping && random.nextInt(rarely) > 0 ? random.nextInt(2) == 0 ? 6 : 16 : call;
    }

    private static int[] numbers(Random random, int call, Model m) {
        int[] a = new int[ARITY[call]];
        for (int i = 0; i < a.length; i++) {
            a[i] = random.nextInt(10) - 1;
            if (random.nextInt(4) > 0) {
                a[i] = random.nextInt(Math.max(1, m.v.people.size()));
            }
            if (random.nextInt(150) == 0) {
                a[i] = random.nextInt(2) == 0 ? random.nextInt() : random.nextInt(40) - 5;
            }
        }
        if (random.nextInt(30) == 0) {
            return a;
        }
        switch (CALL_NAMES[call]) {
            case "prize" -> set(a, random.nextInt(8), random.nextInt(3), 1 + random.nextInt(30));
            case "one" -> set(a, random.nextInt(6), random.nextInt(10), random.nextInt(10), random.nextInt(10));
            case "type" -> set(a, random.nextInt(128));
            case "note" -> set(a, a[0], 1 + random.nextInt(30), random.nextInt(8), random.nextInt(2));
            case "beaten" -> set(a, a[0], a[1], random.nextInt(3), random.nextInt(8));
            case "good" -> set(a, a[0], random.nextInt(3), random.nextInt(8));
            case "of" -> set(a, a[0], random.nextInt(7));
            case "about" -> set(a, random.nextInt(8), random.nextInt(2));
            case "end", "best" -> set(a, a[0], random.nextInt(2));
            case "enter" -> set(a, m.v.year + random.nextInt(4));
            case "winner" -> set(a, m.v.year + random.nextInt(4), random.nextInt(2));
            case "odds" -> set(a, a[0], m.v.year + random.nextInt(4));
            case "rivals" -> set(a, a[0], a[1], random.nextInt(6) - 1);
            case "valleys" -> set(a, random.nextInt(1000000), random.nextInt(61));
            case "may" -> set(a, a[0], random.nextInt(3));
            case "forget", "image", "from" -> set(a, random.nextInt(2));
            default -> { }
        }
        return a;
    }

    private static void set(int[] a, int... values) {
        System.arraycopy(values, 0, a, 0, a.length);
    }

    private static String aScript(Random random) {
        StringBuilder text = new StringBuilder("valley;");
        int items = random.nextInt(11);
        for (int i = 0; i < items; i++) {
            if (random.nextInt(2) == 0) {
                text.append("prize ").append(random.nextInt(8)).append(' ').append(random.nextInt(3)).append(' ')
                    .append(1 + random.nextInt(30)).append(';');
            } else {
                text.append("one ").append(random.nextInt(6)).append(' ').append(random.nextInt(10)).append(' ')
                    .append(random.nextInt(10)).append(' ').append(random.nextInt(10)).append(';');
            }
        }
        for (int faults = random.nextInt(4); faults > 0 && text.length() > 0; faults--) {
            int at = random.nextInt(text.length());
            String odd = " ;0189aovpz-\t";
            switch (random.nextInt(4)) {
                case 0 -> text.setCharAt(at, odd.charAt(random.nextInt(odd.length())));
                case 1 -> text.deleteCharAt(at);
                case 2 -> text.insert(at, random.nextBoolean() ? " " : String.valueOf(odd.charAt(random.nextInt(odd.length()))));
                default -> text.setLength(random.nextInt(4) == 0 ? at : text.length());
            }
        }
        return text.toString();
    }

    private static long answer(NobodyTwice x, int call, int[] a) {
        return switch (CALL_NAMES[call]) {
            case "valley" -> x.valley();
            case "prize" -> x.prize(a[0], a[1], a[2]);
            case "one" -> x.one(a[0], a[1], a[2], a[3]);
            case "type" -> x.type(a[0]);
            case "clear" -> x.clear();
            case "read" -> x.read();
            case "year" -> x.year();
            case "undo" -> x.undo();
            case "of" -> x.of(a[0], a[1]);
            case "about" -> x.about(a[0], a[1]);
            case "good" -> x.good(a[0], a[1], a[2]);
            case "enter" -> x.enter(a[0]);
            case "winner" -> x.winner(a[0], a[1]);
            case "end" -> x.end(a[0], a[1]);
            case "left" -> x.left();
            case "best" -> x.best(a[0], a[1]);
            case "rivals" -> x.rivals(a[0], a[1], a[2]);
            case "handicap" -> x.handicap(a[0]);
            case "order" -> x.order(a[0]);
            case "note" -> x.note(a[0], a[1], a[2], a[3]);
            case "beaten" -> x.beaten(a[0], a[1], a[2], a[3]);
            case "forget" -> x.forget(a[0]);
            case "is" -> x.is(a[0]);
            case "offer" -> x.offer(a[0]);
            case "may" -> x.may(a[0], a[1]);
            case "clash" -> x.clash();
            case "odds" -> x.odds(a[0], a[1]);
            case "valleys" -> x.valleys(a[0], a[1]);
            case "part" -> x.part(a[0]);
            case "image" -> x.image(a[0]);
            case "from" -> x.from(a[0]);
            case "status" -> x.status(a[0]);
            case "count" -> x.count(a[0]);
            default -> x.digest();
        };
    }

    private record Prize(int sort, int worth) { }

    private record Person(int kind, List<Integer> arts, List<Integer> wins, int seconds) {
        Person won(int y) {
            List<Integer> more = new ArrayList<>(wins);
            more.add(y);
            return new Person(kind, arts, more, seconds);
        }

        Person wasSecond() {
            return new Person(kind, arts, wins, seconds + 1);
        }
    }

    private record Result(int entrants, int first, int second) { }

    /** The state is copied whole at each change, so that undoing and images are the state as it was. */
    private static final class State {
        Prize[] prizes = new Prize[8];
        List<Person> people = new ArrayList<>();
        int year;
        List<State> before = new ArrayList<>();
        List<int[]> notes = new ArrayList<>();
        List<int[]> beaten = new ArrayList<>();

        State copy() {
            State s = new State();
            s.prizes = prizes.clone();
            s.people = new ArrayList<>(people);
            s.year = year;
            s.before = new ArrayList<>(before);
            s.notes = new ArrayList<>(notes);
            s.beaten = new ArrayList<>(beaten);
            return s;
        }
    }

    private static final class Model {
        State v = new State();
        State[] images = new State[2];
        String text = "";
        long above = 0;
        long below = 1;
        int[] status = new int[3];

        private long refuse(int reason, long answer) {
            status[reason]++;
            return answer;
        }

        private long bad() {
            return refuse(0, -2);
        }

        static boolean tries(int kind, int w, int l) {
            boolean saver = w > 14 || l < 2;
            return switch (kind) {
                case 1, 5 -> saver;
                case 3 -> saver && w > 7;
                default -> true;
            };
        }

        static int good(int kind, int art, int y) {
            return switch (kind) {
                case 3 -> art + 1;
                case 4 -> (y & 1) * 2 * art;
                case 5 -> art > y / 2 ? art - y / 2 : 0;
                default -> art;
            };
        }

        static boolean barred(Person p) {
            return p.wins.size() > (p.kind == 2 ? 1 : 0);
        }

        /** alone: pairs of one and the only year it tries in. */
        static Result contest(State s, int y, int... alone) {
            Prize prize = s.prizes[y];
            if (prize == null) {
                return new Result(0, -1, -1);
            }
            List<int[]> field = new ArrayList<>();
            int bits = 0;
            for (int i = 0; i < s.people.size(); i++) {
                Person p = s.people.get(i);
                boolean tries = tries(p.kind, prize.worth, 7 - y);
                for (int k = 0; k < alone.length; k += 2) {
                    if (alone[k] == i) {
                        tries = alone[k + 1] == y;
                    }
                }
                int good = good(p.kind, p.arts.get(prize.sort), y);
                if (tries && !barred(p) && good > 0) {
                    field.add(new int[] {good, i});
                    bits += 1 << i;
                }
            }
            field.sort((f, g) -> f[0] != g[0] ? g[0] - f[0] : f[1] - g[1]);
            return new Result(bits, field.isEmpty() ? -1 : field.get(0)[1], field.size() < 2 ? -1 : field.get(1)[1]);
        }

        static State next(State s, int... alone) {
            Result r = contest(s, s.year, alone);
            State t = s.copy();
            if (r.first >= 0) {
                t.people.set(r.first, t.people.get(r.first).won(s.year));
            }
            if (r.second >= 0) {
                t.people.set(r.second, t.people.get(r.second).wasSecond());
            }
            t.year++;
            t.before.add(s);
            return t;
        }

        static State at(State s, int y, int... alone) {
            while (s.year < y) {
                s = next(s, alone);
            }
            return s;
        }

        static int worth(State s, int p) {
            return s.people.get(p).wins.stream().mapToInt(y -> s.prizes[y].worth).sum();
        }

        static int gain(State s, int p, int y, int... alone) {
            State last = at(s, 8, alone);
            return last.people.get(p).wins.contains(y) ? last.prizes[y].worth : 0;
        }

        private boolean one(int p) {
            return p >= 0 && p < v.people.size();
        }

        private static boolean in(int x, int low, int high) {
            return low <= x && x <= high;
        }

        long answer(int call, int[] a) {
            return switch (CALL_NAMES[call]) {
                case "valley" -> {
                    int had = v.people.size();
                    v = new State();
                    yield had;
                }
                case "prize" -> prize(a[0], a[1], a[2]);
                case "one" -> come(a);
                case "type" -> type(a[0]);
                case "clear" -> {
                    int had = text.length();
                    text = "";
                    yield had;
                }
                case "read" -> read();
                case "year" -> {
                    if (v.year > 7) {
                        yield refuse(1, -3);
                    }
                    int first = contest(v, v.year).first;
                    v = next(v);
                    yield first;
                }
                case "undo" -> undo();
                case "of" -> !one(a[0]) || !in(a[1], 0, 6) ? bad() : of(v.people.get(a[0]), a[1]);
                case "about" -> {
                    if (!in(a[0], 0, 7) || !in(a[1], 0, 1)) {
                        yield refuse(0, -10);
                    }
                    Prize p = v.prizes[a[0]];
                    yield a[1] == 0 ? p == null ? -1 : p.sort : p == null ? 0 : p.worth;
                }
                case "good" -> !one(a[0]) || !in(a[1], 0, 2) || !in(a[2], 0, 7) ? bad()
                    : good(v.people.get(a[0]).kind, v.people.get(a[0]).arts.get(a[1]), a[2]);
                case "enter" -> !in(a[0], v.year, 7) ? bad() : contest(at(v, a[0]), a[0]).entrants;
                case "winner" -> {
                    if (!in(a[0], v.year, 7) || !in(a[1], 0, 1)) {
                        yield bad();
                    }
                    Result r = contest(at(v, a[0]), a[0]);
                    yield a[1] == 0 ? r.first : r.second;
                }
                case "end" -> !one(a[0]) || !in(a[1], 0, 1) ? bad()
                    : a[1] == 0 ? worth(at(v, 8), a[0]) : at(v, 8).people.get(a[0]).seconds;
                case "left" -> left();
                case "best" -> best(a[0], a[1]);
                case "rivals" -> rivals(a[0], a[1], a[2]);
                case "handicap" -> handicap(a[0]);
                case "order" -> order(a[0]);
                default -> answerOfTheRest(call, a);
            };
        }

        private long answerOfTheRest(int call, int[] a) {
            return switch (CALL_NAMES[call]) {
                case "note" -> !one(a[0]) || !in(a[1], 1, 30) || !in(a[2], 0, 7) || !in(a[3], 0, 1) ? bad() : add(v.notes, a);
                case "beaten" -> !one(a[0]) || !one(a[1]) || a[0] == a[1] || !in(a[2], 0, 2) || !in(a[3], 0, 7) ? bad()
                    : add(v.beaten, a);
                case "forget" -> {
                    if (!in(a[0], 0, 1)) {
                        yield bad();
                    }
                    List<int[]> rows = a[0] == 0 ? v.notes : v.beaten;
                    int had = rows.size();
                    rows.clear();
                    yield had;
                }
                case "is" -> !one(a[0]) ? bad() : fitting(a[0]).stream().mapToInt(k -> 1 << k).sum();
                case "offer" -> !one(a[0]) ? bad() : offer(fitting(a[0]));
                case "may" -> !one(a[0]) || !in(a[1], 0, 2) ? bad() : may(a[0], a[1]);
                case "clash" -> v.beaten.stream().filter(b -> !so(v, b)).count();
                case "odds" -> odds(a[0], a[1]);
                case "valleys" -> !in(a[0], 0, 999999) || !in(a[1], 0, 60) ? bad() : valleys(a[0], a[1]);
                case "part" -> !in(a[0], 0, 1) ? bad() : a[0] == 0 ? above : below;
                case "image" -> {
                    if (!in(a[0], 0, 1)) {
                        yield bad();
                    }
                    images[a[0]] = v.copy();
                    yield 1;
                }
                case "from" -> {
                    if (!in(a[0], 0, 1)) {
                        yield bad();
                    }
                    if (images[a[0]] == null) {
                        yield refuse(1, -3);
                    }
                    v = images[a[0]].copy();
                    yield 1;
                }
                case "status" -> in(a[0], 0, 2) ? status[a[0]] : refuse(0, -1);
                case "count" -> !in(a[0], 0, 7) ? bad() : counts()[a[0]];
                default -> digest();
            };
        }

        private long prize(int y, int sort, int worth) {
            if (!in(y, 0, 7) || !in(sort, 0, 2) || !in(worth, 1, 30)) {
                return bad();
            }
            int had = v.prizes[y] == null ? 0 : v.prizes[y].worth;
            v.prizes[y] = new Prize(sort, worth);
            v.before.clear();
            return had;
        }

        private long come(int[] a) {
            if (!in(a[0], 0, 5) || !in(a[1], 0, 9) || !in(a[2], 0, 9) || !in(a[3], 0, 9)) {
                return bad();
            }
            if (v.people.size() == 6) {
                return refuse(2, -4);
            }
            v.people.add(new Person(a[0], List.of(a[1], a[2], a[3]), List.of(), 0));
            v.before.clear();
            return v.people.size() - 1;
        }

        private long type(int c) {
            if (!in(c, 0, 127)) {
                return bad();
            }
            if (text.length() == 150) {
                return refuse(2, -4);
            }
            text += (char) c;
            return text.length();
        }

        private static final Pattern TOKEN = Pattern.compile(" *(?:([a-z]+)|([0-9]+)|(;)|([^ ])|$)", Pattern.DOTALL);
        private static final int[][] PRIZE = {{0, 7}, {0, 2}, {1, 30}};
        private static final int[][] ONE = {{0, 5}, {0, 9}, {0, 9}, {0, 9}};

        /** The tokens are looked at one by one, against what may stand there: words, a number's bounds, or the end of an item. */
        private long read() {
            State s = new State();
            Matcher token = TOKEN.matcher(text);
            List<Integer> item = new ArrayList<>();
            String word = "";
            int items = 0;
            int from = 0;
            while (true) {
                token.find(from);
                from = token.end();
                int place = token.end();
                for (int g = 1; g <= 4; g++) {
                    place = token.group(g) != null ? token.start(g) : place;
                }
                int[][] bounds = word.equals("prize") ? PRIZE : word.equals("one") ? ONE : new int[0][];
                if (word.isEmpty()) {
                    if (token.group(1) == null && place == text.length() && items > 0) {
                        v = s;
                        return items;
                    }
                    String w = token.group(1);
                    boolean fits = items == 0 ? "valley".equals(w) : "prize".equals(w) || "one".equals(w) && s.people.size() < 6;
                    if (!fits) {
                        return -10 - place;
                    }
                    word = w;
                } else if (item.size() < bounds.length) {
                    String figures = token.group(2);
                    if (figures == null || figures.length() > 2) {
                        return -10 - place;
                    }
                    int n = Integer.parseInt(figures);
                    if (!in(n, bounds[item.size()][0], bounds[item.size()][1])) {
                        return -10 - place;
                    }
                    item.add(n);
                } else if (token.group(3) == null) {
                    return -10 - place;
                } else {
                    if (word.equals("prize")) {
                        s.prizes[item.get(0)] = new Prize(item.get(1), item.get(2));
                    } else if (word.equals("one")) {
                        s.people.add(new Person(item.get(0), List.copyOf(item.subList(1, 4)), List.of(), 0));
                    }
                    items++;
                    word = "";
                    item.clear();
                }
            }
        }

        private long undo() {
            if (v.before.isEmpty()) {
                return refuse(1, -3);
            }
            State then = v.before.get(v.before.size() - 1).copy();
            // notes and beaten are not undone
            then.notes = v.notes;
            then.beaten = v.beaten;
            then.before = new ArrayList<>(v.before.subList(0, v.before.size() - 1));
            v = then;
            return v.year;
        }

        private static long of(Person p, int what) {
            return switch (what) {
                case 0 -> p.kind;
                case 1, 2, 3 -> p.arts.get(what - 1);
                case 4 -> p.wins.stream().mapToInt(y -> 1 << y).sum();
                case 5 -> p.seconds;
                default -> barred(p) ? 1 : 0;
            };
        }

        private long left() {
            long bits = 0;
            for (State s = v; s.year < 8; s = next(s)) {
                bits += s.prizes[s.year] != null && contest(s, s.year).first < 0 ? 1 << s.year : 0;
            }
            return bits;
        }

        private long best(int p, int what) {
            if (!one(p) || !in(what, 0, 1)) {
                return bad();
            }
            int most = 0;
            int when = -1;
            for (int y = 7; y >= v.year; y--) {
                int worth = gain(v, p, y, p, y);
                if (worth > 0 && worth >= most) {
                    most = worth;
                    when = y;
                }
            }
            return when < 0 || what == 0 ? when : most;
        }

        private long rivals(int a, int b, int k) {
            if (!one(a) || !one(b) || a == b || k < -1) {
                return refuse(0, -10);
            }
            int[][][] pay = new int[8][8][];
            for (int i = v.year; i < 8; i++) {
                for (int j = v.year; j < 8; j++) {
                    pay[i][j] = new int[] {gain(v, a, i, a, i, b, j), gain(v, b, j, a, i, b, j)};
                }
            }
            List<Integer> resting = new ArrayList<>();
            for (int i = v.year; i < 8; i++) {
                for (int j = v.year; j < 8; j++) {
                    boolean rests = true;
                    for (int o = v.year; o < 8; o++) {
                        rests &= pay[o][j][0] <= pay[i][j][0] && pay[i][o][1] <= pay[i][j][1];
                    }
                    if (rests) {
                        resting.add(8 * i + j);
                    }
                }
            }
            return k == -1 ? resting.size() : k < resting.size() ? resting.get(k) : -5;
        }

        private long handicap(int p) {
            if (!one(p)) {
                return bad();
            }
            if (v.year > 7 || v.prizes[v.year] == null || barred(v.people.get(p))) {
                return -1;
            }
            Prize prize = v.prizes[v.year];
            int own = good(v.people.get(p).kind, v.people.get(p).arts.get(prize.sort), v.year);
            if (own == 0) {
                return -1;
            }
            int entrants = contest(v, v.year).entrants;
            int sum = 0;
            for (int q = 0; q < v.people.size(); q++) {
                int good = good(v.people.get(q).kind, v.people.get(q).arts.get(prize.sort), v.year);
                while (q != p && (entrants >> q & 1) == 1 && (good > own || good == own && q < p)) {
                    good--;
                    sum++;
                }
            }
            return sum;
        }

        private long order(int p) {
            if (!one(p)) {
                return bad();
            }
            int most = worth(at(v, 8), p);
            int pair = -1;
            for (int i = v.year; i < 8; i++) {
                for (int j = i + 1; j < 8; j++) {
                    State s = v.copy();
                    s.prizes[i] = v.prizes[j];
                    s.prizes[j] = v.prizes[i];
                    int worth = worth(at(s, 8), p);
                    if (worth > most) {
                        most = worth;
                        pair = 10 * i + j;
                    }
                }
            }
            return pair;
        }

        private long add(List<int[]> rows, int[] a) {
            if (rows.size() == 6) {
                return refuse(2, -4);
            }
            rows.add(a.clone());
            return rows.size();
        }

        private List<Integer> fitting(int p) {
            List<Integer> kinds = new ArrayList<>();
            for (int kind = 0; kind < 6; kind++) {
                int k = kind;
                if (v.notes.stream().allMatch(n -> n[0] != p || tries(k, n[1], n[2]) == (n[3] == 1))) {
                    kinds.add(kind);
                }
            }
            return kinds;
        }

        private long offer(List<Integer> kinds) {
            int left = v.year > 7 ? 0 : 7 - v.year;
            int worth = -1;
            long least = Long.MAX_VALUE;
            for (int w = 30; w > 0 && !kinds.isEmpty(); w--) {
                int at = w;
                long trying = kinds.stream().filter(k -> tries(k, at, left)).count();
                long greater = Math.max(trying, kinds.size() - trying);
                if (greater <= least) {
                    least = greater;
                    worth = w;
                }
            }
            return worth;
        }

        private static boolean so(State s, int[] b) {
            Person p = s.people.get(b[0]);
            Person q = s.people.get(b[1]);
            return good(p.kind, p.arts.get(b[2]), b[3]) > good(q.kind, q.arts.get(b[2]), b[3]);
        }

        private long may(int p, int sort) {
            long bits = 0;
            for (int art = 0; art < 10; art++) {
                State s = v.copy();
                List<Integer> arts = new ArrayList<>(s.people.get(p).arts);
                arts.set(sort, art);
                s.people.set(p, new Person(s.people.get(p).kind, arts, List.of(), 0));
                if (s.beaten.stream().allMatch(b -> b[2] != sort || b[0] != p && b[1] != p || so(s, b))) {
                    bits |= 1 << art;
                }
            }
            return bits;
        }

        private long odds(int p, int y) {
            if (!one(p) || !in(y, v.year, 7)) {
                return bad();
            }
            State s = at(v, y);
            int entrants = contest(s, y).entrants;
            long own = 0;
            long all = 0;
            for (int q = 0; q < s.people.size(); q++) {
                if ((entrants >> q & 1) == 1) {
                    int good = good(s.people.get(q).kind, s.people.get(q).arts.get(s.prizes[y].sort), y);
                    all += good;
                    own += q == p ? good : 0;
                }
            }
            long g = own;
            for (long r = all; r != 0; ) {
                long t = g % r;
                g = r;
                r = t;
            }
            above = own == 0 ? 0 : own / g;
            below = own == 0 ? 1 : all / g;
            return 1;
        }

        private long valleys(int seed, int n) {
            long x = seed;
            long sum = 0;
            for (int i = 0; i < n; i++) {
                State s = v.copy();
                for (int y = v.year; y < 8; y++) {
                    x = x * 1103515245L + 12345L & Integer.MAX_VALUE;
                    s.prizes[y] = new Prize((int) (x >> 16) % 3, (int) (x >> 20) % 30 + 1);
                }
                while (s.year < 8) {
                    sum += contest(s, s.year).first < 0 ? 0 : s.prizes[s.year].worth;
                    s = next(s);
                }
            }
            return sum;
        }

        private long[] counts() {
            return new long[] {v.people.size(), v.year, Arrays.stream(v.prizes).filter(p -> p != null).count(),
                v.people.stream().mapToInt(p -> p.wins.size()).sum(), v.notes.size(), v.beaten.size(), v.before.size(),
                text.length()};
        }

        long digest() {
            List<Long> row = new ArrayList<>();
            for (long c : counts()) {
                row.add(c);
            }
            for (Prize p : v.prizes) {
                row.add(p == null ? -1L : p.sort);
                row.add(p == null ? 0L : p.worth);
            }
            for (Person p : v.people) {
                for (int what = 0; what < 6; what++) {
                    row.add(of(p, what));
                }
            }
            for (int[] n : v.notes) {
                Arrays.stream(n).forEach(i -> row.add((long) i));
            }
            for (int[] b : v.beaten) {
                Arrays.stream(b).forEach(i -> row.add((long) i));
            }
            row.add(above);
            row.add(below);
            return row.stream().reduce(1303L, (h, i) -> 31 * h + i);
        }
    }
}
