import java.util.function.ToLongFunction;

/** Each promise by hand: ordinary inputs, the edges that the document names, wrong inputs. */
public final class PromisesTest {
    private static int wrong = 0;
    private static int promise = 0;

    private static void due(String call, long got, long want) {
        if (got != want) {
            wrong++;
            System.out.println("promise " + promise + ": " + call + " answered " + got + ", due is " + want);
        }
    }

    public static void main(String[] args) {
        newObject();
        valley();
        prize();
        one();
        typeAndClear();
        readItems();
        readFaults();
        yearAndUndo();
        of();
        about();
        good();
        enterAndWinner();
        end();
        left();
        best();
        rivals();
        handicap();
        order();
        notes();
        offer();
        beaten();
        odds();
        valleys();
        images();
        status();
        count();
        digest();
        System.out.println(wrong == 0 ? "all promises hold" : wrong + " answers are not as due");
        if (wrong != 0) {
            System.exit(1);
        }
    }

    private static int read(NobodyTwice x, String text) {
        x.clear();
        for (char c : text.toCharArray()) {
            x.type(c);
        }
        return x.read();
    }

    private static NobodyTwice told(String text) {
        NobodyTwice x = new NobodyTwice();
        if (read(x, text) < 0) {
            due("read of " + text, x.read(), 1);
        }
        return x;
    }

    private static void bad(String call, NobodyTwice x, ToLongFunction<NobodyTwice> f) {
        refusedAs(call, x, f, -2, 0);
    }

    /** A refused call answers so, counts in the status by its reason alone, and changes nothing else. */
    private static void refusedAs(String call, NobodyTwice x, ToLongFunction<NobodyTwice> f, long answer, int reason) {
        int[] had = {x.status(0), x.status(1), x.status(2)};
        long digest = x.digest();
        due(call, f.applyAsLong(x), answer);
        for (int i = 0; i < 3; i++) {
            due("status(" + i + ") behind " + call, x.status(i), had[i] + (i == reason ? 1 : 0));
        }
        due("digest() behind " + call, x.digest(), digest);
    }

    private static void newObject() {
        promise = 1;
        NobodyTwice x = new NobodyTwice();
        for (int i = 0; i < 8; i++) {
            due("count(" + i + ")", x.count(i), 0);
            due("about(" + i + ", 0)", x.about(i, 0), -1);
            due("about(" + i + ", 1)", x.about(i, 1), 0);
            due("enter(" + i + ")", x.enter(i), 0);
        }
        due("part(0)", x.part(0), 0);
        due("part(1)", x.part(1), 1);
        due("status(0)", x.status(0), 0);
        due("status(1)", x.status(1), 0);
        due("status(2)", x.status(2), 0);
    }

    private static void valley() {
        promise = 2;
        NobodyTwice x = told("valley;prize 0 0 9;one 0 5 5 5;one 2 4 4 4;");
        x.image(1);
        x.odds(0, 0);
        x.year();
        x.note(0, 3, 3, 1);
        x.beaten(0, 1, 0, 0);
        x.of(9, 0);
        due("valley()", x.valley(), 2);
        for (int i = 0; i < 7; i++) {
            due("count(" + i + ")", x.count(i), 0);
        }
        due("count(7)", x.count(7), 43);
        due("part(0)", x.part(0), 5);
        due("part(1)", x.part(1), 9);
        due("status(0)", x.status(0), 1);
        due("valley()", x.valley(), 0);
        due("one", x.one(0, 1, 1, 1), 0);
        due("of(0, 4)", x.of(0, 4), 0);
        due("of(0, 5)", x.of(0, 5), 0);
        due("from(1)", x.from(1), 1);
        due("count(0)", x.count(0), 2);
    }

    private static void prize() {
        promise = 3;
        NobodyTwice x = new NobodyTwice();
        due("prize(0, 0, 1)", x.prize(0, 0, 1), 0);
        due("prize(7, 2, 30)", x.prize(7, 2, 30), 0);
        due("prize(7, 1, 29)", x.prize(7, 1, 29), 30);
        due("about(7, 0)", x.about(7, 0), 1);
        due("about(7, 1)", x.about(7, 1), 29);
        due("count(2)", x.count(2), 2);
        x.year();
        due("prize(0, 1, 4) behind it", x.prize(0, 1, 4), 1);
        due("count(6)", x.count(6), 0);
        bad("prize(-1, 0, 1)", x, o -> o.prize(-1, 0, 1));
        bad("prize(8, 0, 1)", x, o -> o.prize(8, 0, 1));
        bad("prize(0, -1, 1)", x, o -> o.prize(0, -1, 1));
        bad("prize(0, 3, 1)", x, o -> o.prize(0, 3, 1));
        bad("prize(0, 0, 0)", x, o -> o.prize(0, 0, 0));
        bad("prize(0, 0, 31)", x, o -> o.prize(0, 0, 31));
        bad("prize(min)", x, o -> o.prize(Integer.MIN_VALUE, 0, 1));
        bad("prize(max)", x, o -> o.prize(0, 0, Integer.MAX_VALUE));
    }

    private static void one() {
        promise = 4;
        NobodyTwice x = new NobodyTwice();
        for (int i = 0; i < 6; i++) {
            due("one", x.one(i, 0, 9, i), i);
            due("of kind", x.of(i, 0), i);
        }
        bad("one(6, ..)", x, o -> o.one(6, 0, 0, 0));
        bad("one(-1, ..)", x, o -> o.one(-1, 0, 0, 0));
        bad("one(0, 10, 0, 0)", x, o -> o.one(0, 10, 0, 0));
        bad("one(0, 0, 10, 0)", x, o -> o.one(0, 0, 10, 0));
        bad("one(0, 0, 0, 10)", x, o -> o.one(0, 0, 0, 10));
        bad("one(0, -1, 0, 0)", x, o -> o.one(0, -1, 0, 0));
        bad("one(0, 0, 0, -1)", x, o -> o.one(0, 0, 0, -1));
        refusedAs("a 7th one", x, o -> o.one(0, 0, 0, 0), -4, 2);
    }

    private static void typeAndClear() {
        promise = 5;
        NobodyTwice x = new NobodyTwice();
        bad("type(-1)", x, o -> o.type(-1));
        bad("type(128)", x, o -> o.type(128));
        due("type(0)", x.type(0), 1);
        due("type(127)", x.type(127), 2);
        for (int i = 3; i <= 150; i++) {
            due("type(32)", x.type(32), i);
        }
        refusedAs("a 151st byte", x, o -> o.type(32), -4, 2);
        bad("type(128) when full", x, o -> o.type(128));
        promise = 6;
        due("clear()", x.clear(), 150);
        due("clear()", x.clear(), 0);
        due("type(59)", x.type(59), 1);
        due("count(7)", x.count(7), 1);
    }

    private static void readItems() {
        promise = 7;
        NobodyTwice x = new NobodyTwice();
        x.one(0, 9, 9, 9);
        x.prize(0, 0, 5);
        x.year();
        x.note(0, 1, 1, 1);
        x.one(1, 1, 1, 1);
        x.beaten(0, 1, 0, 0);
        x.odds(0, 7);
        due("read", read(x, "valley;"), 1);
        for (int i = 0; i < 7; i++) {
            due("count(" + i + ")", x.count(i), 0);
        }
        due("count(7)", x.count(7), 7);
        due("read", read(x, "  valley ;  prize 7  02 30 ; one 05 9 0 09;  "), 3);
        due("about(7, 0)", x.about(7, 0), 2);
        due("about(7, 1)", x.about(7, 1), 30);
        due("of(0, 0)", x.of(0, 0), 5);
        due("of(0, 3)", x.of(0, 3), 9);
        due("of(0, 4)", x.of(0, 4), 0);
        x.year();
        due("count(6)", x.count(6), 1);
        due("read again", x.read(), 3);
        due("undo()", x.undo(), -3);
        due("read, a year told twice", read(x, "valley;prize 3 0 9;prize 3 1 8;"), 3);
        due("about(3, 1)", x.about(3, 1), 8);
        due("about(3, 0)", x.about(3, 0), 1);
        due("read, nothing between word and number", read(x, "valley;one0 1 2 3;"), 2);
        due("of(0, 3)", x.of(0, 3), 3);
        due("read of six", read(x, "valley;" + "one 0 1 2 3;".repeat(6)), 7);
        due("count(0)", x.count(0), 6);
    }

    private static void readFaults() {
        promise = 7;
        fault("", 0);
        fault("   ", 3);
        fault("valley", 6);
        fault("valley  ", 8);
        fault("valle;", 0);
        fault(" valleys;", 1);
        fault("Valley;", 0);
        fault(";", 0);
        fault("one 0 1 1 1;valley;", 0);
        fault("12 valley;", 0);
        fault("valley;valley;", 7);
        fault("valley; valley;", 8);
        fault("valley;;", 7);
        fault("valley 1;", 7);
        fault("valley one 0 1 1 1;", 7);
        fault("valley;two 0;", 7);
        fault("valley;pri", 7);
        fault("valley;5;", 7);
        fault("valley;prize", 12);
        fault("valley;prize 8 0 1;", 13);
        fault("valley;prize 10 0 1;", 13);
        fault("valley;prize 7 3 1;", 15);
        fault("valley;prize 7 2 0;", 17);
        fault("valley;prize 7 2 31;", 17);
        fault("valley;prize 7 2 030;", 17);
        fault("valley;prize 7 2;", 16);
        fault("valley;prize 7 2 3 4;", 19);
        fault("valley;prize 7 2 x;", 17);
        fault("valley;prize 7 2 3", 18);
        fault("valley;prize 7 2 3 ", 19);
        fault("valley;one 6 1 1 1;", 11);
        fault("valley;one 5 10 1 1;", 13);
        fault("valley;one 5 1 10 1;", 15);
        fault("valley;one 5 1 1 10;", 17);
        fault("valley;one 5 1 1;", 16);
        fault("valley;one 5 1 1 1 one", 19);
        fault("valley;one 5 -1 1 1;", 13);
        fault("valley;\tone 5 1 1 1;", 7);
        fault("valley;one 0 1 1 1;%", 19);
        fault("valley;one 0 1234567890123 1 1;", 13);
        fault("valley;" + "one 0 1 2 3;".repeat(6) + " one", 80);
        fault("valley;" + "one 0 1 2 3;".repeat(6) + "one 0 1 2 3;", 79);
        fault("\0valley;", 0);
        fault("valley;\177", 7);
    }

    private static void fault(String text, int place) {
        NobodyTwice x = told("valley;prize 1 1 20;one 0 4 4 4;");
        x.year();
        x.year();
        int people = x.count(0);
        int wins = x.of(0, 4);
        due("read of \"" + text + "\"", read(x, text), -10 - place);
        due("count(0)", x.count(0), people);
        due("count(1)", x.count(1), 2);
        due("count(2)", x.count(2), 1);
        due("count(6)", x.count(6), 2);
        due("of(0, 4)", x.of(0, 4), wins);
        due("a fault is not refused", x.status(0) + x.status(1) + x.status(2), 0);
    }

    private static void yearAndUndo() {
        promise = 8;
        NobodyTwice x = told("valley;prize 0 0 20;prize 1 1 20;prize 2 2 20;one 0 5 5 5;one 2 5 5 5;one 0 3 6 3;");
        due("year() 0: alike, the first", x.year(), 0);
        due("of(1, 5)", x.of(1, 5), 1);
        due("of(2, 5)", x.of(2, 5), 0);
        due("year() 1", x.year(), 2);
        due("of(1, 5)", x.of(1, 5), 2);
        due("year() 2: a hider", x.year(), 1);
        due("of(1, 4)", x.of(1, 4), 4);
        due("no second", x.of(0, 5) + x.of(2, 5), 0);
        for (int y = 3; y < 8; y++) {
            due("year() without a prize", x.year(), -1);
        }
        refusedAs("year() behind all", x, NobodyTwice::year, -3, 1);
        promise = 9;
        due("count(6)", x.count(6), 8);
        for (int y = 7; y >= 3; y--) {
            due("undo()", x.undo(), y);
        }
        due("of(1, 4)", x.of(1, 4), 4);
        due("undo()", x.undo(), 2);
        due("of(1, 4)", x.of(1, 4), 0);
        due("of(1, 5)", x.of(1, 5), 2);
        due("undo()", x.undo(), 1);
        due("of(1, 5)", x.of(1, 5), 1);
        due("of(2, 4)", x.of(2, 4), 0);
        due("of(0, 4)", x.of(0, 4), 1);
        due("year() once more", x.year(), 2);
        x.note(0, 1, 1, 1);
        x.beaten(0, 1, 1, 1);
        due("undo() behind a note", x.undo(), 1);
        bad("one(9, ..)", x, o -> o.one(9, 9, 9, 9));
        due("undo() behind one refused", x.undo(), 0);
        refusedAs("undo()", x, NobodyTwice::undo, -3, 1);
        x.year();
        x.one(0, 1, 1, 1);
        refusedAs("undo() behind one that came", x, NobodyTwice::undo, -3, 1);
        x.year();
        x.prize(6, 0, 3);
        refusedAs("undo() behind a prize", x, NobodyTwice::undo, -3, 1);
    }

    private static void of() {
        promise = 10;
        NobodyTwice x = told("valley;prize 0 0 20;prize 1 0 20;prize 2 0 20;one 2 7 8 9;one 4 1 2 3;");
        due("of(1, 0)", x.of(1, 0), 4);
        due("of(1, 1)", x.of(1, 1), 1);
        due("of(1, 2)", x.of(1, 2), 2);
        due("of(1, 3)", x.of(1, 3), 3);
        x.year();
        due("of(0, 6): a hider with one", x.of(0, 6), 0);
        x.year();
        due("of(0, 4)", x.of(0, 4), 3);
        due("of(0, 6): a hider with two", x.of(0, 6), 1);
        due("of(1, 5): a dog in year 1", x.of(1, 5), 1);
        due("of(1, 6)", x.of(1, 6), 0);
        bad("of(2, 0)", x, o -> o.of(2, 0));
        bad("of(-1, 0)", x, o -> o.of(-1, 0));
        bad("of(0, 7)", x, o -> o.of(0, 7));
        bad("of(0, -1)", x, o -> o.of(0, -1));
    }

    private static void about() {
        promise = 11;
        NobodyTwice x = told("valley;prize 4 2 17;");
        due("about(4, 0)", x.about(4, 0), 2);
        due("about(4, 1)", x.about(4, 1), 17);
        due("about(5, 0)", x.about(5, 0), -1);
        due("about(5, 1)", x.about(5, 1), 0);
        refusedAs("about(8, 0)", x, o -> o.about(8, 0), -10, 0);
        refusedAs("about(-1, 0)", x, o -> o.about(-1, 0), -10, 0);
        refusedAs("about(4, 2)", x, o -> o.about(4, 2), -10, 0);
        refusedAs("about(4, -1)", x, o -> o.about(4, -1), -10, 0);
    }

    private static void good() {
        promise = 12;
        NobodyTwice x = told("valley;one 0 0 3 9;one 1 0 3 9;one 2 0 3 9;one 3 0 3 9;one 4 0 3 9;one 5 0 3 9;");
        int[] arts = {0, 3, 9};
        for (int y = 0; y < 8; y++) {
            for (int s = 0; s < 3; s++) {
                due("PLAIN", x.good(0, s, y), arts[s]);
                due("SAVER", x.good(1, s, y), arts[s]);
                due("HIDER", x.good(2, s, y), arts[s]);
                due("PROUD", x.good(3, s, y), arts[s] + 1);
            }
        }
        due("DOG, odd", x.good(4, 2, 7), 18);
        due("DOG, even", x.good(4, 2, 6), 0);
        due("DOG, year 0", x.good(4, 1, 0), 0);
        due("OLD, year 1", x.good(5, 1, 1), 3);
        due("OLD, year 2", x.good(5, 1, 2), 2);
        due("OLD, year 7", x.good(5, 1, 7), 0);
        due("OLD, year 7", x.good(5, 2, 7), 6);
        due("OLD, cut at 0", x.good(5, 0, 7), 0);
        bad("good(6, 0, 0)", x, o -> o.good(6, 0, 0));
        bad("good(0, 3, 0)", x, o -> o.good(0, 3, 0));
        bad("good(0, -1, 0)", x, o -> o.good(0, -1, 0));
        bad("good(0, 0, 8)", x, o -> o.good(0, 0, 8));
        bad("good(0, 0, -1)", x, o -> o.good(0, 0, -1));
    }

    private static void enterAndWinner() {
        promise = 13;
        // the worths 7, 8, 14, 15 far from the end and at it tell savers and proud ones apart
        due("worth 14, year 0", told("valley;prize 0 0 14;one 0 1 1 1;one 1 1 1 1;one 3 1 1 1;one 5 1 1 1;").enter(0), 1);
        due("worth 15, year 0", told("valley;prize 0 0 15;one 0 1 1 1;one 1 1 1 1;one 3 1 1 1;one 5 1 1 1;").enter(0), 15);
        due("worth 14, year 5", told("valley;prize 5 0 14;one 0 1 1 1;one 1 1 1 1;one 3 1 1 1;one 5 3 1 1;").enter(5), 1);
        due("worth 7, year 6", told("valley;prize 6 0 7;one 0 1 1 1;one 1 1 1 1;one 3 1 1 1;one 5 4 1 1;").enter(6), 11);
        due("worth 8, year 6", told("valley;prize 6 0 8;one 0 1 1 1;one 1 1 1 1;one 3 1 1 1;one 5 4 1 1;").enter(6), 15);
        due("old, good for nothing", told("valley;prize 6 0 8;one 5 3 9 9;").enter(6), 0);
        NobodyTwice x = told("valley;prize 0 0 20;prize 1 0 20;prize 2 0 20;one 0 9 1 1;one 2 5 5 5;one 4 4 4 4;one 0 4 1 1;");
        due("enter(0)", x.enter(0), 1 + 2 + 8);
        due("enter(1)", x.enter(1), 2 + 4 + 8);
        due("enter(2)", x.enter(2), 2 + 8);
        due("enter(3)", x.enter(3), 0);
        promise = 14;
        due("winner(0, 0)", x.winner(0, 0), 0);
        due("winner(0, 1)", x.winner(0, 1), 1);
        due("winner(1, 0)", x.winner(1, 0), 2);
        due("winner(1, 1)", x.winner(1, 1), 1);
        due("winner(2, 0)", x.winner(2, 0), 1);
        due("winner(2, 1)", x.winner(2, 1), 3);
        due("winner(3, 0)", x.winner(3, 0), -1);
        due("winner(3, 1)", x.winner(3, 1), -1);
        due("count(1)", x.count(1), 0);
        NobodyTwice alike = told("valley;prize 0 0 20;one 0 4 1 1;one 0 6 1 1;one 0 6 1 1;one 0 4 1 1;");
        due("alike ones: the first", alike.winner(0, 0), 1);
        due("alike ones: the next", alike.winner(0, 1), 2);
        x.year();
        bad("winner(0, 0), over", x, o -> o.winner(0, 0));
        bad("winner(8, 0)", x, o -> o.winner(8, 0));
        bad("winner(1, 2)", x, o -> o.winner(1, 2));
        bad("winner(1, -1)", x, o -> o.winner(1, -1));
        promise = 13;
        bad("enter(0), over", x, o -> o.enter(0));
        bad("enter(8)", x, o -> o.enter(8));
        bad("enter(-1)", x, o -> o.enter(-1));
        due("enter(1)", x.enter(1), 2 + 4 + 8);
    }

    private static void end() {
        promise = 15;
        NobodyTwice x = told("valley;prize 0 0 20;prize 1 0 7;prize 2 0 9;one 2 5 5 5;one 0 4 4 4;one 1 9 9 9;");
        due("end(2, 0)", x.end(2, 0), 20);
        due("end(0, 0): two wins", x.end(0, 0), 16);
        due("end(0, 1)", x.end(0, 1), 1);
        due("end(1, 0)", x.end(1, 0), 0);
        due("end(1, 1)", x.end(1, 1), 2);
        x.year();
        x.year();
        due("end(1, 1) on the way", x.end(1, 1), 2);
        x.prize(1, 0, 8);
        due("end(0, 0), a prize told anew", x.end(0, 0), 17);
        due("end(2, 0)", x.end(2, 0), 20);
        bad("end(3, 0)", x, o -> o.end(3, 0));
        bad("end(-1, 0)", x, o -> o.end(-1, 0));
        bad("end(0, 2)", x, o -> o.end(0, 2));
        bad("end(0, -1)", x, o -> o.end(0, -1));
    }

    private static void left() {
        promise = 16;
        NobodyTwice x = told("valley;prize 0 0 14;prize 3 0 20;prize 4 0 20;prize 7 0 3;one 1 5 5 5;");
        due("left()", x.left(), 1 + 16 + 128);
        x.year();
        due("left() behind the first", x.left(), 16 + 128);
        for (int y = 1; y < 8; y++) {
            x.year();
        }
        due("left() behind all", x.left(), 0);
    }

    private static void best() {
        promise = 17;
        NobodyTwice x = told("valley;prize 0 0 9;prize 2 1 14;prize 3 1 14;one 0 9 9 9;one 1 5 9 9;one 0 1 1 9;one 2 2 2 2;");
        due("best(0, 0): waiting", x.best(0, 0), 2);
        due("best(0, 1)", x.best(0, 1), 14);
        // 0 has won in year 0, and a saver would not try at all
        due("best(1, 0): whatever the kind", x.best(1, 0), 2);
        due("best(1, 1)", x.best(1, 1), 14);
        due("best(2, 0)", x.best(2, 0), -1);
        due("best(2, 1)", x.best(2, 1), -1);
        x.year();
        due("best(0, 0), barred", x.best(0, 0), -1);
        due("best(0, 1), barred", x.best(0, 1), -1);
        bad("best(4, 0)", x, o -> o.best(4, 0));
        bad("best(0, 2)", x, o -> o.best(0, 2));
        bad("best(0, -1)", x, o -> o.best(0, -1));
        for (int y = 1; y < 8; y++) {
            x.year();
        }
        due("best(2, 0) behind all", x.best(2, 0), -1);
    }

    private static void rivals() {
        promise = 18;
        // 0 takes 20 in year 1 whatever 1 does, and 1 then takes the 9: (1, 0) alone rests
        NobodyTwice x = told("valley;prize 0 0 9;prize 1 0 20;one 0 5 5 5;one 0 4 4 4;");
        due("rivals(0, 1, -1)", x.rivals(0, 1, -1), 1);
        due("rivals(0, 1, 0)", x.rivals(0, 1, 0), 8);
        due("rivals(1, 0, 0)", x.rivals(1, 0, 0), 1);
        due("status(0)", x.status(0), 0);
        due("rivals(0, 1, 1)", x.rivals(0, 1, 1), -5);
        due("rivals(0, 1, max)", x.rivals(0, 1, Integer.MAX_VALUE), -5);
        due("-5 is not refused", x.status(0) + x.status(1) + x.status(2), 0);
        refusedAs("rivals(0, 0, 0)", x, o -> o.rivals(0, 0, 0), -10, 0);
        refusedAs("rivals(0, 2, 0)", x, o -> o.rivals(0, 2, 0), -10, 0);
        refusedAs("rivals(-1, 1, 0)", x, o -> o.rivals(-1, 1, 0), -10, 0);
        refusedAs("rivals(0, 1, -2)", x, o -> o.rivals(0, 1, -2), -10, 0);
        // no prize at all: nothing is better than anything
        due("64 pairs", told("valley;one 0 5 5 5;one 0 4 4 4;").rivals(0, 1, -1), 64);
        due("the last", told("valley;one 0 5 5 5;one 0 4 4 4;").rivals(0, 1, 63), 63);
        x.year();
        // 0 is barred now, so 1 rests in year 1 with any year of 0
        due("rivals(0, 1, -1)", x.rivals(0, 1, -1), 7);
        due("rivals(0, 1, 0)", x.rivals(0, 1, 0), 9);
        due("rivals(0, 1, 6)", x.rivals(0, 1, 6), 57);
        for (int y = 1; y < 8; y++) {
            x.year();
        }
        due("rivals behind all", x.rivals(0, 1, -1), 0);
        due("rivals behind all", x.rivals(0, 1, 0), -5);
    }

    private static void handicap() {
        promise = 19;
        NobodyTwice x = told("valley;prize 0 0 14;prize 1 0 20;one 0 5 5 5;one 0 3 5 5;one 1 3 5 5;one 0 3 5 5;one 0 6 5 5;one 4 9 9 9;");
        // 0 falls below 3: 3; 1 falls below 3: 1; 3 stays; 4 falls to 3: 3
        due("handicap(2)", x.handicap(2), 7);
        due("handicap(1)", x.handicap(1), 6);
        due("handicap(0)", x.handicap(0), 1);
        due("handicap(4)", x.handicap(4), 0);
        due("handicap(5): a dog in year 0", x.handicap(5), -1);
        x.year();
        due("handicap(4), barred", x.handicap(4), -1);
        due("handicap(5)", x.handicap(5), 0);
        bad("handicap(6)", x, o -> o.handicap(6));
        bad("handicap(-1)", x, o -> o.handicap(-1));
        x.year();
        due("handicap(0), no prize", x.handicap(0), -1);
        for (int y = 2; y < 8; y++) {
            x.year();
        }
        due("handicap(0) behind all", x.handicap(0), -1);
    }

    private static void order() {
        promise = 20;
        NobodyTwice x = told("valley;prize 0 0 5;prize 3 0 20;prize 4 0 20;one 0 5 5 5;");
        // alike: 03 and 04 both bring 20
        due("order(0)", x.order(0), 3);
        NobodyTwice late = told("valley;prize 1 0 5;prize 6 0 20;one 0 5 5 5;one 0 5 5 5;");
        due("order(0): no prize may come first", late.order(0), 6);
        due("order(1)", late.order(1), -1);
        late.year();
        due("order(0)", late.order(0), 16);
        late.year();
        due("order(0) with a win", late.order(0), -1);
        bad("order(2)", late, o -> o.order(2));
        bad("order(-1)", late, o -> o.order(-1));
        NobodyTwice none = told("valley;prize 0 0 20;one 1 5 5 5;one 0 6 6 6;");
        // savers try for 20 whenever; 0 is second always
        due("order(0)", none.order(0), -1);
        due("digest stays", none.about(0, 1), 20);
    }

    private static void notes() {
        promise = 21;
        NobodyTwice x = told("valley;one 0 1 1 1;one 0 1 1 1;");
        promise = 24;
        due("is(0) without notes", x.is(0), 63);
        promise = 21;
        due("note", x.note(0, 14, 2, 0), 1);
        promise = 24;
        due("is(0): savers do not", x.is(0), 2 + 8 + 32);
        due("is(1): no note of it", x.is(1), 63);
        promise = 21;
        due("note", x.note(0, 7, 1, 0), 2);
        promise = 24;
        due("is(0): a proud one", x.is(0), 8);
        due("note", x.note(1, 8, 1, 1), 3);
        due("is(1): all", x.is(1), 63);
        due("note", x.note(1, 7, 1, 1), 4);
        due("is(1): all but the proud", x.is(1), 63 - 8);
        due("note", x.note(1, 30, 7, 0), 5);
        due("is(1): none", x.is(1), 0);
        bad("is(2)", x, o -> o.is(2));
        bad("is(-1)", x, o -> o.is(-1));
        promise = 21;
        bad("note(2, ..)", x, o -> o.note(2, 1, 0, 0));
        bad("note(.., 0, ..)", x, o -> o.note(0, 0, 0, 0));
        bad("note(.., 31, ..)", x, o -> o.note(0, 31, 0, 0));
        bad("note(.., -1, ..)", x, o -> o.note(0, 1, -1, 0));
        bad("note(.., 8, ..)", x, o -> o.note(0, 1, 8, 0));
        bad("note(.., 2)", x, o -> o.note(0, 1, 0, 2));
        bad("note(.., -1)", x, o -> o.note(0, 1, 0, -1));
        due("note", x.note(0, 1, 0, 1), 6);
        refusedAs("a 7th note", x, o -> o.note(0, 1, 0, 1), -4, 2);
        bad("a 7th note, bad", x, o -> o.note(0, 1, 8, 1));
        promise = 23;
        x.beaten(0, 1, 0, 0);
        due("forget(0)", x.forget(0), 6);
        due("forget(0)", x.forget(0), 0);
        due("count(5)", x.count(5), 1);
        due("is(1)", x.is(1), 63);
        due("forget(1)", x.forget(1), 1);
        due("count(5)", x.count(5), 0);
        bad("forget(2)", x, o -> o.forget(2));
        bad("forget(-1)", x, o -> o.forget(-1));
    }

    private static void offer() {
        promise = 25;
        NobodyTwice x = told("valley;one 0 1 1 1;");
        due("offer(0): halves by any below 15", x.offer(0), 1);
        x.note(0, 14, 2, 0);
        due("offer(0): of savers none but by the end", x.offer(0), 1);
        for (int y = 0; y < 6; y++) {
            x.year();
        }
        due("offer(0): 7 and less tells the proud one", x.offer(0), 1);
        x.forget(0);
        x.note(0, 7, 1, 1);
        due("offer(0): all try alike", x.offer(0), 1);
        x.note(0, 3, 3, 0);
        x.note(0, 3, 3, 1);
        due("offer(0): no kind", x.offer(0), -1);
        x.year();
        x.year();
        due("offer(0): no kind", x.offer(0), -1);
        x.forget(0);
        due("offer(0) behind all", x.offer(0), 1);
        bad("offer(1)", x, o -> o.offer(1));
        bad("offer(-1)", x, o -> o.offer(-1));
    }

    private static void beaten() {
        promise = 22;
        NobodyTwice x = told("valley;one 0 4 4 4;one 4 3 3 3;one 5 9 9 9;");
        due("beaten", x.beaten(0, 1, 0, 0), 1);
        due("beaten", x.beaten(0, 1, 0, 1), 2);
        promise = 27;
        due("clash(): the dog has 6 in year 1", x.clash(), 1);
        promise = 26;
        due("may(0, 0): 7 or more", x.may(0, 0), 0x380);
        due("may(1, 0): 0, 1", x.may(1, 0), 3);
        due("may(1, 1)", x.may(1, 1), 1023);
        due("may(2, 0)", x.may(2, 0), 1023);
        promise = 22;
        due("beaten", x.beaten(2, 0, 2, 7), 3);
        promise = 27;
        due("clash()", x.clash(), 1);
        promise = 26;
        due("may(2, 2): less 3 is above 4", x.may(2, 2), 0x300);
        due("may(0, 2): below 6", x.may(0, 2), 0x3f);
        due("may(0, 0)", x.may(0, 0), 0x380);
        promise = 22;
        due("beaten", x.beaten(1, 0, 0, 2), 4);
        promise = 26;
        due("may(0, 0): never", x.may(0, 0), 0);
        due("may(1, 0): never", x.may(1, 0), 0);
        promise = 27;
        due("clash()", x.clash(), 2);
        promise = 26;
        bad("may(3, 0)", x, o -> o.may(3, 0));
        bad("may(0, 3)", x, o -> o.may(0, 3));
        bad("may(0, -1)", x, o -> o.may(0, -1));
        promise = 22;
        bad("beaten(0, 0, 0, 0)", x, o -> o.beaten(0, 0, 0, 0));
        bad("beaten(3, 0, 0, 0)", x, o -> o.beaten(3, 0, 0, 0));
        bad("beaten(0, 3, 0, 0)", x, o -> o.beaten(0, 3, 0, 0));
        bad("beaten(0, 1, 3, 0)", x, o -> o.beaten(0, 1, 3, 0));
        bad("beaten(0, 1, 0, 8)", x, o -> o.beaten(0, 1, 0, 8));
        bad("beaten(0, 1, 0, -1)", x, o -> o.beaten(0, 1, 0, -1));
        due("beaten", x.beaten(0, 1, 1, 0), 5);
        due("beaten", x.beaten(0, 1, 1, 0), 6);
        refusedAs("a 7th", x, o -> o.beaten(0, 1, 1, 0), -4, 2);
        bad("a 7th, bad", x, o -> o.beaten(0, 0, 1, 0));
        promise = 27;
        NobodyTwice alike = told("valley;one 0 4 4 4;one 0 4 4 4;");
        alike.beaten(0, 1, 0, 0);
        due("clash(): alike is not better", alike.clash(), 1);
    }

    private static void odds() {
        promise = 28;
        NobodyTwice x = told("valley;prize 0 0 20;prize 1 0 10;one 0 6 6 6;one 0 3 3 3;one 4 5 5 5;one 1 3 3 3;");
        due("odds(0, 0)", x.odds(0, 0), 1);
        promise = 30;
        due("part(0)", x.part(0), 1);
        due("part(1)", x.part(1), 2);
        promise = 28;
        due("odds(2, 1)", x.odds(2, 1), 1);
        due("part(0): 10 of 13", x.part(0), 10);
        due("part(1)", x.part(1), 13);
        bad("odds(4, 0)", x, o -> o.odds(4, 0));
        bad("odds(-1, 0)", x, o -> o.odds(-1, 0));
        bad("odds(0, 8)", x, o -> o.odds(0, 8));
        due("part(0) stays", x.part(0), 10);
        due("odds(0, 1): barred by then", x.odds(0, 1), 1);
        due("part(0)", x.part(0), 0);
        due("part(1)", x.part(1), 1);
        x.odds(2, 1);
        due("odds(2, 2): no prize", x.odds(2, 2), 1);
        due("part(0)", x.part(0), 0);
        x.year();
        bad("odds(0, 0), over", x, o -> o.odds(0, 0));
        promise = 30;
        bad("part(2)", x, o -> o.part(2));
        bad("part(-1)", x, o -> o.part(-1));
    }

    private static void valleys() {
        promise = 29;
        NobodyTwice x = told("valley;prize 0 0 20;one 0 6 6 6;one 2 3 3 3;");
        // seed 0: X is 12345, so SORT 0, WORTH 1; with year 0 at hand the plain one wins it, the hider the two next
        long sum = 0;
        long state = 0;
        for (int y = 0; y < 8; y++) {
            state = (state * 1103515245L + 12345L) & 0x7fffffffL;
            sum += y < 3 ? (state >> 20) % 30 + 1 : 0;
        }
        due("valleys(0, 1)", x.valleys(0, 1), sum);
        due("valleys(0, 0)", x.valleys(0, 0), 0);
        due("about stays", x.about(0, 1), 20);
        due("about stays", x.about(3, 0), -1);
        for (int y = 0; y < 7; y++) {
            x.year();
        }
        // one year is left, one number of the row each time; the win of year 0 is not in it
        sum = 0;
        state = 77;
        for (int i = 0; i < 60; i++) {
            state = (state * 1103515245L + 12345L) & 0x7fffffffL;
            sum += (state >> 20) % 30 + 1;
        }
        due("valleys(77, 60) with one year left", x.valleys(77, 60), sum);
        x.year();
        due("valleys(77, 60) behind all", x.valleys(77, 60), 0);
        due("valleys(999999, 60)", x.valleys(999999, 60), 0);
        bad("valleys(-1, 1)", x, o -> o.valleys(-1, 1));
        bad("valleys(1000000, 1)", x, o -> o.valleys(1000000, 1));
        bad("valleys(0, -1)", x, o -> o.valleys(0, -1));
        bad("valleys(0, 61)", x, o -> o.valleys(0, 61));
    }

    private static void images() {
        promise = 31;
        NobodyTwice x = told("valley;prize 0 0 20;prize 1 0 20;one 0 6 6 6;one 0 3 3 3;");
        promise = 32;
        refusedAs("from(0)", x, o -> o.from(0), -3, 1);
        bad("from(2)", x, o -> o.from(2));
        bad("from(-1)", x, o -> o.from(-1));
        promise = 31;
        bad("image(2)", x, o -> o.image(2));
        bad("image(-1)", x, o -> o.image(-1));
        x.note(0, 5, 5, 1);
        x.beaten(0, 1, 0, 0);
        x.year();
        long digest = x.digest();
        due("image(0)", x.image(0), 1);
        promise = 32;
        refusedAs("from(1)", x, o -> o.from(1), -3, 1);
        x.year();
        x.undo();
        x.undo();
        x.valley();
        x.one(3, 1, 1, 1);
        int refused = x.status(1);
        due("from(0)", x.from(0), 1);
        due("digest()", x.digest(), digest);
        due("status(1) goes on", x.status(1), refused);
        due("count(6): what may be undone is kept", x.count(6), 1);
        due("undo()", x.undo(), 0);
        due("of(0, 4)", x.of(0, 4), 0);
        due("of(1, 5)", x.of(1, 5), 0);
        due("from(0) again", x.from(0), 1);
        due("digest()", x.digest(), digest);
        x.odds(1, 1);
        x.type(59);
        x.image(1);
        x.valley();
        x.image(0);
        due("from(1)", x.from(1), 1);
        due("part(1) is no part of it", x.part(0), 1);
        due("count(7) is no part of it", x.count(7), 58);
        due("count(0)", x.count(0), 2);
        due("from(0): kept anew", x.from(0), 1);
        due("count(0)", x.count(0), 0);
    }

    private static void status() {
        promise = 33;
        NobodyTwice x = new NobodyTwice();
        refusedAs("status(3)", x, o -> o.status(3), -1, 0);
        refusedAs("status(-1)", x, o -> o.status(-1), -1, 0);
        x.undo();
        x.undo();
        x.from(1);
        for (int i = 0; i < 10; i++) {
            x.one(0, 0, 0, 0);
        }
        due("status(0)", x.status(0), 2);
        due("status(1)", x.status(1), 3);
        due("status(2)", x.status(2), 4);
        x.valley();
        due("status(2) stays", x.status(2), 4);
    }

    private static void count() {
        promise = 34;
        NobodyTwice x = told("valley;prize 0 0 20;prize 1 0 20;prize 2 0 3;one 2 6 6 6;one 0 3 3 3;");
        x.year();
        x.year();
        x.year();
        x.year();
        x.note(0, 1, 1, 1);
        x.note(0, 1, 1, 1);
        x.beaten(0, 1, 1, 1);
        int[] want = {2, 4, 3, 3, 2, 1, 4, 69};
        for (int i = 0; i < 8; i++) {
            due("count(" + i + ")", x.count(i), want[i]);
        }
        bad("count(8)", x, o -> o.count(8));
        bad("count(-1)", x, o -> o.count(-1));
    }

    private static void digest() {
        promise = 35;
        NobodyTwice x = told("valley;prize 1 2 20;one 0 6 5 4;one 3 3 2 1;");
        x.year();
        x.year();
        x.note(1, 9, 3, 1);
        x.beaten(0, 1, 2, 6);
        x.prize(5, 1, 10);
        x.odds(1, 5);
        long[] row = {2, 2, 2, 1, 1, 1, 0, 44,
            -1, 0, 2, 20, -1, 0, -1, 0, -1, 0, 1, 10, -1, 0, -1, 0,
            0, 6, 5, 4, 2, 0, 3, 3, 2, 1, 0, 1,
            1, 9, 3, 1, 0, 1, 2, 6, 0, 1};
        long h = 1303;
        for (long v : row) {
            h = 31 * h + v;
        }
        due("digest()", x.digest(), h);
        due("digest() again", x.digest(), h);
    }
}
