import java.io.IOException;
import java.nio.charset.StandardCharsets;
import java.nio.file.Files;
import java.nio.file.Path;
import java.util.function.Supplier;

/**
 * Each sentence of the document that names a boundary has a test of its own here, on both sides of it. The sentence is
 * quoted as it stands there; a quote that the document does not have fails, too, so that no test outlives its sentence.
 */
public final class BoundariesTest {
    private static final Path DOCUMENT = Path.of("../shared/DOC.md");
    private static final int LOW = Integer.MIN_VALUE;
    private static final int HIGH = Integer.MAX_VALUE;

    private static int wrong = 0;
    private static int sentences = 0;
    private static String document = null;
    private static String sentence = "";

    private interface Asked {
        long on(NobodyTwice x, int number);
    }

    public static void main(String[] args) throws IOException {
        if (Files.exists(DOCUMENT)) {
            document = spaced(Files.readString(DOCUMENT, StandardCharsets.UTF_8));
        }
        years();
        sorts();
        worths();
        people();
        kindsAndArts();
        theYear();
        kindsThatTry();
        kindsThatAreGood();
        kindsThatAreBarred();
        contests();
        items();
        tokens();
        faults();
        aValleyThatIsRead();
        aheadOfTheYears();
        bestYears();
        rivals();
        allByTheirKinds();
        handicaps();
        orders();
        notes();
        offers();
        beaten();
        odds();
        valleys();
        undo();
        images();
        whatImagesKeep();
        status();
        calls();
        counts();
        manyCalls();
        System.out.println(wrong == 0 ? sentences + " sentences hold" : wrong + " answers are not as due");
        if (wrong != 0) {
            System.exit(1);
        }
    }

    private static String spaced(String text) {
        return text.replaceAll("\\s+", " ");
    }

    private static void says(String quote) {
        sentence = quote;
        sentences++;
        if (document != null && !document.contains(spaced(quote))) {
            wrong++;
            System.out.println("the document does not say: " + quote);
        }
    }

    private static void due(String call, long got, long want) {
        if (got != want) {
            wrong++;
            System.out.println("\"" + sentence + "\": " + call + " answered " + got + ", due is " + want);
        }
    }

    private static int read(NobodyTwice x, String text) {
        x.clear();
        for (char c : text.toCharArray()) {
            x.type(c);
        }
        return x.read();
    }

    private static NobodyTwice told(String text) {
        NobodyTwice x = new NobodyTwice();
        int items = read(x, "valley;" + text);
        if (items < 1) {
            due("read of " + text, items, 1);
        }
        return x;
    }

    private static NobodyTwice gone(NobodyTwice x, int years) {
        for (int i = 0; i < years; i++) {
            x.year();
        }
        return x;
    }

    /** From least to most a number is taken, and no other is. */
    private static void bounds(String call, Supplier<NobodyTwice> made, int least, int most, Asked f) {
        bounds(call, made, least, most, -2, f);
    }

    private static void bounds(String call, Supplier<NobodyTwice> made, int least, int most, int refused, Asked f) {
        for (int number : new int[] {least, most}) {
            NobodyTwice x = made.get();
            int had = x.status(0) + x.status(1) + x.status(2);
            f.on(x, number);
            due("refused by " + call + " with " + number, x.status(0) + x.status(1) + x.status(2) - had, 0);
        }
        for (int number : new int[] {least - 1, most + 1, LOW, HIGH}) {
            NobodyTwice x = made.get();
            int had = x.status(0);
            due(call + " with " + number, f.on(x, number), refused);
            due("status(0) behind " + call + " with " + number, x.status(0), had + 1);
        }
    }

    private static NobodyTwice three() {
        return told("prize 0 0 9;one 0 5 5 5;one 2 4 4 4;one 1 3 3 3;");
    }

    private static void years() {
        says("1 YEARS 0 ..");
        says("7, each with a PRIZE, or none (at first)");
        bounds("prize(y)", BoundariesTest::three, 0, 7, (x, y) -> x.prize(y, 0, 1));
        bounds("about(y)", BoundariesTest::three, 0, 7, -10, (x, y) -> x.about(y, 0));
        bounds("about(y)", BoundariesTest::three, 0, 7, -10, (x, y) -> x.about(y, 1));
        bounds("good(y)", BoundariesTest::three, 0, 7, (x, y) -> x.good(0, 0, y));
        bounds("beaten(y)", BoundariesTest::three, 0, 7, (x, y) -> x.beaten(0, 1, 0, y));
        NobodyTwice x = new NobodyTwice();
        for (int y = 0; y < 8; y++) {
            due("about(" + y + ", 0) at first", x.about(y, 0), -1);
            due("about(" + y + ", 1) at first", x.about(y, 1), 0);
        }
        x.prize(0, 2, 30);
        x.prize(7, 1, 1);
        due("about(0, 0)", x.about(0, 0), 2);
        due("about(0, 1)", x.about(0, 1), 30);
        due("about(7, 0)", x.about(7, 0), 1);
        due("about(7, 1)", x.about(7, 1), 1);
        for (int y = 1; y < 7; y++) {
            due("about(" + y + ", 0) between", x.about(y, 0), -1);
            due("about(" + y + ", 1) between", x.about(y, 1), 0);
        }
    }

    private static void sorts() {
        says("a SORT (0 .. 2)");
        bounds("prize(sort)", BoundariesTest::three, 0, 2, (x, s) -> x.prize(0, s, 1));
        bounds("good(sort)", BoundariesTest::three, 0, 2, (x, s) -> x.good(0, s, 0));
        bounds("beaten(sort)", BoundariesTest::three, 0, 2, (x, s) -> x.beaten(0, 1, s, 0));
        bounds("may(sort)", BoundariesTest::three, 0, 2, (x, s) -> x.may(0, s));
        NobodyTwice x = told("one 0 1 5 9;");
        for (int s = 0; s < 3; s++) {
            due("prize(4, " + s + ", 1)", x.prize(4, s, 1), s == 0 ? 0 : 1);
            due("about(4, 0)", x.about(4, 0), s);
            due("good(0, " + s + ", 4)", x.good(0, s, 4), 1 + 4 * s);
        }
    }

    private static void worths() {
        says("a WORTH (1 .. 30)");
        bounds("prize(worth)", BoundariesTest::three, 1, 30, (x, w) -> x.prize(0, 0, w));
        NobodyTwice x = new NobodyTwice();
        due("prize(3, 0, 1)", x.prize(3, 0, 1), 0);
        due("prize(3, 0, 0)", x.prize(3, 0, 0), -2);
        due("prize(3, 0, 30)", x.prize(3, 0, 30), 1);
        due("prize(3, 0, 31)", x.prize(3, 0, 31), -2);
        due("about(3, 1)", x.about(3, 1), 30);
    }

    private static void people() {
        says("PEOPLE 0 .. 5, as they come");
        NobodyTwice x = new NobodyTwice();
        for (int p = 0; p < 6; p++) {
            due("of(" + p + ", 0) ahead of it", x.of(p, 0), -2);
            due("one", x.one(5 - p, p, 0, 0), p);
            due("of(" + p + ", 0)", x.of(p, 0), 5 - p);
            due("of(" + p + ", 1)", x.of(p, 1), p);
            due("count(0)", x.count(0), p + 1);
        }
        due("of(6, 0)", x.of(6, 0), -2);
        bounds("of(p)", BoundariesTest::three, 0, 2, (o, p) -> o.of(p, 0));
        bounds("good(p)", BoundariesTest::three, 0, 2, (o, p) -> o.good(p, 0, 0));
        bounds("end(p)", BoundariesTest::three, 0, 2, (o, p) -> o.end(p, 0));
        bounds("best(p)", BoundariesTest::three, 0, 2, (o, p) -> o.best(p, 0));
        bounds("rivals(a)", () -> told("one 0 1 1 1;one 0 1 1 1;"), 0, 0, -10, (o, p) -> o.rivals(p, 1, -1));
        bounds("rivals(b)", () -> told("one 0 1 1 1;one 0 1 1 1;"), 1, 1, -10, (o, p) -> o.rivals(0, p, -1));
        bounds("handicap(p)", BoundariesTest::three, 0, 2, NobodyTwice::handicap);
        bounds("order(p)", BoundariesTest::three, 0, 2, NobodyTwice::order);
        bounds("note(p)", BoundariesTest::three, 0, 2, (o, p) -> o.note(p, 1, 0, 0));
        bounds("beaten(p)", BoundariesTest::three, 0, 1, (o, p) -> o.beaten(p, 2, 0, 0));
        bounds("beaten(q)", BoundariesTest::three, 1, 2, (o, q) -> o.beaten(0, q, 0, 0));
        bounds("is(p)", BoundariesTest::three, 0, 2, NobodyTwice::is);
        bounds("offer(p)", BoundariesTest::three, 0, 2, NobodyTwice::offer);
        bounds("may(p)", BoundariesTest::three, 0, 2, (o, p) -> o.may(p, 0));
        bounds("odds(p)", BoundariesTest::three, 0, 2, (o, p) -> o.odds(p, 0));
    }

    private static void kindsAndArts() {
        says("a KIND, an ART in each SORT (0 .. 9)");
        bounds("one(kind)", BoundariesTest::three, 0, 5, (x, k) -> x.one(k, 0, 0, 0));
        bounds("one(a)", BoundariesTest::three, 0, 9, (x, a) -> x.one(0, a, 0, 0));
        bounds("one(b)", BoundariesTest::three, 0, 9, (x, a) -> x.one(0, 0, a, 0));
        bounds("one(c)", BoundariesTest::three, 0, 9, (x, a) -> x.one(0, 0, 0, a));
        NobodyTwice x = new NobodyTwice();
        x.one(0, 0, 4, 9);
        x.one(5, 9, 5, 0);
        due("of(0, 0)", x.of(0, 0), 0);
        due("of(0, 1)", x.of(0, 1), 0);
        due("of(0, 2)", x.of(0, 2), 4);
        due("of(0, 3)", x.of(0, 3), 9);
        due("of(1, 0)", x.of(1, 0), 5);
        due("of(1, 1)", x.of(1, 1), 9);
        due("of(1, 2)", x.of(1, 2), 5);
        due("of(1, 3)", x.of(1, 3), 0);
    }

    private static void theYear() {
        says("THE YEAR (0 at first; 8: all are over)");
        NobodyTwice x = new NobodyTwice();
        for (int y = 0; y < 8; y++) {
            due("count(1)", x.count(1), y);
            due("enter(" + y + ")", x.enter(y), 0);
            due("year()", x.year(), -1);
        }
        due("count(1) behind all", x.count(1), 8);
        due("enter(7) behind all", x.enter(7), -2);
        due("enter(8) behind all", x.enter(8), -2);
        due("year() behind all", x.year(), -3);
        due("count(1) stays", x.count(1), 8);
        says("SECONDS (how many; none at first)");
        NobodyTwice two = told("prize 0 0 9;prize 1 0 9;prize 2 0 9;one 0 5 5 5;one 2 4 4 4;one 0 3 3 3;one 0 2 2 2;");
        due("of(1, 4) at first", two.of(1, 4), 0);
        due("of(1, 5) at first", two.of(1, 5), 0);
        due("of(2, 5) at first", two.of(2, 5), 0);
        gone(two, 3);
        due("of(0, 4)", two.of(0, 4), 1);
        due("of(1, 4)", two.of(1, 4), 6);
        due("of(1, 5)", two.of(1, 5), 1);
        due("of(2, 5)", two.of(2, 5), 2);
        due("of(3, 5)", two.of(3, 5), 0);
    }

    /** Whether one of a kind, good enough in any year, would enter for a prize of a worth in a year. */
    private static int tries(int kind, int worth, int y) {
        NobodyTwice x = new NobodyTwice();
        x.prize(y, 0, worth);
        x.one(kind, 9, 9, 9);
        return x.enter(y);
    }

    /** The same by what one tried for: whether a note of it is so for that kind. */
    private static int fits(int kind, int worth, int behind) {
        NobodyTwice x = told("one 0 1 1 1;");
        x.note(0, worth, behind, 1);
        return x.is(0) >> kind & 1;
    }

    private static void eachTries(int kind, int worth, int behind, int want) {
        due("kind " + kind + ", worth " + worth + ", " + behind + " left, in a note", fits(kind, worth, behind), want);
        int y = 7 - behind;
        if (kind != 4 || y % 2 == 1) {
            due("kind " + kind + ", worth " + worth + ", year " + y, tries(kind, worth, y), want);
        }
    }

    private static void kindsThatTry() {
        says("0 PLAIN: yes;");
        for (int kind : new int[] {0, 2, 4}) {
            for (int behind = 0; behind < 8; behind++) {
                eachTries(kind, 1, behind, 1);
                eachTries(kind, 30, behind, 1);
            }
        }
        says("1 SAVER (under PLAIN): w is 15 or more, or l is 1 or less;");
        for (int kind : new int[] {1, 5}) {
            for (int behind = 0; behind < 8; behind++) {
                eachTries(kind, 15, behind, 1);
                eachTries(kind, 30, behind, 1);
                eachTries(kind, 14, behind, behind <= 1 ? 1 : 0);
                eachTries(kind, 1, behind, behind <= 1 ? 1 : 0);
            }
        }
        says("3 PROUD (under SAVER): as SAVER, and w is 8 or more;");
        for (int behind = 0; behind < 8; behind++) {
            eachTries(3, 7, behind, 0);
            eachTries(3, 1, behind, 0);
            eachTries(3, 8, behind, behind <= 1 ? 1 : 0);
            eachTries(3, 14, behind, behind <= 1 ? 1 : 0);
            eachTries(3, 15, behind, 1);
            eachTries(3, 30, behind, 1);
        }
    }

    private static void kindsThatAreGood() {
        NobodyTwice x = told("one 0 0 1 9;one 1 0 1 9;one 2 0 1 9;one 3 0 1 9;one 4 0 1 9;one 5 0 3 9;");
        int[] arts = {0, 1, 9};
        says("0 PLAIN: yes; a;");
        for (int y = 0; y < 8; y++) {
            for (int s = 0; s < 3; s++) {
                due("good(0, " + s + ", " + y + ")", x.good(0, s, y), arts[s]);
                due("good(1, " + s + ", " + y + ")", x.good(1, s, y), arts[s]);
                due("good(2, " + s + ", " + y + ")", x.good(2, s, y), arts[s]);
            }
        }
        says("1 more than SAVER;");
        for (int y = 0; y < 8; y++) {
            due("good(3, 0, " + y + ")", x.good(3, 0, y), 1);
            due("good(3, 1, " + y + ")", x.good(3, 1, y), 2);
            due("good(3, 2, " + y + ")", x.good(3, 2, y), 10);
        }
        says("twice PLAIN, if y is odd, else 0;");
        for (int y = 0; y < 8; y++) {
            due("good(4, 0, " + y + ")", x.good(4, 0, y), 0);
            due("good(4, 1, " + y + ")", x.good(4, 1, y), y % 2 == 1 ? 2 : 0);
            due("good(4, 2, " + y + ")", x.good(4, 2, y), y % 2 == 1 ? 18 : 0);
        }
        says("SAVER less y by 2 (cut), 0 at least;");
        int[] three = {3, 3, 2, 2, 1, 1, 0, 0};
        for (int y = 0; y < 8; y++) {
            due("good(5, 0, " + y + ")", x.good(5, 0, y), 0);
            due("good(5, 1, " + y + ")", x.good(5, 1, y), three[y]);
            due("good(5, 2, " + y + ")", x.good(5, 2, y), three[y] + 6);
        }
    }

    private static void kindsThatAreBarred() {
        says("n is 1 or more.");
        for (int kind : new int[] {0, 1, 3, 4, 5}) {
            NobodyTwice x = told("prize 1 0 20;prize 3 0 20;");
            x.one(kind, 9, 9, 9);
            x.year();
            due("of(0, 6) with none, kind " + kind, x.of(0, 6), 0);
            due("year() 1, kind " + kind, x.year(), 0);
            due("of(0, 6) with one, kind " + kind, x.of(0, 6), 1);
            due("enter(3), kind " + kind, x.enter(3), 0);
            x.undo();
            due("of(0, 6) undone, kind " + kind, x.of(0, 6), 0);
        }
        says("n is 2 or more.");
        NobodyTwice x = told("prize 1 0 20;prize 3 0 20;prize 5 0 20;one 2 9 9 9;");
        gone(x, 2);
        due("of(0, 6) with one", x.of(0, 6), 0);
        due("enter(3) with one", x.enter(3), 1);
        gone(x, 2);
        due("of(0, 6) with two", x.of(0, 6), 1);
        due("enter(5) with two", x.enter(5), 0);
    }

    private static void contests() {
        says("A CONTEST (in a YEAR with a PRIZE)");
        NobodyTwice x = told("prize 1 0 9;one 0 9 9 9;one 0 8 8 8;one 0 7 7 7;");
        due("enter(0), no prize", x.enter(0), 0);
        due("winner(0, 0), no prize", x.winner(0, 0), -1);
        due("winner(0, 1), no prize", x.winner(0, 1), -1);
        due("enter(1)", x.enter(1), 7);
        due("year() without one", x.year(), -1);
        due("of(0, 4)", x.of(0, 4), 0);
        due("of(1, 5)", x.of(1, 5), 0);
        due("year() with one", x.year(), 0);
        due("of(1, 5)", x.of(1, 5), 1);
        says("are good at all (1 or more) then");
        NobodyTwice weak = told("prize 0 0 30;one 0 0 9 9;one 0 1 0 0;one 3 0 0 0;one 4 9 9 9;one 5 0 9 9;");
        due("enter(0): art 0 does not, art 1 does, a proud one with 0 does", weak.enter(0), 2 + 4);
        NobodyTwice old = told("prize 2 0 30;prize 4 0 30;one 5 1 0 0;one 5 2 0 0;one 5 3 0 0;");
        due("enter(2): 1 less 1 is none", old.enter(2), 2 + 4);
        due("winner(2, 0)", old.winner(2, 0), 2);
        due("enter(4): 2 less 2 is none", old.enter(4), 0);
        says("the best one WINS (of like ones the first), the next best is second");
        due("one alone", told("prize 0 0 9;one 0 0 9 9;one 0 1 1 1;").winner(0, 0), 1);
        due("no second", told("prize 0 0 9;one 0 0 9 9;one 0 1 1 1;").winner(0, 1), -1);
        NobodyTwice least = told("prize 0 0 9;one 0 2 9 9;one 0 1 1 1;one 0 0 1 1;");
        due("winner(0, 0): good for 2", least.winner(0, 0), 0);
        due("winner(0, 1): good for 1, and second by it", least.winner(0, 1), 1);
        NobodyTwice like = told("prize 0 0 9;one 0 3 3 3;one 0 4 4 4;one 0 4 4 4;one 0 4 4 4;one 0 3 3 3;");
        due("winner(0, 0) of like ones", like.winner(0, 0), 1);
        due("winner(0, 1) of like ones", like.winner(0, 1), 2);
        NobodyTwice next = told("prize 0 0 9;one 0 2 2 2;one 0 3 3 3;one 0 9 9 9;one 0 3 3 3;");
        due("winner(0, 0)", next.winner(0, 0), 2);
        due("winner(0, 1): the first of the next best", next.winner(0, 1), 1);
        NobodyTwice falling = told("prize 0 0 9;one 0 9 9 9;one 0 3 3 3;one 0 4 4 4;");
        due("winner(0, 1): the next best comes last", falling.winner(0, 1), 2);
        says("A YEAR goes by: its CONTEST; THE YEAR is one more.");
        due("year()", falling.year(), 0);
        due("count(1)", falling.count(1), 1);
        due("of(0, 4)", falling.of(0, 4), 1);
        due("of(2, 5)", falling.of(2, 5), 1);
    }

    private static void fault(String text, int place) {
        NobodyTwice x = told("prize 1 1 20;one 0 4 4 4;one 0 3 3 3;");
        gone(x, 2);
        x.note(0, 3, 3, 1);
        x.beaten(0, 1, 0, 0);
        x.odds(0, 7);
        x.clear();
        for (char c : text.toCharArray()) {
            x.type(c);
        }
        long digest = x.digest();
        due("read of \"" + text + "\"", x.read(), -10 - place);
        due("digest() behind read of \"" + text + "\"", x.digest(), digest);
        due("undo() behind read of \"" + text + "\"", x.undo(), 1);
    }

    private static void reads(String text, int items) {
        due("read of \"" + text + "\"", read(new NobodyTwice(), text), items);
    }

    private static void items() {
        says("THE VALLEY is told by a TEXT (150 bytes at most) of ITEMS, each ended by ;");
        String full = "valley;" + "one 0 1 2 3;".repeat(6) + "prize 0 0 1;".repeat(5);
        NobodyTwice x = new NobodyTwice();
        due("read of 150 bytes", read(x, " ".repeat(150 - full.length()) + full), 12);
        due("count(7)", x.count(7), 150);
        due("type(59), the 151st", x.type(59), -4);
        due("read() again", x.read(), 12);
        due("read, the last ; is the 151st byte", read(x, " ".repeat(151 - full.length()) + full), -10 - 150);
        due("count(0) stays", x.count(0), 6);
        due("clear()", x.clear(), 150);
        due("read of 149 bytes", read(x, " ".repeat(149 - full.length()) + full), 12);
        due("type(32), the 150th", x.type(32), 150);
        due("read()", x.read(), 12);
        reads("valley;", 1);
        fault("valley", 6);
        reads("valley;one 0 1 2 3;", 2);
        fault("valley;one 0 1 2 3", 18);
        fault("valley;one 0 1 2 3 prize 0 0 1;", 19);
        fault("valley prize 0 0 1;", 7);
        says("valley (once, first of all)");
        reads("valley;prize 0 0 1;", 2);
        fault("prize 0 0 1;", 0);
        fault("prize 0 0 1;valley;", 0);
        fault("valley;valley;", 7);
        fault("valley;one 0 1 2 3;valley;", 19);
        says("prize y SORT WORTH;");
        reads("valley;prize 0 0 1;prize 7 2 30;", 3);
        fault("valley;prize 8 0 1;", 13);
        fault("valley;prize 0 3 1;", 15);
        fault("valley;prize 0 0 0;", 17);
        fault("valley;prize 0 0 31;", 17);
        fault("valley;prize 0 0;", 16);
        fault("valley;prize 0 0 1 1;", 19);
        fault("valley;prize;", 12);
        says("one KIND and three ARTS.");
        reads("valley;one 0 0 0 0;one 5 9 9 9;", 3);
        fault("valley;one 6 0 0 0;", 11);
        fault("valley;one 0 10 0 0;", 13);
        fault("valley;one 0 0 10 0;", 15);
        fault("valley;one 0 0 0 10;", 17);
        fault("valley;one 0 0 0;", 16);
        fault("valley;one 0 0 0 0 0;", 19);
        fault("valley;one;", 10);
    }

    private static void tokens() {
        says("words of letters a .. z");
        reads("valley;prize 0 0 1;one 0 1 2 3;", 3);
        fault("valley;{", 7);
        fault("valley;`", 7);
        fault("valley;one{0 1 2 3;", 10);
        fault("valley;one`0 1 2 3;", 10);
        fault("valley;Prize 0 0 1;", 7);
        fault("valley;a", 7);
        fault("valley;z", 7);
        fault("valley;ones 0 1 2 3;", 7);
        fault("valley;on 0 1 2 3;", 7);
        fault("halley;", 0);
        fault("valley;brize 0 0 1;", 7);
        fault("valley;ane 0 1 2 3;", 7);
        fault("valley;onf 0 1 2 3;", 7);
        fault("valley;on e 0 1 2 3;", 7);
        fault("valleyone 0 1 2 3;", 0);
        says("figures (1 or 2 are one number)");
        reads("valley;prize 0 0 9;", 2);
        reads("valley;prize 0 0 09;", 2);
        reads("valley;prize 00 02 30;", 2);
        reads("valley;one 05 09 00 01;", 2);
        fault("valley;prize 0 0 009;", 17);
        fault("valley;prize 0 01;", 17);
        fault("valley;prize 0 0 1 5;", 19);
        fault("valley;prize 0 0 /;", 17);
        fault("valley;prize 0 0 :;", 17);
        NobodyTwice x = told("prize 07 02 30;prize 3 1 5;one 3 04 5 06;");
        due("about(7, 0)", x.about(7, 0), 2);
        due("about(7, 1)", x.about(7, 1), 30);
        due("about(3, 0)", x.about(3, 0), 1);
        due("about(3, 1)", x.about(3, 1), 5);
        due("of(0, 0)", x.of(0, 0), 3);
        due("of(0, 1)", x.of(0, 1), 4);
        due("of(0, 2)", x.of(0, 2), 5);
        due("of(0, 3)", x.of(0, 3), 6);
        says("blanks (32) between");
        reads("  valley  ;  prize  0  0  1  ;  ", 2);
        fault("valley;\37prize 0 0 1;", 7);
        fault("valley;!prize 0 0 1;", 7);
        fault("valley;\tprize 0 0 1;", 7);
        fault("valley;\nprize 0 0 1;", 7);
        fault("valley; \0", 8);
        fault("valley; \177", 8);
    }

    private static void faults() {
        says("the place of the first byte of the first TOKEN that can not stand there");
        fault(";", 0);
        fault("   ;", 3);
        fault("valley;;", 7);
        fault("valley;  ;", 9);
        fault("valley;prize x 0 1;one 9 9 9 9;", 13);
        says("a word that is none");
        fault("vally;", 0);
        fault("valley;dog 0 1 2 3;", 7);
        fault("valley;prize one 0 1;", 13);
        says("valley again");
        fault("valley;valley", 7);
        fault("valley valley;", 7);
        says("anything ahead of it");
        fault("one 0 1 2 3;valley;", 0);
        fault("7 valley;", 0);
        fault(" ; valley;", 1);
        says("a 7th one at its word");
        reads("valley;" + "one 0 1 2 3;".repeat(6), 7);
        fault("valley;" + "one 0 1 2 3;".repeat(6) + "one", 79);
        fault("valley;" + "one 0 1 2 3;".repeat(6) + "  one 9 9 9 9;", 81);
        reads("valley;" + "one 0 1 2 3;".repeat(6) + "prize 0 0 1;", 8);
        says("a run of three figures or more (at its first one)");
        reads("valley;prize 0 0 11;", 2);
        fault("valley;prize 0 0 111;", 17);
        fault("valley;prize 0 0  1111111111111111;", 18);
        fault("valley;prize 000 0 1;", 13);
        fault("valley;123", 7);
        fault("valley 123;", 7);
        fault("valley;one 0 1 2 3 123;", 19);
        says("a number not as told");
        reads("valley;prize 7 2 30;", 2);
        fault("valley;prize 9 2 30;", 13);
        fault("valley;prize 10 2 30;", 13);
        fault("valley;prize 7 2 99;", 17);
        fault("valley;12;", 7);
        fault("valley 0;", 7);
        says("a byte that begins none, too");
        fault("-", 0);
        fault("valley-", 6);
        fault("valley;one 0 1 2 3-", 18);
        fault("valley;one 0 1 2 3 :", 19);
        fault("valley;one 0 -1 2 3;", 13);
        fault("valley;one 0 1, 2 3;", 14);
        says("the TEXT's length, if it ends too early (an empty one, too)");
        fault("", 0);
        fault(" ", 1);
        fault(" ".repeat(150), 150);
        fault("valley ", 7);
        fault("valley;one", 10);
        fault("valley;one 0 1", 14);
        fault("valley;one 0 1 2 3 ", 19);
        reads("valley; ", 1);
    }

    private static void aValleyThatIsRead() {
        says("A VALLEY that is read takes the place of all but IMAGES, THE TEXT, THE FRACTION, STATUS (YEAR 0, no WINS,"
            + " SECONDS, NOTES, BEATEN none; nothing to undo).");
        NobodyTwice x = told("prize 0 0 20;prize 5 0 20;one 0 4 4 4;one 0 2 2 2;");
        x.odds(0, 0);
        x.year();
        x.note(0, 1, 1, 1);
        x.beaten(0, 1, 0, 0);
        x.image(1);
        x.one(6, 0, 0, 0);
        long kept = x.digest();
        due("read()", x.read(), 5);
        int[] want = {2, 0, 2, 0, 0, 0, 0, 57};
        for (int i = 0; i < 8; i++) {
            due("count(" + i + ")", x.count(i), want[i]);
        }
        due("of(0, 4)", x.of(0, 4), 0);
        due("of(1, 5)", x.of(1, 5), 0);
        due("undo()", x.undo(), -3);
        due("part(0)", x.part(0), 2);
        due("part(1)", x.part(1), 3);
        due("status(0)", x.status(0), 1);
        due("from(1)", x.from(1), 1);
        due("digest()", x.digest(), kept);
        due("from(0)", x.from(0), -3);
        due("read of less", read(x, "valley;"), 1);
        due("about(5, 0): prizes are gone, too", x.about(5, 0), -1);
        due("of(0, 0): nobody is there", x.of(0, 0), -2);
    }

    private static void aheadOfTheYears() {
        says("ENTER: who do in a YEAR y, THE YEAR or later (bits).");
        NobodyTwice x = gone(told("prize 2 0 9;prize 3 0 9;prize 4 0 9;one 0 5 5 5;one 2 4 4 4;"), 3);
        bounds("enter(y)", () -> gone(told("one 0 1 1 1;"), 3), 3, 7, NobodyTwice::enter);
        bounds("winner(y, 0)", () -> gone(told("one 0 1 1 1;"), 3), 3, 7, (o, y) -> o.winner(y, 0));
        bounds("winner(y, 1)", () -> gone(told("one 0 1 1 1;"), 3), 3, 7, (o, y) -> o.winner(y, 1));
        bounds("odds(y)", () -> gone(told("one 0 1 1 1;"), 3), 3, 7, (o, y) -> o.odds(0, y));
        due("enter(3)", x.enter(3), 2);
        due("enter(4): a hider with one", x.enter(4), 2);
        due("enter(5)", x.enter(5), 0);
        says("WINNER, SECOND of it; none.");
        due("winner(3, 0)", x.winner(3, 0), 1);
        due("winner(3, 1)", x.winner(3, 1), -1);
        due("winner(5, 0)", x.winner(5, 0), -1);
        says("END: WORTH of the PRIZES (as they are now) of all YEARS that one WINS at last (those up to now, too)");
        due("end(0, 0): won up to now", x.end(0, 0), 9);
        due("end(1, 0): to be won", x.end(1, 0), 18);
        due("end(1, 1)", x.end(1, 1), 1);
        x.prize(2, 1, 30);
        due("end(0, 0), told anew", x.end(0, 0), 30);
        gone(x, 5);
        due("end(0, 0) behind all", x.end(0, 0), 30);
        due("end(1, 0) behind all", x.end(1, 0), 18);
        says("LEFT: YEARS from THE YEAR on with a PRIZE that nobody WINS (bits).");
        NobodyTwice left = told("prize 0 0 9;prize 3 0 9;prize 4 0 9;prize 7 0 9;one 0 5 5 5;");
        due("left()", left.left(), 8 + 16 + 128);
        due("left() in year 3", gone(left, 3).left(), 8 + 16 + 128);
        due("left() in year 4", gone(left, 1).left(), 16 + 128);
        due("left() in year 7", gone(left, 3).left(), 128);
        due("left() behind all", gone(left, 1).left(), 0);
        NobodyTwice eight = told("");
        for (int y = 0; y < 8; y++) {
            eight.prize(y, 0, 9);
        }
        due("left() of all", eight.left(), 255);
        eight.one(0, 1, 1, 1);
        eight.one(2, 1, 1, 1);
        due("left() of all but three", eight.left(), 255 - 7);
    }

    private static void bestYears() {
        says("BEST for one: the YEAR, THE YEAR or later, in which alone one TRIES (in it whatever one would)");
        NobodyTwice x = told("prize 0 0 9;prize 4 0 9;prize 5 0 8;one 1 5 5 5;one 2 6 6 6;one 0 0 0 0;");
        due("best(0, 0): a saver, in a year the hider is past", x.best(0, 0), 5);
        due("best(0, 1)", x.best(0, 1), 8);
        due("enter(5): by the kind it would not", x.enter(5), 0);
        NobodyTwice proud = told("prize 0 0 7;prize 2 0 6;one 3 1 1 1;one 1 1 1 1;one 5 1 1 1;one 3 1 1 1;one 3 1 1 1;one 3 1 1 1;");
        for (int p = 0; p < 6; p++) {
            due("best(" + p + ", 0): year 0, against its kind", proud.best(p, 0), 0);
            due("best(" + p + ", 1): year 0, against its kind", proud.best(p, 1), 7);
        }
        due("enter(0) behind best: by their kinds again", proud.enter(0), 0);
        due("handicap(5) behind best: the others by their kinds again", proud.handicap(5), 0);
        says("so that what one WINS in it is of most WORTH; of like ones the first; how much;");
        due("best(1, 0)", x.best(1, 0), 0);
        due("best(1, 1)", x.best(1, 1), 9);
        due("best(1, 0), the first being over", gone(x, 1).best(1, 0), 4);
        due("best(1, 0), the next being over", gone(x, 4).best(1, 0), -1);
        due("best(0, 0), its last being THE YEAR", x.best(0, 0), 5);
        due("best(0, 0), it being over", gone(x, 1).best(0, 0), -1);
        says("none: one would WIN nothing.");
        NobodyTwice none = told("prize 0 0 1;one 0 0 0 0;one 0 1 1 1;");
        due("best(0, 0), good for nothing", none.best(0, 0), -1);
        due("best(0, 1), good for nothing", none.best(0, 1), -1);
        due("best(1, 0)", none.best(1, 0), 0);
        due("best(1, 1)", none.best(1, 1), 1);
        none.year();
        due("best(1, 0), barred", none.best(1, 0), -1);
        due("best(1, 1) behind all", gone(none, 7).best(1, 1), -1);
        bounds("best(what)", BoundariesTest::three, 0, 1, (o, what) -> o.best(0, what));
    }

    private static void rivals() {
        says("RIVALS: two unlike ones a, b each TRY in one YEAR alone (THE YEAR or later), as they choose");
        NobodyTwice x = told("prize 6 0 9;prize 7 0 20;one 0 5 5 5;one 1 5 5 5;");
        due("rivals(0, 1, -1)", x.rivals(0, 1, -1), 1);
        due("rivals(0, 1, 0): 7 and 6", x.rivals(0, 1, 0), 62);
        due("rivals(1, 0, 0): 6 and 7", x.rivals(1, 0, 0), 55);
        NobodyTwice proud = told("prize 0 0 7;prize 2 0 6;one 3 1 1 1;one 1 1 1 1;one 5 1 1 1;one 3 1 1 1;one 3 1 1 1;one 3 1 1 1;");
        due("rivals(4, 5, -1): against their kinds", proud.rivals(4, 5, -1), 1);
        due("rivals(4, 5, 0): 0 and 2", proud.rivals(4, 5, 0), 2);
        due("rivals(5, 4, 0): 2 and 0", proud.rivals(5, 4, 0), 16);
        due("enter(0) behind rivals: by their kinds again", proud.enter(0), 0);
        due("handicap(0) behind rivals: the others by their kinds again", proud.handicap(0), 0);
        due("rivals(0, 0, -1), alike", x.rivals(0, 0, -1), -10);
        due("rivals(1, 1, 0), alike", x.rivals(1, 1, 0), -10);
        says("pairs 8 i and j that rest (neither would get more by another YEAR): how many; the k-th (rising).");
        NobodyTwice same = told("prize 0 0 9;prize 1 0 9;one 0 5 5 5;one 0 5 5 5;");
        due("rivals(0, 1, -1): as much is not more", same.rivals(0, 1, -1), 2);
        due("rivals(0, 1, 0)", same.rivals(0, 1, 0), 1);
        due("rivals(0, 1, 1)", same.rivals(0, 1, 1), 8);
        due("rivals(0, 1, 2)", same.rivals(0, 1, 2), -5);
        due("rivals(0, 1, max)", same.rivals(0, 1, HIGH), -5);
        due("rivals(0, 1, -2)", same.rivals(0, 1, -2), -10);
        due("rivals(0, 1, min)", same.rivals(0, 1, LOW), -10);
        NobodyTwice nothing = told("one 0 5 5 5;one 0 5 5 5;");
        due("64 pairs", nothing.rivals(0, 1, -1), 64);
        for (int k = 0; k < 64; k++) {
            due("the " + k + "th of 64", nothing.rivals(0, 1, k), k);
        }
        due("a 65th", nothing.rivals(0, 1, 64), -5);
        gone(nothing, 7);
        due("in year 7", nothing.rivals(0, 1, -1), 1);
        due("in year 7", nothing.rivals(0, 1, 0), 63);
        due("in year 7", nothing.rivals(0, 1, 1), -5);
        nothing.year();
        due("behind all", nothing.rivals(0, 1, -1), 0);
        due("behind all", nothing.rivals(0, 1, 0), -5);
    }

    /** What one would choose is forgotten with the answer: the next one asked has all by their kinds again. */
    private static void allByTheirKinds() {
        says("(Nothing is changed by these; YEARS go by from THE YEAR on, all by their KINDS.)");
        String text = "prize 0 0 9;prize 3 0 9;one 0 5 5 5;one 0 4 4 4;";
        for (int before = 0; before < 4; before++) {
            due("handicap(1)", asked(text, before).handicap(1), 2);
            due("enter(0)", asked(text, before).enter(0), 3);
            due("winner(3, 0)", asked(text, before).winner(3, 0), 1);
            due("end(1, 1)", asked(text, before).end(1, 1), 1);
            due("left()", asked(text, before).left(), 0);
            due("best(1, 0)", asked(text, before).best(1, 0), 3);
            due("rivals(0, 1, -1)", asked(text, before).rivals(0, 1, -1), 2);
            due("order(1)", asked(text, before).order(1), -1);
            due("year()", asked(text, before).year(), 0);
            NobodyTwice x = asked(text, before);
            fraction(x, 0, 0, 5, 9);
            NobodyTwice seeds = asked(text, before);
            due("valleys(7, 9)", seeds.valleys(7, 9), told(text).valleys(7, 9));
        }
    }

    private static NobodyTwice asked(String text, int before) {
        NobodyTwice x = told(text);
        if (before == 1) {
            x.best(0, 0);
        } else if (before == 2) {
            x.rivals(0, 1, 0);
        } else if (before == 3) {
            x.order(0);
        }
        return x;
    }

    private static void handicaps() {
        says("by how much all others that ENTER must be less good, together at least, so that one WINS,"
            + " TRYING whatever one would");
        NobodyTwice x = told("prize 0 0 14;one 0 6 6 6;one 0 5 5 5;one 1 5 5 5;one 0 5 5 5;one 0 6 6 6;one 1 9 9 9;");
        due("handicap(0): the first of like ones", x.handicap(0), 0);
        due("handicap(4): like an earlier one", x.handicap(4), 1);
        due("handicap(1): an earlier one to 4, a later one to 5", x.handicap(1), 3);
        due("handicap(2): a saver, whatever it would", x.handicap(2), 4);
        due("handicap(3): of the savers none enters", x.handicap(3), 4);
        due("handicap(5)", x.handicap(5), 0);
        NobodyTwice sort = told("prize 0 2 14;one 0 9 9 1;one 0 9 9 4;one 0 0 0 2;");
        due("handicap(0) in sort 2", sort.handicap(0), 4);
        due("handicap(1) in sort 2", sort.handicap(1), 0);
        due("handicap(2) in sort 2", sort.handicap(2), 3);
        says("none: all are over, no PRIZE, one is BARRED, or good for nothing.");
        NobodyTwice none = told("prize 0 0 9;prize 7 0 9;one 0 1 1 1;one 0 0 9 9;one 2 1 1 1;");
        due("handicap(0), good for 1", none.handicap(0), 0);
        due("handicap(1), good for nothing", none.handicap(1), -1);
        due("handicap(2)", none.handicap(2), 1);
        none.year();
        due("handicap(2), no prize", none.handicap(2), -1);
        none.prize(1, 0, 1);
        due("handicap(2), a prize", none.handicap(2), 0);
        due("handicap(0), barred", none.handicap(0), -1);
        gone(none, 6);
        due("handicap(2) in year 7", none.handicap(2), 0);
        none.year();
        due("handicap(2) behind all", none.handicap(2), -1);
    }

    private static void orders() {
        says("ORDER: PRIZES of two YEARS i less than j, both THE YEAR or later, may change places (none: it has none"
            + " then)");
        // a year without a prize takes part: the better prize comes ahead of the other in year 0
        due("order(0): 0 and 7", told("prize 6 0 9;prize 7 0 10;one 0 5 5 5;").order(0), 7);
        // a dog is good for nothing in the years 0, 2, 4, 6: what it takes in year 1 has to go there
        due("order(0): 0 and 1, none being in 0 ", told("prize 1 0 9;one 0 5 5 5;one 4 5 5 5;").order(0), 1);
        due("order(1): 1 and 2, none being in 1", told("prize 2 0 9;one 4 5 5 5;one 4 5 5 5;").order(0), 12);
        NobodyTwice x = told("prize 0 0 9;prize 1 0 10;prize 7 0 20;one 0 5 5 5;");
        due("order(0)", x.order(0), 7);
        due("order(0), with a win up to now", gone(x, 1).order(0), -1);
        // the better one takes the 9 first, and leaves the 20 to the other
        due("order(1): both prizes move", told("prize 0 0 20;prize 1 1 9;one 0 5 5 5;one 0 4 4 4;").order(1), 1);
        says("none: none brings more than as it is; of like ones the first.");
        due("order(0): as much is not more", told("prize 0 0 9;prize 1 0 9;one 0 5 5 5;").order(0), -1);
        due("order(0): 01 and 02", told("prize 0 0 9;prize 1 0 10;prize 2 0 10;one 0 5 5 5;").order(0), 1);
        NobodyTwice last = gone(told("prize 6 0 9;prize 7 0 10;one 0 5 5 5;"), 6);
        due("order(0) in year 6", last.order(0), 67);
        due("order(0) in year 7", gone(last, 1).order(0), -1);
        due("order(0) behind all", gone(last, 1).order(0), -1);
    }

    private static void notes() {
        says("NOTES 0 .. 5, as they come: one TRIED (1) for a PRIZE of WORTH w (1 .. 30), l (0 .. 7) YEARS being left,"
            + " or did not (0).");
        bounds("note(w)", BoundariesTest::three, 1, 30, (x, w) -> x.note(0, w, 0, 0));
        bounds("note(l)", BoundariesTest::three, 0, 7, (x, l) -> x.note(0, 1, l, 0));
        bounds("note(tried)", BoundariesTest::three, 0, 1, (x, t) -> x.note(0, 1, 0, t));
        NobodyTwice x = three();
        for (int i = 1; i <= 6; i++) {
            due("note", x.note(1, 30, 7, 1), i);
        }
        due("a 7th note", x.note(1, 30, 7, 1), -4);
        due("forget(0)", x.forget(0), 6);
        due("note", x.note(1, 30, 7, 1), 1);
        says("IS: KINDS (bits) by which all NOTES of it are so.");
        NobodyTwice is = three();
        due("is(0) without notes", is.is(0), 63);
        is.note(0, 14, 2, 1);
        due("is(0): no saver", is.is(0), 1 + 4 + 16);
        is.note(1, 14, 2, 0);
        due("is(1): savers alone", is.is(1), 2 + 8 + 32);
        due("is(0): notes of another are not of it", is.is(0), 1 + 4 + 16);
        is.note(1, 8, 1, 1);
        due("is(1)", is.is(1), 2 + 8 + 32);
        is.note(1, 7, 1, 1);
        due("is(1): not the proud", is.is(1), 2 + 32);
        is.note(1, 7, 1, 0);
        due("is(1): both at once, none", is.is(1), 0);
        due("is(2): none of it", is.is(2), 63);
    }

    private static void offers() {
        says("as many YEARS being left as behind THE YEAR (0, if all are over)");
        NobodyTwice x = told("one 0 1 1 1;");
        for (int y = 0; y <= 8; y++) {
            due("offer(0) in year " + y, x.offer(0), 1);
            x.year();
        }
        says("TRYING or not, the greater part of these KINDS is least;");
        // by notes all kinds, the savers, the others, the proud, all but the proud, or savers but the proud may be left:
        // a WORTH of 1 parts them whenever any does, and of like ones it is the least
        int[][] notes = {{}, {14, 2, 0}, {14, 2, 1}, {7, 1, 0}, {7, 1, 1}, {14, 2, 0, 7, 1, 1}};
        int[] kinds = {63, 42, 21, 8, 55, 34};
        for (int i = 0; i < notes.length; i++) {
            NobodyTwice some = told("one 0 1 1 1;");
            for (int n = 0; n < notes[i].length; n += 3) {
                some.note(0, notes[i][n], notes[i][n + 1], notes[i][n + 2]);
            }
            due("is(0)", some.is(0), kinds[i]);
            for (int y = 0; y <= 8; y++) {
                due("offer(0) of " + kinds[i] + " in year " + y, some.offer(0), 1);
                some.year();
            }
        }
        says("of like ones the least; none: no KIND.");
        x.note(0, 14, 2, 0);
        due("offer(0) of savers", x.offer(0), 1);
        x.note(0, 7, 0, 0);
        due("offer(0) of one kind", x.offer(0), 1);
        x.note(0, 30, 7, 0);
        due("offer(0) of no kind", x.offer(0), -1);
        due("forget(0)", x.forget(0), 3);
        due("offer(0) without notes", x.offer(0), 1);
    }

    private static void beaten() {
        says("BEATEN 0 .. 5, as they come: in SORT s, YEAR y (0 .. 7), p was better than q.");
        NobodyTwice x = three();
        due("beaten(1, 1, 0, 0), alike", x.beaten(1, 1, 0, 0), -2);
        for (int i = 1; i <= 6; i++) {
            due("beaten", x.beaten(0, 1, 2, 7), i);
        }
        due("a 7th", x.beaten(0, 1, 2, 7), -4);
        due("forget(1)", x.forget(1), 6);
        due("beaten", x.beaten(0, 1, 2, 7), 1);
        says("MAY: ARTS (bits 0 .. 9) that one may have in a SORT so that all BEATEN of that SORT with one in them are"
            + " so (all else as it is).");
        NobodyTwice may = told("one 0 5 0 9;one 0 5 0 9;one 3 9 9 9;");
        due("may(0, 0) without any", may.may(0, 0), 1023);
        may.beaten(0, 1, 0, 0);
        due("may(0, 0): above 5", may.may(0, 0), 0x3c0);
        due("may(1, 0): below 5", may.may(1, 0), 0x1f);
        due("may(2, 0): not in it", may.may(2, 0), 1023);
        due("may(0, 1): another sort", may.may(0, 1), 1023);
        may.beaten(0, 1, 1, 0);
        due("may(0, 1): above 0", may.may(0, 1), 0x3fe);
        due("may(1, 1): below 0", may.may(1, 1), 0);
        may.beaten(0, 1, 2, 0);
        due("may(0, 2): above 9", may.may(0, 2), 0);
        due("may(1, 2): below 9", may.may(1, 2), 0x1ff);
        may.beaten(0, 2, 0, 0);
        due("may(0, 0): above 10", may.may(0, 0), 0);
        due("may(2, 0): 1 more is below 5", may.may(2, 0), 0xf);
        says("CLASH: how many BEATEN are not so as all is.");
        due("clash()", may.clash(), 4);
        due("clash() of none", told("one 0 5 0 9;").clash(), 0);
        NobodyTwice last = told("one 0 1 2 3;one 0 3 1 2;one 0 2 3 1;");
        for (int i = 0; i < 3; i++) {
            last.beaten((i + 1) % 3, i, i, 7);
            last.beaten(i, (i + 1) % 3, i, 7);
        }
        due("clash(): each, or the other way round", last.clash(), 3);
        due("may(2, 0): beats and is beaten by none", last.may(2, 0), 1023);
        due("may(0, 2): both ways at once", last.may(0, 2), 0);
        last.forget(1);
        last.beaten(1, 0, 0, 0);
        last.beaten(2, 1, 1, 0);
        last.beaten(0, 2, 2, 0);
        due("clash(): all are so", last.clash(), 0);
        NobodyTwice clash = told("one 0 5 5 5;one 4 3 3 3;one 0 5 5 5;");
        clash.beaten(0, 1, 0, 0);
        due("clash(): in year 0 a dog is good for nothing", clash.clash(), 0);
        clash.beaten(0, 1, 0, 1);
        due("clash(): in year 1 it has 6", clash.clash(), 1);
        clash.beaten(0, 2, 0, 1);
        due("clash(): like ones", clash.clash(), 2);
    }

    private static void fraction(NobodyTwice x, int p, int y, long above, long below) {
        due("odds(" + p + ", " + y + ")", x.odds(p, y), 1);
        due("part(0)", x.part(0), above);
        due("part(1)", x.part(1), below);
    }

    private static void odds() {
        says("THE FRACTION is 0 by 1 at first; lowest terms, below above 0.");
        NobodyTwice first = new NobodyTwice();
        due("part(0)", first.part(0), 0);
        due("part(1)", first.part(1), 1);
        NobodyTwice x = told("prize 0 0 20;prize 7 1 9;one 0 9 0 1;one 0 6 0 1;one 3 8 3 1;one 0 0 4 4;one 0 5 0 0;");
        fraction(x, 0, 0, 9, 29);
        fraction(x, 1, 0, 6, 29);
        fraction(x, 4, 0, 5, 29);
        fraction(told("prize 0 0 20;one 0 9 9 9;one 0 6 6 6;one 0 3 3 3;"), 0, 0, 1, 2);
        fraction(told("prize 0 0 20;one 0 9 9 9;one 0 6 6 6;one 0 3 3 3;"), 1, 0, 1, 3);
        fraction(told("prize 0 0 20;one 0 9 9 9;"), 0, 0, 1, 1);
        fraction(told("prize 0 0 20;one 0 1 1 1;"), 0, 0, 1, 1);
        fraction(told("prize 0 0 20;one 0 1 1 1;one 0 1 1 1;"), 1, 0, 1, 2);
        fraction(told("prize 1 0 20;one 4 9 9 9;one 4 9 9 9;one 4 9 9 9;one 4 9 9 9;one 4 9 9 9;one 4 9 9 9;"), 5, 1, 1, 6);
        fraction(told("prize 1 0 20;one 4 9 9 9;one 4 9 9 9;one 4 9 9 9;one 4 9 9 9;one 4 9 9 9;one 0 1 9 9;"), 5, 1, 1, 91);
        says("the chance of one: THE FRACTION (0: one does not ENTER).");
        fraction(x, 3, 0, 0, 1);
        // in year 7 a proud one with 3 and a plain one with 4 are alike; 0 has had its prize by then
        fraction(x, 3, 7, 1, 2);
        fraction(x, 0, 7, 0, 1);
        fraction(x, 2, 7, 1, 2);
        fraction(x, 3, 6, 0, 1);
        NobodyTwice barred = told("prize 0 0 20;prize 1 0 20;one 0 9 9 9;one 2 8 8 8;one 0 4 4 4;");
        fraction(barred, 0, 0, 3, 7);
        fraction(barred, 0, 1, 0, 1);
        fraction(barred, 1, 1, 2, 3);
        gone(x, 7);
        fraction(x, 3, 7, 1, 2);
        due("odds(3, 6), over", x.odds(3, 6), -2);
        due("part(0) stays", x.part(0), 1);
        x.year();
        due("odds(3, 7), over", x.odds(3, 7), -2);
        due("part(1) stays", x.part(1), 2);
    }

    private static void valleys() {
        says("VALLEYS by a SEED (0 .. 999999), n (0 .. 60)");
        bounds("valleys(seed)", BoundariesTest::three, 0, 999999, (x, seed) -> x.valleys(seed, 1));
        bounds("valleys(n)", BoundariesTest::three, 0, 60, (x, n) -> x.valleys(0, n));
        says("X is SEED at first; each time for each YEAR from THE YEAR on X becomes X times 1103515245 and 12345, by"
            + " 2147483648 what is left over; X by 65536 (cut), by 3 left over, is the SORT, X by 1048576 (cut), by 30"
            + " left over, and 1 the WORTH of its PRIZE");
        for (int seed : new int[] {0, 1, 77, 500000, 999998, 999999}) {
            for (int n : new int[] {0, 1, 2, 59, 60}) {
                for (int gone = 0; gone <= 8; gone += 4) {
                    valleysBySeed(seed, n, gone);
                }
            }
        }
        for (int seed = 0; seed < 1000000; seed += 9901) {
            valleysOfHiders(seed);
        }
        says("WORTH of all that is WON in it by all, in all n together.");
        NobodyTwice nobody = told("prize 0 0 9;");
        due("valleys of nobody", nobody.valleys(1, 60), 0);
        NobodyTwice weak = told("prize 0 0 9;one 0 0 0 0;");
        due("valleys of one good for nothing", weak.valleys(1, 60), 0);
        NobodyTwice won = gone(told("prize 0 0 9;one 0 1 1 1;"), 1);
        due("valleys of one who has won ahead of it", won.valleys(1, 60), 0);
    }

    /** Four hiders have all eight prizes, whatever they are, and so each time. */
    private static void valleysOfHiders(int seed) {
        NobodyTwice v = told("one 2 1 1 1;one 2 1 1 1;one 2 1 1 1;one 2 1 1 1;");
        long x = seed;
        long sum = 0;
        for (int i = 0; i < 60 * 8; i++) {
            x = x * 1103515245L + 12345L & 0x7fffffffL;
            sum += (x >> 20) % 30 + 1;
        }
        due("valleys(" + seed + ", 60) of hiders", v.valleys(seed, 60), sum);
    }

    /** A plain one good in sort 0 alone has the first prize of that sort that comes, and so each time. */
    private static void valleysBySeed(int seed, int n, int gone) {
        java.math.BigInteger x = java.math.BigInteger.valueOf(seed);
        long sum = 0;
        for (int i = 0; i < n; i++) {
            boolean won = false;
            for (int y = gone; y < 8; y++) {
                x = x.multiply(java.math.BigInteger.valueOf(1103515245L)).add(java.math.BigInteger.valueOf(12345L))
                    .mod(java.math.BigInteger.valueOf(2147483648L));
                if (!won && x.longValue() / 65536 % 3 == 0) {
                    won = true;
                    sum += x.longValue() / 1048576 % 30 + 1;
                }
            }
        }
        NobodyTwice v = gone(told("one 0 1 0 0;"), gone);
        due("valleys(" + seed + ", " + n + ") in year " + gone, v.valleys(seed, n), sum);
    }

    private static void undo() {
        says("UNDO: THE YEAR, WINS, SECONDS as ahead of the last YEAR gone by (8 at most; behind one that comes, a PRIZE"
            + " told none may be).");
        NobodyTwice x = told("prize 0 0 9;prize 7 0 9;one 2 5 5 5;one 2 4 4 4;");
        due("undo(), none gone by", x.undo(), -3);
        NobodyTwice second = told("prize 0 0 9;prize 1 0 9;one 2 4 4 4;one 2 5 5 5;");
        gone(second, 2);
        due("of(0, 5), second twice", second.of(0, 5), 2);
        due("of(1, 4)", second.of(1, 4), 3);
        second.undo();
        due("of(0, 5), second once", second.of(0, 5), 1);
        due("of(1, 4)", second.of(1, 4), 1);
        second.undo();
        due("of(0, 5), never", second.of(0, 5), 0);
        due("of(1, 4)", second.of(1, 4), 0);
        long[] digests = new long[9];
        for (int y = 0; y < 8; y++) {
            digests[y] = x.digest();
            due("count(6)", x.count(6), y);
            x.year();
        }
        due("count(6): 8 at most", x.count(6), 8);
        due("year() behind all", x.year(), -3);
        due("count(6): 8 at most", x.count(6), 8);
        for (int y = 7; y >= 0; y--) {
            due("undo()", x.undo(), y);
            due("digest() as ahead of year " + y, x.digest(), digests[y]);
        }
        due("undo(), a 9th", x.undo(), -3);
        gone(x, 2);
        due("prize(7, 0, 9), the same once more", x.prize(7, 0, 9), 9);
        due("undo() behind a prize", x.undo(), -3);
        gone(x, 1);
        due("count(6) behind it", x.count(6), 1);
        due("undo() of what went by since", x.undo(), 2);
        due("undo() to the prize", x.undo(), -3);
        gone(x, 1);
        due("one", x.one(0, 0, 0, 0), 2);
        due("undo() behind one that comes", x.undo(), -3);
        gone(x, 2);
        x.prize(8, 0, 1);
        x.one(0, 0, 0, 10);
        due("undo() behind what was refused", x.undo(), 4);
        due("undo()", x.undo(), 3);
        due("undo()", x.undo(), -3);
    }

    private static void images() {
        says("IMAGES 0, 1 keep all but them, THE TEXT, THE FRACTION and STATUS; what may be undone they keep; it goes on"
            + " from one.");
        bounds("image(i)", BoundariesTest::three, 0, 1, NobodyTwice::image);
        bounds("from(i)", () -> {
            NobodyTwice x = three();
            x.image(0);
            x.image(1);
            return x;
        }, 0, 1, NobodyTwice::from);
        NobodyTwice x = three();
        due("image(0)", x.image(0), 1);
        due("from(1), not kept", x.from(1), -3);
        due("from(0)", x.from(0), 1);
        gone(x, 8);
        due("image(1)", x.image(1), 1);
        x.valley();
        x.odds(0, 0);
        x.clear();
        x.type(59);
        due("from(1)", x.from(1), 1);
        due("count(6)", x.count(6), 8);
        due("count(7): THE TEXT goes on", x.count(7), 1);
        due("status(0): STATUS goes on", x.status(0), 1);
        due("status(1)", x.status(1), 1);
        for (int y = 7; y >= 0; y--) {
            due("undo() of an image's year", x.undo(), y);
        }
        due("undo()", x.undo(), -3);
        due("from(1): the image stays", x.from(1), 1);
        due("count(1)", x.count(1), 8);
        due("from(0): the images, too", x.from(0), 1);
        due("count(1)", x.count(1), 0);
        due("undo(): nothing went by when it was kept", x.undo(), -3);
    }

    private static void whatImagesKeep() {
        says("what may be undone they keep; it goes on from one.");
        NobodyTwice x = told("prize 0 0 9;prize 1 0 9;one 0 5 5 5;one 0 4 4 4;one 0 3 3 3;");
        x.note(0, 14, 2, 0);
        x.note(1, 30, 7, 1);
        x.beaten(1, 0, 2, 7);
        gone(x, 2);
        x.image(0);
        long digest = x.digest();
        // another course, with other notes, other winners and other years
        x.valley();
        x.one(2, 1, 1, 1);
        x.one(2, 9, 9, 9);
        x.one(2, 8, 8, 8);
        x.prize(0, 1, 30);
        x.prize(1, 1, 30);
        x.note(2, 1, 1, 1);
        x.note(2, 2, 2, 1);
        x.beaten(0, 2, 0, 0);
        gone(x, 3);
        due("from(0)", x.from(0), 1);
        due("digest()", x.digest(), digest);
        due("is(0)", x.is(0), 2 + 8 + 32);
        due("clash()", x.clash(), 1);
        due("undo()", x.undo(), 1);
        due("of(0, 4)", x.of(0, 4), 1);
        due("of(1, 4)", x.of(1, 4), 0);
        due("of(1, 5)", x.of(1, 5), 1);
        due("of(2, 5)", x.of(2, 5), 0);
        due("undo()", x.undo(), 0);
        due("of(0, 4)", x.of(0, 4), 0);
        due("of(1, 5)", x.of(1, 5), 0);
        due("year()", x.year(), 0);
        due("from(0): what went on does not change the image", x.from(0), 1);
        due("digest()", x.digest(), digest);
        x.image(1);
        x.valley();
        due("image(0), kept anew", x.image(0), 1);
        due("from(1): the other image stays", x.from(1), 1);
        due("digest()", x.digest(), digest);
        due("from(0)", x.from(0), 1);
        due("count(0)", x.count(0), 0);
    }

    private static void status() {
        says("STATUS: how many calls were refused as BAD, NO, FULL (each answer told so below is such a one).");
        NobodyTwice x = new NobodyTwice();
        for (int i = 1; i <= 3; i++) {
            x.about(8, 0);
            x.undo();
            due("status(0)", x.status(0), i);
            due("status(1)", x.status(1), i);
            due("status(2)", x.status(2), 0);
        }
        for (int i = 0; i < 9; i++) {
            x.one(0, 0, 0, 0);
        }
        due("status(2)", x.status(2), 3);
        x.rivals(0, 0, 0);
        due("status(0) behind -10 of rivals", x.status(0), 4);
        x.handicap(0);
        x.best(0, 0);
        x.order(0);
        x.winner(0, 0);
        x.year();
        x.rivals(0, 1, 64);
        due("status(0) behind NONE, -5", x.status(0), 4);
        due("status(1) behind NONE, -5", x.status(1), 3);
        due("status(2) behind NONE, -5", x.status(2), 3);
        says("the first of: BAD -2 a number is not as told; NO -3 as told; FULL -4");
        due("one(6, ..), full", x.one(6, 0, 0, 0), -2);
        due("one(0, ..), full", x.one(0, 0, 0, 0), -4);
        due("from(2), none kept", x.from(2), -2);
        due("from(1), none kept", x.from(1), -3);
        says("-1: another what (counts as BAD).");
        bounds("status(what)", BoundariesTest::three, 0, 2, -1, NobodyTwice::status);
    }

    private static void calls() {
        says("`NobodyTwice()`: As told; nobody is there.");
        due("count(0)", new NobodyTwice().count(0), 0);
        says("All as at first (but for IMAGES, THE TEXT, THE FRACTION, STATUS): how many PEOPLE there were.");
        NobodyTwice x = told("prize 0 0 9;one 0 9 9 9;one 0 8 8 8;one 0 8 8 8;one 0 8 8 8;one 0 8 8 8;one 0 8 8 8;");
        x.year();
        x.note(0, 1, 1, 1);
        x.beaten(0, 1, 1, 1);
        due("valley() of six", x.valley(), 6);
        x.clear();
        due("digest() as at first", x.digest(), new NobodyTwice().digest());
        due("valley() of nobody", x.valley(), 0);
        due("one", x.one(0, 0, 0, 0), 0);
        due("one", x.one(0, 0, 0, 0), 1);
        due("of(0, 4): of one who won there is nothing left", x.of(0, 4), 0);
        due("of(0, 6)", x.of(0, 6), 0);
        due("of(1, 5): of one who was second, too", x.of(1, 5), 0);
        due("valley() of two", x.valley(), 2);
        says("The PRIZE of a YEAR (any): its WORTH ahead of it (0: none). BAD.");
        NobodyTwice late = gone(told("prize 7 0 3;"), 8);
        due("prize(7, 1, 4), over", late.prize(7, 1, 4), 3);
        due("prize(0, 1, 4), over", late.prize(0, 1, 4), 0);
        due("prize(0, 1, 5), over", late.prize(0, 1, 5), 4);
        says("One comes: the number. BAD; FULL: 6.");
        for (int i = 0; i < 6; i++) {
            due("one", late.one(0, 0, 0, 0), i);
        }
        due("a 7th one", late.one(0, 0, 0, 0), -4);
        says("A byte (0 .. 127) comes behind THE TEXT: how many it has. BAD; FULL.");
        bounds("type(c)", BoundariesTest::three, 0, 127, NobodyTwice::type);
        NobodyTwice text = new NobodyTwice();
        for (int i = 1; i <= 150; i++) {
            due("type(127)", text.type(127), i);
        }
        due("type(127), the 151st", text.type(127), -4);
        due("type(128), the 151st", text.type(128), -2);
        says("THE TEXT is empty: how many it had.");
        due("clear()", text.clear(), 150);
        due("clear()", text.clear(), 0);
        due("type(0)", text.type(0), 1);
        due("clear()", text.clear(), 1);
        says("A YEAR goes by: who WINS (NONE: nobody). NO: all are over.");
        NobodyTwice years = told("prize 0 0 9;prize 1 0 9;one 0 9 9 9;");
        due("year()", years.year(), 0);
        due("year(), barred", years.year(), -1);
        due("year(), no prize", years.year(), -1);
        gone(years, 4);
        due("year(), the 8th", years.year(), -1);
        due("year(), a 9th", years.year(), -3);
    }

    private static void counts() {
        says("KIND (0), ART in SORT 0, 1, 2 (1, 2, 3), WINS (4; bits), SECONDS (5), BARRED (6; 1, 0). BAD.");
        bounds("of(what)", BoundariesTest::three, 0, 6, (x, what) -> x.of(0, what));
        says("SORT (0; NONE: no PRIZE), WORTH (1; 0). BAD: -10.");
        bounds("about(what)", BoundariesTest::three, 0, 1, -10, (x, what) -> x.about(0, what));
        says("WINNER (0), SECOND (1). NONE. BAD: a YEAR that is over, too.");
        bounds("winner(what)", BoundariesTest::three, 0, 1, (x, what) -> x.winner(0, what));
        says("END: WORTH (0), SECONDS (1). BAD.");
        bounds("end(what)", BoundariesTest::three, 0, 1, (x, what) -> x.end(0, what));
        says("RIVALS: how many (k = NONE), the k-th. -5: not so many. BAD: -10: alike, too.");
        NobodyTwice two = told("prize 0 0 9;prize 1 0 9;prize 2 0 9;one 0 5 5 5;one 0 5 5 5;");
        int rest = two.rivals(0, 1, -1);
        due("rivals(0, 1, -1): any two unlike years", rest, 6);
        due("the last", two.rivals(0, 1, rest - 1), 17);
        due("behind the last", two.rivals(0, 1, rest), -5);
        due("rivals(0, 1, max)", two.rivals(0, 1, HIGH), -5);
        due("status(0)", two.status(0), 0);
        due("rivals(0, 1, -2)", two.rivals(0, 1, -2), -10);
        due("rivals(0, 0, -1)", two.rivals(0, 0, -1), -10);
        due("rivals(1, 1, max), alike ahead of not so many", two.rivals(1, 1, HIGH), -10);
        due("status(0)", two.status(0), 3);
        says("No NOTES (0), BEATEN (1): how many there were. BAD.");
        bounds("forget(what)", BoundariesTest::three, 0, 1, NobodyTwice::forget);
        NobodyTwice x = three();
        x.note(0, 1, 1, 1);
        due("forget(1)", x.forget(1), 0);
        due("forget(0)", x.forget(0), 1);
        due("forget(0)", x.forget(0), 0);
        says("THE FRACTION: above (0), below (1). BAD.");
        bounds("part(what)", BoundariesTest::three, 0, 1, NobodyTwice::part);
        says("How many: 0 PEOPLE, 1 THE YEAR, 2 PRIZES, 3 WINS of all, 4 NOTES, 5 BEATEN, 6 that may be undone, 7 bytes"
            + " of THE TEXT. BAD.");
        bounds("count(what)", BoundariesTest::three, 0, 7, NobodyTwice::count);
        NobodyTwice full = full();
        int[] want = {6, 8, 8, 8, 6, 6, 8, 150};
        for (int i = 0; i < 8; i++) {
            due("count(" + i + ") at first", new NobodyTwice().count(i), 0);
            due("count(" + i + "), as much as can be", full.count(i), want[i]);
        }
        digests(full);
    }

    /** As much of all as can be, but for the image. */
    private static NobodyTwice full() {
        NobodyTwice x = new NobodyTwice();
        for (int p = 0; p < 6; p++) {
            x.one(2, 9 - p, 8 - p, 7 - p);
        }
        for (int y = 0; y < 8; y++) {
            x.prize(y, y % 3, 30 - y);
        }
        x.odds(5, 0);
        gone(x, 8);
        for (int i = 0; i < 6; i++) {
            x.note(i, 30 - i, 7 - i, i % 2);
            x.beaten(5 - i, (6 - i) % 6, i % 3, 7 - i);
        }
        for (int i = 0; i < 150; i++) {
            x.type(32);
        }
        return x;
    }

    private static long mixed(long... row) {
        long h = 1303;
        for (long v : row) {
            h = 31 * h + v;
        }
        return h;
    }

    private static void digests(NobodyTwice full) {
        says("of YEARS SORT (NONE: -1), WORTH (0); of PEOPLE KIND, three ARTS, WINS (bits), SECONDS; of NOTES p, w, l,"
            + " tried; of BEATEN p, q, s, y; THE FRACTION.");
        due("digest() at first", new NobodyTwice().digest(), mixed(0, 0, 0, 0, 0, 0, 0, 0,
            -1, 0, -1, 0, -1, 0, -1, 0, -1, 0, -1, 0, -1, 0, -1, 0, 0, 1));
        // four hiders have two years each, the next one being second in both; by lot in year 0 the last has 4 of 39
        due("digest(), as much as can be", full.digest(), mixed(6, 8, 8, 8, 6, 6, 8, 150,
            0, 30, 1, 29, 2, 28, 0, 27, 1, 26, 2, 25, 0, 24, 1, 23,
            2, 9, 8, 7, 3, 0, 2, 8, 7, 6, 12, 2, 2, 7, 6, 5, 48, 2, 2, 6, 5, 4, 192, 2, 2, 5, 4, 3, 0, 2, 2, 4, 3, 2, 0, 0,
            0, 30, 7, 0, 1, 29, 6, 1, 2, 28, 5, 0, 3, 27, 4, 1, 4, 26, 3, 0, 5, 25, 2, 1,
            5, 0, 0, 7, 4, 5, 1, 6, 3, 4, 2, 5, 2, 3, 0, 4, 1, 2, 1, 3, 0, 1, 2, 2,
            4, 39));
    }

    private static void manyCalls() {
        says("An object is used for at most 512 calls after it has been made; what later calls answer is free.");
        NobodyTwice refused = new NobodyTwice();
        for (int i = 0; i < 511; i++) {
            due("count(8)", refused.count(8), -2);
        }
        due("status(0), the 512th call", refused.status(0), 511);
        NobodyTwice busy = new NobodyTwice();
        for (int p = 0; p < 6; p++) {
            busy.one(p % 3 == 1 ? 2 : 0, 9, 9, 9);
        }
        long digest = busy.digest();
        for (int i = 0; i < 84; i++) {
            busy.year();
            busy.image(i % 2);
            busy.undo();
            due("valleys(0, 60)", busy.valleys(0, 60), busy.valleys(0, 60));
            busy.rivals(0, 5, 63);
        }
        due("digest(), the 512th call", busy.digest(), digest);
        for (int i = 0; i < 600; i++) {
            busy.year();
            busy.from(i % 2);
            busy.type(i % 128);
            busy.read();
        }
    }
}
