import java.util.function.Consumer;
import java.util.function.ToLongFunction;

/** For each sentence of the promises 1 to 23 that names a boundary case: a test of its own. */
public final class EdgesTest {
    private static final int NONE = LawNumberer.NONE;
    private static final int LEAST = Integer.MIN_VALUE;
    private static final int MOST = Integer.MAX_VALUE;

    public static void main(String[] args) {
        tapes();
        faults();
        adding();
        changing();
        asking();
        citing();
        reading();
        counting();
        Check.finish();
    }

    /** A call that is refused changes nothing that can be asked. */
    private static void refused(LawNumberer x, String what, long want, ToLongFunction<LawNumberer> call) {
        String state = Check.state(x);
        Check.due(what, call.applyAsLong(x), want);
        Check.due("state behind " + what, Check.state(x), state);
    }

    // Promises 1 to 3: a new object, feed, end

    private static void tapes() {
        Check.sentence("1: LEVELS number, letter", EdgesTest::firstLevels);
        Check.sentence("1: no ITEMS, DAY 0, an empty tape, OUT", EdgesTest::emptyAtFirst);
        Check.sentence("2: Twenty bytes come behind the tape", EdgesTest::twentyBehind);
        Check.sentence("2: of each number the highest first", EdgesTest::highestFirst);
        Check.sentence("2: how many it has", EdgesTest::howManyFed);
        Check.sentence("2: NONE, and none come, if it would have more than 200", EdgesTest::moreThan200);
        Check.sentence("3: The tape has its first n bytes alone", EdgesTest::firstBytesAlone);
        Check.sentence("3: false, if it has not so many", EdgesTest::notSoMany);
        Check.sentence("3: or n is below 0", EdgesTest::endBelow0);
    }

    private static void firstLevels() {
        LawNumberer x = new LawNumberer();
        Check.due("two", x.count(0), 2);
        x.add(NONE, NONE);
        x.add(NONE, 0);
        Check.due("under the first LEVEL", x.add(0, NONE), 2);
        Check.due("under the second one", x.add(1, NONE), 3);
        Check.due("under the last LEVEL", x.add(2, NONE), -1);
        Check.due("number and letter, not through", Check.labels(x, 0), "1 2 a a");
    }

    private static void emptyAtFirst() {
        LawNumberer x = new LawNumberer();
        Check.due("state", Check.state(x),
            "counts 2 0 0 0 0 0 0 fault 0 at -1 bearers 0 suffix 0 clash -1 out  order ");
        Check.due("undo", x.undo(), false);
        Check.due("end 0", x.end(0), true);
        Check.due("end 1", x.end(1), false);
        Check.due("strike", x.strike(0), false);
        Check.due("renumber", x.renumber(0), false);
        Check.due("error", x.error(0, 1, 0), false);
        Check.due("label", x.label(0, 0), NONE);
        Check.due("cited", x.cited(0, 0), NONE);
        Check.noSuch("octet", () -> x.octet(0));
        Check.noSuch("about", () -> x.about(0, 0));
    }

    private static void twentyBehind() {
        LawNumberer x = new LawNumberer();
        x.feed(0x6E756D62, 0x65723B6C, 0x65747465, 0x723B736D, 0x616C6C3B);
        Check.due("all twenty", x.levels(), 3);
        x.feed(0x6E756D62, 0x65723B6C, 0x65747465, 0x723B736D, 0x616C6C3B);
        x.feed(0x726F6D61, 0x6E3B0000, 0, 0, 0);
        x.end(26);
        Check.due("behind the first twenty", x.levels(), 4);
        x.feed(0x31320000, 0, 0, 0, 0);
        x.end(2);
        x.feed(0x33410000, 0, 0, 0, 0);
        x.end(4);
        Check.due("behind what end left", x.read(0), 123);
        Check.due("its suffix", x.suffix(), 'A');
    }

    /** A byte above 127 at each of the twenty places, blanks ahead of it. */
    private static void highestFirst() {
        for (int place = 0; place < 20; place++) {
            for (int b : new int[] {0xFF, 0x80, 0x7F, 0}) {
                int[] n = new int[5];
                for (int i = 0; i < 20; i++) {
                    n[i / 4] = n[i / 4] << 8 | (i == place ? b : ' ');
                }
                LawNumberer x = new LawNumberer();
                x.feed(n[0], n[1], n[2], n[3], n[4]);
                Check.due("byte " + b + " at " + place, x.levels(), -1 - place);
                Check.due("its fault", x.fault(), 1);
            }
        }
    }

    private static void howManyFed() {
        LawNumberer x = new LawNumberer();
        for (int i = 1; i <= 10; i++) {
            Check.due("feed " + i, x.feed(-1, LEAST, MOST, 0, 1), 20 * i);
            Check.due("count", x.count(6), 20 * i);
        }
        x.end(3);
        Check.due("behind three", x.feed(0, 0, 0, 0, 0), 23);
    }

    private static void moreThan200() {
        LawNumberer x = new LawNumberer();
        Check.feed(x, " ".repeat(200));
        refused(x, "feed behind 200", NONE, y -> y.feed(0, 0, 0, 0, 0));
        x.end(181);
        refused(x, "feed behind 181", NONE, y -> y.feed(0, 0, 0, 0, 0));
        x.end(180);
        Check.due("feed behind 180", x.feed(0, 0, 0, 0, 0), 200);
        x.end(181);
        Check.due("none came: a 0 at 180 alone", x.levels(), -181);
        Check.feed(x, " ".repeat(181));
        x.feed(0, 0, 0, 0, 0);
        Check.due("none came: 181 blanks", x.levels(), -182);
        Check.due("the end", x.fault(), 2);
    }

    private static void firstBytesAlone() {
        LawNumberer x = new LawNumberer();
        x.feed(0x31323334, 0x35363738, 0x41424344, 0, 0);
        Check.due("all of them", x.end(20), true);
        Check.due("three", x.end(3), true);
        Check.due("the same again", x.end(3), true);
        Check.due("three are left", x.count(6), 3);
        Check.due("the first ones", x.read(0), 123);
        x.feed(0x31323334, 0, 0, 0, 0);
        Check.due("none", x.end(0), true);
        Check.due("none are left", x.count(6), 0);
        Check.due("nothing to read", x.read(0), NONE);
        Check.feed(x, "I-AB");
        x.end(1);
        Check.due("what is cut off counts no more", x.read(1), 1);
        Check.due("nor its letters", x.suffix(), 0);
        Check.feed(x, "9AB");
        x.end(1);
        Check.due("nor those of a number", x.read(0), 9);
        Check.feed(x, "smaller;");
        x.end(5);
        Check.due("nor those of a WORD", x.levels(), -6);
        Check.due("nor its ;", x.fault(), 2);
    }

    private static void notSoMany() {
        LawNumberer x = new LawNumberer();
        refused(x, "end 1 of 0", 0, y -> y.end(1) ? 1 : 0);
        Check.feed(x, "123");
        for (int n : new int[] {4, 20, 200, 201, MOST}) {
            refused(x, "end " + n + " of 3", 0, y -> y.end(n) ? 1 : 0);
        }
        Check.due("all three are there", x.read(0), 123);
    }

    private static void endBelow0() {
        LawNumberer x = new LawNumberer();
        refused(x, "end -1 of 0", 0, y -> y.end(-1) ? 1 : 0);
        Check.feed(x, "123");
        for (int n : new int[] {-1, -3, LEAST}) {
            refused(x, "end " + n, 0, y -> y.end(n) ? 1 : 0);
        }
        Check.due("all three are there", x.read(0), 123);
    }

    // Promises 4, 5, 17: levels, fault, place

    private static void faults() {
        Check.sentence("4: The tape (empty then, with a FAULT, too, here and below)", EdgesTest::tapeIsEmptyThen);
        Check.sentence("4: how many", EdgesTest::howManyLevels);
        Check.sentence("4: no ITEMS, nothing to be undone then, DAY 0", EdgesTest::levelsBeginAnew);
        Check.sentence("4: -1 - the place of a FAULT", EdgesTest::placeOfFault);
        Check.sentence("4: all stays", EdgesTest::allStaysWithFault);
        Check.sentence("5: The kind of the FAULT of the latest levels() or cite()", EdgesTest::latestFault);
        Check.sentence("5: 0 without one and ahead of any", EdgesTest::noFault);
        Check.sentence("17: The place of the FAULT of the latest levels() or cite()", EdgesTest::latestPlace);
        Check.sentence("17: NONE without one and ahead of any", EdgesTest::noPlace);
    }

    private static void emptyBehind(String what, String text, Consumer<LawNumberer> call) {
        LawNumberer x = Check.withTop(1);
        Check.feed(x, text);
        Check.due("bytes ahead of " + what, x.count(6), text.length());
        call.accept(x);
        Check.due("bytes behind " + what, x.count(6), 0);
    }

    private static void tapeIsEmptyThen() {
        emptyBehind("levels", "number;", x -> x.levels());
        emptyBehind("levels with a fault", "number", x -> x.levels());
        emptyBehind("levels of a full tape", " ".repeat(200), x -> x.levels());
        emptyBehind("cite", "1", x -> x.cite(0));
        emptyBehind("cite of none", "2", x -> x.cite(0));
        emptyBehind("cite with a fault", "?", x -> x.cite(0));
        emptyBehind("cite of a day below 0", "1", x -> x.cite(-1));
        emptyBehind("read", "1", x -> x.read(0));
        emptyBehind("read of none", "?", x -> x.read(0));
        emptyBehind("read of no form", "1", x -> x.read(4));
        emptyBehind("read of a form below 0", "1", x -> x.read(-1));
    }

    private static void howManyLevels() {
        LawNumberer x = new LawNumberer();
        String text = "";
        for (int n = 1; n <= 4; n++) {
            text += "roman;";
            Check.due("levels", Check.levels(x, text), n);
            Check.due("count", x.count(0), n);
        }
        Check.due("one again", Check.levels(x, "roman;"), 1);
        Check.due("the most bytes", Check.levels(x, "roman;" + " ".repeat(194)), 1);
    }

    private static void levelsBeginAnew() {
        LawNumberer x = Check.withTop(80);
        x.strike(0);
        x.strike(1);
        x.wait(9);
        x.renumber(0);
        Check.due("levels", Check.levels(x, "number;letter;"), 2);
        Check.due("state", Check.state(x),
            "counts 2 0 0 0 0 0 0 fault 0 at -1 bearers 0 suffix 0 clash -1 out  order ");
        Check.due("nothing to be undone", x.undo(), false);
        Check.due("the first one", x.add(NONE, NONE), 0);
        Check.due("its label", Check.label(x, 0, 0), "1");
        Check.due("the next one", x.add(NONE, 0), 1);
        Check.due("not struck, come on day 0", Check.items(x), " order 0 1 item 0 -1 0 0 0 0 item 0 -1 0 1 1 0");
        Check.due("undo", x.undo() && x.undo(), true);
        Check.due("undo beyond the levels", x.undo(), false);
        x = Check.withTop(2);
        Check.levels(x, "number;");
        x.wait(5);
        x.add(NONE, NONE);
        Check.due("no label ahead of its day from ahead of the levels", Check.label(x, 0, 4), "-");
        Check.due("that of its day", Check.label(x, 0, 5), "1");
        x.wait(1);
        x.error(0, 7, 0);
        x.wait(2);
        x.add(NONE, 0);
        Check.due("nor one of another ITEM", Check.label(x, 1, 7), "-");
        Check.due("that of its day", Check.label(x, 1, 8), "8");
    }

    private static void placeOfFault() {
        LawNumberer x = new LawNumberer();
        Check.due("at 0", Check.levels(x, "?"), -1);
        Check.due("at 1", Check.levels(x, " ?"), -2);
        Check.due("at 199", Check.levels(x, " ".repeat(199) + "?"), -200);
        Check.due("at 200", Check.levels(x, " ".repeat(200)), -201);
        Check.due("a fifth form", Check.levels(x, "small;small;small;small;small;"), -25);
    }

    private static void allStaysWithFault() {
        for (String text : new String[] {"", "?", "small;?", "small", "small;small;small;small;small;"}) {
            LawNumberer x = Check.withTop(2);
            x.wait(3);
            x.add(0, NONE);
            x.strike(1);
            Check.read(x, "3AB", 0);
            Check.cite(x, "2", 3);
            Check.cited(x, 2, 3);
            String counts = Check.state(x).replaceAll("fault.*?bearers", "bearers");
            Check.due("levels", Check.levels(x, text) < 0, true);
            Check.due("state", Check.state(x).replaceAll("fault.*?bearers", "bearers"), counts);
            Check.due("labels", Check.labels(x, 3), "1 2 a");
            Check.due("the forms stay", x.add(0, 2), 3);
            Check.due("the forms stay", Check.cited(x, 3, 3), "1.b");
            Check.due("undo", x.undo() && x.undo(), true);
            Check.due("not struck", x.count(2), 0);
        }
    }

    private static void kindAndPlace(LawNumberer x, String what, int kind, int place) {
        Check.due("fault behind " + what, x.fault(), kind);
        Check.due("place behind " + what, x.place(), place);
    }

    private static void latestFault() {
        LawNumberer x = new LawNumberer();
        Check.levels(x, "number?");
        Check.due("levels: 1", x.fault(), 1);
        Check.levels(x, "number");
        Check.due("levels: 2", x.fault(), 2);
        Check.levels(x, "small;small;small;small;small;");
        Check.due("levels: 3", x.fault(), 3);
        Check.cite(x, "1.?", 0);
        Check.due("cite: 1", x.fault(), 1);
        Check.cite(x, "04", 0);
        Check.due("cite: 2", x.fault(), 2);
        Check.levels(x, "?");
        Check.due("levels again: 1", x.fault(), 1);
        Check.due("asked again: 1", x.fault(), 1);
    }

    private static void noFault() {
        LawNumberer x = new LawNumberer();
        Check.due("ahead of any", x.fault(), 0);
        Check.read(x, "?", 0);
        Check.due("read has none", x.fault(), 0);
        Check.levels(x, "?");
        Check.read(x, "04", 0);
        Check.due("read leaves it", x.fault(), 1);
        Check.cite(x, "1", 0);
        Check.due("cite of none", x.fault(), 0);
        Check.cite(x, "?", 0);
        Check.levels(x, "number;");
        Check.due("levels without", x.fault(), 0);
        Check.cite(x, "?", 0);
        Check.cite(x, "?", -1);
        Check.due("cite of a day below 0", x.fault(), 0);
    }

    private static void latestPlace() {
        LawNumberer x = new LawNumberer();
        Check.levels(x, "?");
        kindAndPlace(x, "levels at 0", 1, 0);
        Check.levels(x, " ".repeat(200));
        kindAndPlace(x, "levels at 200", 2, 200);
        Check.cite(x, "", 0);
        kindAndPlace(x, "cite at 0", 1, 0);
        Check.cite(x, "1.a-" + "A".repeat(195) + "?", 0);
        kindAndPlace(x, "cite of a suffix too long", 2, 2);
        Check.levels(x, "number;roman;letter;small;number;");
        kindAndPlace(x, "a fifth form", 3, 26);
        Check.cite(x, "1.a.", 0);
        kindAndPlace(x, "a third level of two", 1, 3);
    }

    private static void noPlace() {
        LawNumberer x = new LawNumberer();
        Check.due("ahead of any", x.place(), NONE);
        Check.read(x, "?", 0);
        Check.due("read has none", x.place(), NONE);
        Check.levels(x, "?");
        Check.read(x, "1?", 0);
        Check.due("read leaves it", x.place(), 0);
        Check.cite(x, "1", 0);
        Check.due("cite of none", x.place(), NONE);
        Check.cite(x, "1?", 0);
        Check.levels(x, "number;");
        Check.due("levels without", x.place(), NONE);
        Check.cite(x, "1?", 0);
        Check.cite(x, "1?", -1);
        Check.due("cite of a day below 0", x.place(), NONE);
    }

    // Promise 6: add

    private static void adding() {
        Check.sentence("6: A new ITEM UNDER up (NONE: at the top)", EdgesTest::addUnder);
        Check.sentence("6: behind another one there (NONE: ahead of all)", EdgesTest::addBehind);
        Check.sentence("6: its number", EdgesTest::numberOfNew);
        Check.sentence("6: -1: there are 80", EdgesTest::thereAre80);
        Check.sentence("6: up of the last LEVEL", EdgesTest::upOfLastLevel);
        Check.sentence("6: behind not UNDER up", EdgesTest::behindNotUnderUp);
        Check.sentence("6: it is not as told", EdgesTest::noSuchUpOrBehind);
        Check.sentence("6: -2: there is no LABEL", EdgesTest::noLabel);
        Check.sentence("6: or its NUMBER would be above 999", EdgesTest::above999);
    }

    private static void addUnder() {
        LawNumberer x = new LawNumberer();
        Check.due("at the top", x.add(NONE, NONE), 0);
        Check.due("lies UNDER", x.about(0, 1), NONE);
        Check.due("under 0", x.add(0, NONE), 1);
        Check.due("lies UNDER", x.about(1, 1), 0);
        x.strike(0);
        Check.due("under a struck one", x.add(0, 1), 2);
        x.renumber(0);
        Check.due("under one without LABEL", x.add(0, 2), 3);
        Check.due("labels", Check.labels(x, 0), "- a b c");
        Check.due("but not cited", x.cited(3, 0), NONE);
    }

    private static void addBehind() {
        LawNumberer x = new LawNumberer();
        x.add(NONE, NONE);
        x.error(0, 5, 0);
        Check.due("ahead of all", x.add(NONE, NONE), 1);
        x.error(1, 4, 0);
        Check.due("ahead of all", x.add(NONE, NONE), 2);
        Check.due("behind the last one", x.add(NONE, 0), 3);
        Check.due("behind the first one", x.add(NONE, 2), 4);
        Check.due("order", Check.order(x), "2 4 1 0 3");
        Check.due("labels", Check.labels(x, 0), "5 4 1 6 2");
        x.add(1, NONE);
        x.error(5, 9, 0);
        Check.due("ahead of all under it", x.add(1, NONE), 6);
        Check.due("behind all under it", x.add(1, 5), 7);
        Check.due("order", Check.order(x), "2 4 1 6 5 7 0 3");
    }

    private static void numberOfNew() {
        LawNumberer x = new LawNumberer();
        Check.due("the first", x.add(NONE, NONE), 0);
        Check.due("under it", x.add(0, NONE), 1);
        Check.due("behind it", x.add(NONE, 0), 2);
        Check.due("refused", x.add(NONE, NONE), -2);
        Check.due("refused", x.add(NONE, 1), -1);
        Check.due("the refused ones have none", x.add(0, 1), 3);
        x.undo();
        Check.due("the undone one's", x.add(NONE, 2), 3);
    }

    private static void thereAre80() {
        LawNumberer x = Check.withTop(79);
        Check.due("the 80th", x.add(78, NONE), 79);
        for (int[] n : new int[][] {{NONE, 78}, {NONE, NONE}, {0, NONE}, {78, 79}, {79, NONE}, {NONE, 80}}) {
            Check.due("add " + n[0] + ", " + n[1], x.add(n[0], n[1]), -1);
        }
        Check.due("there are", x.count(1), 80);
        Check.due("acts", x.count(4), 80);
        x.undo();
        Check.due("the 80th again", x.add(0, NONE), 79);
    }

    private static void upOfLastLevel() {
        LawNumberer x = new LawNumberer();
        x.add(NONE, NONE);
        x.add(0, NONE);
        refused(x, "under the second of two", -1, y -> y.add(1, NONE));
        refused(x, "and behind", -1, y -> y.add(1, 1));
        Check.levels(x, "number;");
        x.add(NONE, NONE);
        refused(x, "under the only one", -1, y -> y.add(0, NONE));
        Check.levels(x, "number;number;number;number;");
        x.add(NONE, NONE);
        Check.due("under the first", x.add(0, NONE), 1);
        Check.due("under the second", x.add(1, NONE), 2);
        Check.due("under the third", x.add(2, NONE), 3);
        refused(x, "under the fourth", -1, y -> y.add(3, NONE));
    }

    private static void behindNotUnderUp() {
        for (int[] n : new int[][] {{NONE, 2}, {0, 0}, {0, 1}, {0, 3}, {1, 2}, {1, 1}, {1, 0}}) {
            LawNumberer x = Check.withTop(2);
            x.add(0, NONE);
            x.add(1, NONE);
            refused(x, "add " + n[0] + ", " + n[1], -1, y -> y.add(n[0], n[1]));
        }
        LawNumberer x = Check.with("number;number through;");
        Check.addTop(x, 2);
        x.add(0, NONE);
        refused(x, "in its ROW, not UNDER it", -1, y -> y.add(1, 2));
    }

    private static void noSuchUpOrBehind() {
        for (int n : new int[] {2, 79, 80, -2, LEAST, MOST}) {
            LawNumberer x = Check.withTop(2);
            refused(x, "under " + n, -1, y -> y.add(n, NONE));
            refused(x, "behind " + n, -1, y -> y.add(NONE, n));
            refused(x, "under 0, behind " + n, -1, y -> y.add(0, n));
            refused(x, "under and behind " + n, -1, y -> y.add(n, n));
        }
        LawNumberer none = new LawNumberer();
        refused(none, "behind 0 of none", -1, y -> y.add(NONE, 0));
        refused(none, "under 0 of none", -1, y -> y.add(0, NONE));
        LawNumberer x = Check.withTop(2);
        x.undo();
        refused(x, "behind one undone", -1, y -> y.add(NONE, 1));
        refused(x, "under one undone", -1, y -> y.add(1, NONE));
    }

    private static void noLabel() {
        LawNumberer x = Check.withTop(1);
        refused(x, "ahead of 1", -2, y -> y.add(NONE, NONE));
        x = Check.withLabels("1", "1A");
        refused(x, "between 1 and 1A", -2, y -> y.add(NONE, 0));
        x = Check.withLabels("1AZZZ", "1B");
        refused(x, "between 1AZZZ and 1B", -2, y -> y.add(NONE, 0));
        x = Check.withLabels("5", "4");
        refused(x, "between 5 and 4", -2, y -> y.add(NONE, 0));
        x = Check.withLabels("999ZZZZ", "999ZZZZ");
        refused(x, "above all there are", -2, y -> y.add(NONE, 0));
        x = Check.with("number;letter through;");
        Check.addTop(x, 2);
        x.add(1, NONE);
        refused(x, "ahead of a in a through LEVEL", -2, y -> y.add(0, NONE));
    }

    private static void above999() {
        LawNumberer x = Check.withLabels("998ZZZZ");
        Check.due("999", x.add(NONE, 0), 1);
        refused(x, "behind 999", -2, y -> y.add(NONE, 1));
        x.error(1, 999, Check.suffix("ZZZZ"));
        refused(x, "behind 999ZZZZ", -2, y -> y.add(NONE, 1));
        x.error(1, 997, 0);
        Check.due("998", x.add(NONE, 1), 2);
    }

    // Promises 7 to 11: strike, renumber, error, undo, wait

    private static void changing() {
        Check.sentence("7: ITEM k is STRUCK: true", EdgesTest::struck);
        Check.sentence("7: false: no such one, or it is", EdgesTest::notStruck);
        Check.sentence("8: The ROW of ITEM k is RENUMBERED: true", EdgesTest::renumbered);
        Check.sentence("8: false: no such one", EdgesTest::notRenumbered);
        Check.sentence("9: ITEM k has a NUMBER (1 to 999)", EdgesTest::errorNumber);
        Check.sentence("9: its letters A .. Z as bytes of a number, the first one highest, 0s ahead: 0 to 4 of them",
            EdgesTest::errorSuffix);
        Check.sentence("9: false: no such one, or it is not as told", EdgesTest::noError);
        Check.sentence("10: The latest ACT is undone: true", EdgesTest::undone);
        Check.sentence("10: false: there is none", EdgesTest::nothingToUndo);
        Check.sentence("11: DAY goes on by n (0 to 1000): true", EdgesTest::waits);
        Check.sentence("11: false, if it is not so", EdgesTest::waitNotSo);
        Check.sentence("11: or beyond the last one", EdgesTest::waitBeyond);
    }

    private static void struck() {
        LawNumberer x = Check.withTop(80);
        Check.due("the first one", x.strike(0), true);
        Check.due("the last one", x.strike(79), true);
        Check.due("two", x.count(2), 2);
        Check.due("the first one", x.about(0, 2), 1);
        Check.due("the next one", x.about(1, 2), 0);
        Check.due("the last one", x.about(79, 2), 1);
        Check.due("acts", x.count(4), 82);
    }

    private static void notStruck() {
        LawNumberer x = Check.withTop(3);
        x.strike(1);
        refused(x, "strike 1 again", 0, y -> y.strike(1) ? 1 : 0);
        for (int k : new int[] {3, 79, 80, -1, LEAST, MOST}) {
            refused(Check.withTop(3), "strike " + k, 0, y -> y.strike(k) ? 1 : 0);
        }
        x.undo();
        Check.due("one that is no more", x.strike(1), true);
        LawNumberer none = new LawNumberer();
        refused(none, "strike 0 of none", 0, y -> y.strike(0) ? 1 : 0);
    }

    private static void renumbered() {
        LawNumberer x = Check.withLabels("7", "7", "7");
        Check.due("by the first one", x.renumber(0), true);
        Check.due("labels", Check.labels(x, 0), "1 2 3");
        x.error(0, 9, 0);
        x.strike(2);
        Check.due("by a struck one", x.renumber(2), true);
        Check.due("labels", Check.labels(x, 0), "1 2 -");
        Check.due("acts", x.count(4), 10);
        Check.due("with nothing to change", x.renumber(2), true);
        Check.due("acts", x.count(4), 11);
    }

    private static void notRenumbered() {
        LawNumberer x = Check.withLabels("7", "7");
        for (int k : new int[] {2, 79, 80, -1, LEAST, MOST}) {
            refused(x, "renumber " + k, 0, y -> y.renumber(k) ? 1 : 0);
        }
        Check.due("labels", Check.labels(x, 0), "7 7");
        LawNumberer none = new LawNumberer();
        refused(none, "renumber 0 of none", 0, y -> y.renumber(0) ? 1 : 0);
    }

    private static void errorNumber() {
        LawNumberer x = Check.withTop(80);
        Check.due("1", x.error(0, 1, 0), true);
        Check.due("999", x.error(79, 999, 0), true);
        Check.due("labels", Check.label(x, 0, 0) + " " + Check.label(x, 79, 0), "1 999");
        for (int number : new int[] {0, 1000, -1, 1001, 65537, LEAST, MOST}) {
            Check.due("error " + number, x.error(1, number, 0), false);
        }
        Check.due("stays", Check.label(x, 1, 0), "2");
        Check.due("acts", x.count(4), 82);
    }

    private static void errorSuffix() {
        LawNumberer x = Check.withTop(1);
        int[] right = {0, 0x41, 0x5A, 0x4142, 0x5A5A, 0x414243, 0x41424344, 0x5A5A5A5A, 0x41414141};
        String[] want = {"3", "3A", "3Z", "3AB", "3ZZ", "3ABC", "3ABCD", "3ZZZZ", "3AAAA"};
        for (int i = 0; i < right.length; i++) {
            Check.due("error of " + want[i], x.error(0, 3, right[i]), true);
            Check.due("label", Check.label(x, 0, 0), want[i]);
        }
        int[] wrong = {1, 0x40, 0x5B, 0x61, 0x7A, 0x80, 0xC1, 0xFF, 0x4100, 0x410000, 0x41000000, 0x410041, 0x41004100,
            0x41000041, 0x41410041, 0x41414100, 0x4041, 0x4140, 0x5B41, 0x415B, 0x40414141, 0x5B414141, 0x41414140,
            0x4141415B, 0xC1414141, -1, LEAST, MOST};
        for (int suffix : wrong) {
            Check.due("error of " + Integer.toHexString(suffix), x.error(0, 3, suffix), false);
        }
        Check.due("stays", Check.label(x, 0, 0), "3AAAA");
    }

    private static void noError() {
        for (int k : new int[] {2, 79, 80, -1, LEAST, MOST}) {
            refused(Check.withTop(2), "error " + k, 0, y -> y.error(k, 1, 0) ? 1 : 0);
        }
        LawNumberer x = Check.withTop(2);
        refused(x, "error of 0", 0, y -> y.error(1, 0, 0) ? 1 : 0);
        refused(x, "error of 1000", 0, y -> y.error(1, 1000, 0) ? 1 : 0);
        refused(x, "error of a", 0, y -> y.error(1, 5, 'a') ? 1 : 0);
        Check.due("labels", Check.labels(x, 0), "1 2");
        LawNumberer none = new LawNumberer();
        refused(none, "error 0 of none", 0, y -> y.error(0, 1, 0) ? 1 : 0);
    }

    private static void undone() {
        LawNumberer x = Check.withTop(1);
        x.strike(0);
        x.renumber(0);
        x.error(0, 7, 0);
        Check.due("the error", x.undo(), true);
        Check.due("label", Check.label(x, 0, 0), "-");
        Check.due("the renumbering", x.undo(), true);
        Check.due("label", Check.label(x, 0, 0), "1");
        Check.due("struck", x.about(0, 2), 1);
        Check.due("the strike", x.undo(), true);
        Check.due("not struck", x.about(0, 2), 0);
        Check.due("the add", x.undo(), true);
        Check.due("items", x.count(1), 0);
    }

    private static void nothingToUndo() {
        LawNumberer x = new LawNumberer();
        refused(x, "undo of nothing", 0, y -> y.undo() ? 1 : 0);
        x.wait(3);
        x.add(NONE, 5);
        refused(x, "undo of no act", 0, y -> y.undo() ? 1 : 0);
        x.add(NONE, NONE);
        x.undo();
        refused(x, "undo of one undone", 0, y -> y.undo() ? 1 : 0);
        x.add(NONE, NONE);
        Check.levels(x, "number;");
        refused(x, "undo behind levels", 0, y -> y.undo() ? 1 : 0);
        for (int i = 0; i < 102; i++) {
            x.add(NONE, NONE);
            x.error(0, 5, 0);
        }
        for (int i = 0; i < 100; i++) {
            x.undo();
        }
        refused(x, "undo of the 101st", 0, y -> y.undo() ? 1 : 0);
    }

    private static void waits() {
        LawNumberer x = new LawNumberer();
        int day = 0;
        for (int n : new int[] {0, 1, 999, 1000, 0}) {
            Check.due("wait " + n, x.wait(n), true);
            day += n;
            Check.due("day", x.count(3), day);
        }
    }

    private static void waitNotSo() {
        LawNumberer x = new LawNumberer();
        x.wait(1000);
        for (int n : new int[] {-1, -1000, 1001, 2000, LEAST, MOST}) {
            refused(x, "wait " + n, 0, y -> y.wait(n) ? 1 : 0);
        }
    }

    private static void waitBeyond() {
        LawNumberer x = new LawNumberer();
        for (int i = 0; i < 9; i++) {
            x.wait(1000);
        }
        refused(x, "wait up to 10000", 0, y -> y.wait(1000) ? 1 : 0);
        Check.due("wait up to 9999", x.wait(999), true);
        refused(x, "wait beyond", 0, y -> y.wait(1) ? 1 : 0);
        refused(x, "wait by the most", 0, y -> y.wait(MOST) ? 1 : 0);
        Check.due("wait 0", x.wait(0), true);
        Check.due("day", x.count(3), 9999);
    }

    // Promises 12 to 15: about, label, cited, octet

    private static void asking() {
        Check.sentence("12: 0 its LEVEL, 1 the one that it lies UNDER (NONE), 2 whether it is STRUCK, 3 its place in its"
            + " ROW, 4 its place in the order of the text, 5 the DAY on which it came", EdgesTest::aboutItems);
        Check.sentence("12: no such one", EdgesTest::aboutNoSuch);
        Check.sentence("12: or another what", EdgesTest::aboutAnotherWhat);
        Check.sentence("13: LABEL of ITEM k AS OF a DAY is OUT, WRITTEN: how many bytes", EdgesTest::labelOut);
        Check.sentence("13: NONE (OUT stays): no such one", EdgesTest::labelOfNoSuch);
        Check.sentence("13: or it has none then", EdgesTest::labelOfNone);
        Check.sentence("13: or a DAY below 0", EdgesTest::labelBelow0);
        Check.sentence("14: The CITATION of ITEM k AS OF a DAY is OUT: how many bytes", EdgesTest::citedOut);
        Check.sentence("14: NONE (OUT stays): one of these LABELS is none", EdgesTest::citedNone);
        Check.sentence("15: Byte k of OUT", EdgesTest::bytesOfOut);
        Check.sentence("15: NoSuchElementException: there is none such", EdgesTest::noSuchByte);
    }

    private static void aboutItems() {
        LawNumberer x = Check.with("number;letter through;");
        Check.addTop(x, 2);
        x.add(0, NONE);
        x.wait(1000);
        x.add(1, NONE);
        x.strike(3);
        Check.due("items", Check.items(x), " order 0 2 1 3 item 0 -1 0 0 0 0 item 0 -1 0 1 2 0"
            + " item 1 0 0 0 1 0 item 1 1 1 1 3 1000");
        LawNumberer full = Check.withTop(80);
        Check.due("last place in the ROW", full.about(79, 3), 79);
        Check.due("last place in the text", full.about(79, 4), 79);
        Check.due("first place in the ROW", full.about(0, 3), 0);
    }

    private static void aboutNoSuch() {
        Check.noSuch("about 0 of none", () -> new LawNumberer().about(0, 0));
        LawNumberer x = Check.withTop(2);
        for (int k : new int[] {2, 79, 80, -1, LEAST, MOST}) {
            for (int what = 0; what <= 5; what++) {
                int asked = what;
                Check.noSuch("about " + k + ", " + what, () -> x.about(k, asked));
            }
        }
        x.undo();
        Check.noSuch("about one undone", () -> x.about(1, 0));
        LawNumberer full = Check.withTop(80);
        Check.noSuch("about 80 of 80", () -> full.about(80, 0));
    }

    private static void aboutAnotherWhat() {
        LawNumberer x = Check.withTop(2);
        for (int what : new int[] {6, -1, 7, LEAST, MOST}) {
            Check.noSuch("about 0, " + what, () -> x.about(0, what));
            Check.noSuch("about 9, " + what, () -> x.about(9, what));
        }
    }

    private static void labelOut() {
        LawNumberer x = Check.withLabels("1", "888WXYZ");
        Check.due("longest", x.label(1, 0), 7);
        Check.due("OUT", Check.out(x), "888WXYZ");
        Check.due("shortest", x.label(0, 0), 1);
        Check.due("OUT has nothing of the one before", Check.out(x), "1");
        Check.due("a day to come", x.label(1, MOST), 7);
        Check.due("OUT", Check.out(x), "888WXYZ");
        Check.levels(x, "roman;");
        x.add(NONE, NONE);
        x.error(0, 888, Check.suffix("WXYZ"));
        Check.due("longest roman", x.label(0, 0), 17);
        Check.due("OUT", Check.out(x), "DCCCLXXXVIII-WXYZ");
    }

    private static void labelOfNoSuch() {
        LawNumberer x = Check.withLabels("12AB", "13");
        x.label(0, 0);
        for (int k : new int[] {2, 79, 80, -1, LEAST, MOST}) {
            refused(x, "label of " + k, NONE, y -> y.label(k, 0));
        }
        x.undo();
        x.undo();
        x.undo();
        refused(x, "label of one undone", NONE, y -> y.label(1, 0));
        Check.due("OUT", Check.out(x), "12AB");
        LawNumberer none = new LawNumberer();
        refused(none, "label 0 of none", NONE, y -> y.label(0, 0));
    }

    private static void labelOfNone() {
        LawNumberer x = Check.withTop(1);
        x.wait(5);
        x.add(NONE, 0);
        x.wait(5);
        x.strike(0);
        x.renumber(0);
        x.label(1, 5);
        refused(x, "ahead of its day", NONE, y -> y.label(1, 4));
        refused(x, "on day 0", NONE, y -> y.label(1, 0));
        refused(x, "struck and renumbered", NONE, y -> y.label(0, 10));
        refused(x, "and later", NONE, y -> y.label(0, MOST));
        Check.due("OUT", Check.out(x), "2");
        Check.due("ahead of that", Check.label(x, 0, 9), "1");
    }

    private static void labelBelow0() {
        LawNumberer x = Check.withLabels("12AB");
        x.label(0, 0);
        refused(x, "day -1", NONE, y -> y.label(0, -1));
        refused(x, "the least day", NONE, y -> y.label(0, LEAST));
        Check.due("OUT", Check.out(x), "12AB");
    }

    private static void citedOut() {
        LawNumberer x = Check.with("roman;small;roman;small;");
        x.add(NONE, NONE);
        x.add(0, NONE);
        x.add(1, NONE);
        x.add(2, NONE);
        Check.due("shortest", x.cited(0, 0), 1);
        Check.due("OUT", Check.out(x), "I");
        for (int k = 0; k < 4; k++) {
            x.error(k, 888, Check.suffix("WXYZ"));
        }
        Check.due("longest", x.cited(3, 0), 71);
        String one = "DCCCLXXXVIII-WXYZ";
        String two = "dccclxxxviii-WXYZ";
        Check.due("OUT", Check.out(x), one + "." + two + "." + one + "." + two);
        Check.due("shorter again", x.cited(1, 0), 35);
        Check.due("OUT", Check.out(x), one + "." + two);
        Check.due("a day to come", x.cited(0, MOST), 17);
    }

    /** 2, come on day 5, lies UNDER 0, which has no LABEL from day 10 on; OUT is that of 1. */
    private static LawNumberer withNone() {
        LawNumberer x = Check.withTop(2);
        x.wait(5);
        x.add(0, NONE);
        x.wait(5);
        x.strike(0);
        x.renumber(0);
        x.cited(1, 0);
        return x;
    }

    private static void citedNone() {
        for (int k : new int[] {3, 79, 80, -1, LEAST, MOST}) {
            refused(withNone(), "cited " + k, NONE, y -> y.cited(k, 9));
        }
        LawNumberer x = withNone();
        refused(x, "none ahead of its day", NONE, y -> y.cited(2, 4));
        refused(x, "what it lies UNDER has none", NONE, y -> y.cited(2, 10));
        refused(x, "it has none", NONE, y -> y.cited(0, 10));
        refused(x, "day -1", NONE, y -> y.cited(1, -1));
        refused(x, "the least day", NONE, y -> y.cited(1, LEAST));
        Check.due("OUT", Check.out(x), "2");
        Check.due("ahead of that", Check.cited(x, 2, 9), "1.a");
    }

    private static void bytesOfOut() {
        LawNumberer x = Check.withLabels("120AZ");
        x.label(0, 0);
        int[] want = {'1', '2', '0', 'A', 'Z'};
        for (int i = 0; i < want.length; i++) {
            Check.due("byte " + i, x.octet(i), want[i]);
        }
        x.error(0, 5, 0);
        Check.due("OUT is what it was", x.octet(4), 'Z');
        x.undo();
        x.undo();
        x.undo();
        Check.due("with no ITEM, too", x.octet(0), '1');
        Check.levels(x, "roman;");
        Check.due("with other LEVELS, too", x.octet(3), 'A');
    }

    private static void noSuchByte() {
        LawNumberer x = Check.withLabels("120AZ");
        Check.noSuch("byte 0 of an empty OUT", () -> x.octet(0));
        x.label(0, 0);
        for (int k : new int[] {5, 6, 199, 200, -1, LEAST, MOST}) {
            Check.noSuch("byte " + k, () -> x.octet(k));
        }
        x.error(0, 5, 0);
        x.label(0, 0);
        Check.noSuch("byte 1 of a shorter OUT", () -> x.octet(1));
        Check.due("byte 0", x.octet(0), '5');
    }

    // Promises 16 and 18: cite, bearers

    private static void citing() {
        Check.sentence("16: the first ITEM in the order of the text that bears it", EdgesTest::firstBearer);
        Check.sentence("16: NONE: none", EdgesTest::noBearer);
        Check.sentence("16: -2 a FAULT", EdgesTest::citeFault);
        Check.sentence("16: -3 a DAY below 0", EdgesTest::citeBelow0);
        Check.sentence("18: How many ITEMS bore the CITATION of the latest cite() that was not -2, -3", EdgesTest::bearers);
        Check.sentence("18: 0 ahead of any", EdgesTest::bearersAheadOfAny);
    }

    private static void firstBearer() {
        LawNumberer x = Check.withLabels("3", "3", "3");
        x.error(0, 4, 0);
        x.add(NONE, NONE);
        x.error(3, 3, 0);
        Check.due("first in the text, last in number", Check.cite(x, "3", 0), 3);
        Check.due("bearers", x.bearers(), 3);
        Check.due("the only one", Check.cite(x, "4", 0), 0);
        LawNumberer full = Check.withTop(80);
        Check.due("the first of 80", Check.cite(full, "1", 0), 0);
        Check.due("the last of 80", Check.cite(full, "80", 0), 79);
        Check.due("a day to come", Check.cite(full, "80", MOST), 79);
    }

    private static void noBearer() {
        LawNumberer x = Check.withTop(2);
        x.wait(5);
        x.add(0, NONE);
        Check.due("no such NUMBER", Check.cite(x, "3", 5), NONE);
        Check.due("no such SUFFIX", Check.cite(x, "2A", 5), NONE);
        Check.due("not UNDER that", Check.cite(x, "2.a", 5), NONE);
        Check.due("not yet", Check.cite(x, "1.a", 4), NONE);
        Check.due("from then on", Check.cite(x, "1.a", 5), 2);
        Check.due("the highest there is", Check.cite(x, "999ZZZZ", 5), NONE);
        Check.due("no ITEMS at all", Check.cite(new LawNumberer(), "1", 0), NONE);
        x.undo();
        Check.due("undone", Check.cite(x, "1.a", 5), NONE);
    }

    private static void citeFault() {
        LawNumberer x = Check.withTop(2);
        for (String text : new String[] {"", "?", "2.", "2.a.a", "02", "2A.a-", "2.?"}) {
            Check.due("cite " + text, Check.cite(x, text, 0), -2);
            Check.due("its kind", x.fault() == 1 || x.fault() == 2, true);
            Check.due("its place", x.place() >= 0, true);
        }
        Check.due("of a day to come", Check.cite(x, "?", MOST), -2);
        Check.due("none has come", x.count(1), 2);
    }

    private static void citeBelow0() {
        LawNumberer x = Check.withTop(2);
        for (int day : new int[] {-1, -9999, LEAST}) {
            Check.due("of day " + day, Check.cite(x, "2", day), -3);
            Check.due("of none there", Check.cite(x, "3", day), -3);
            Check.due("a fault, too", Check.cite(x, "?", day), -3);
            Check.due("of nothing", Check.cite(x, "", day), -3);
        }
        Check.due("of day 0", Check.cite(x, "2", 0), 1);
    }

    private static void bearers() {
        LawNumberer x = Check.withLabels("3", "3", "4");
        Check.cite(x, "3", 0);
        Check.due("two", x.bearers(), 2);
        Check.cite(x, "?", 0);
        Check.due("-2 is not counted", x.bearers(), 2);
        Check.cite(x, "4", -1);
        Check.due("nor -3", x.bearers(), 2);
        x.undo();
        x.undo();
        Check.due("they bore it then", x.bearers(), 2);
        Check.cite(x, "5", 0);
        Check.due("none", x.bearers(), 0);
        x = new LawNumberer();
        for (int k = 0; k < 80; k++) {
            x.add(NONE, k - 1);
            x.error(k, 9, 0);
        }
        Check.cite(x, "9", 0);
        Check.due("all of eighty", x.bearers(), 80);
        Check.levels(x, "number;");
        Check.due("behind levels", x.bearers(), 80);
    }

    private static void bearersAheadOfAny() {
        LawNumberer x = Check.withTop(1);
        Check.due("ahead of any", x.bearers(), 0);
        Check.cite(x, "?", 0);
        Check.due("ahead of any but -2", x.bearers(), 0);
        Check.cite(x, "1", -1);
        Check.due("ahead of any but -2, -3", x.bearers(), 0);
        Check.read(x, "1", 0);
        Check.due("read is none", x.bearers(), 0);
        Check.cite(x, "1", 0);
        Check.due("one", x.bearers(), 1);
    }

    // Promises 19 and 20: read, suffix

    private static void reading() {
        Check.sentence("19: The tape is a LABEL by a FORM (0 number, 1 roman, 2 letter, 3 small): its NUMBER",
            EdgesTest::readForms);
        Check.sentence("19: NONE: it is none", EdgesTest::readNone);
        Check.sentence("19: or no such FORM", EdgesTest::readNoForm);
        Check.sentence("20: The SUFFIX of the latest read() that was not NONE, as of error()", EdgesTest::latestSuffix);
        Check.sentence("20: 0 ahead of any", EdgesTest::suffixAheadOfAny);
    }

    private static void readForms() {
        LawNumberer x = Check.with("small;");
        String[] texts = {"1", "I", "a", "i", "100", "C", "c", "c", "D", "d", "IX-AB", "ix-AB", "9AB", "i-AB", "999ZZZZ",
            "CMXCIX-ZZZZ", "alk-ZZZZ", "cmxcix-ZZZZ"};
        int[][] want = {{1, -1, -1, -1}, {-1, 1, -1, -1}, {-1, -1, 1, -1}, {-1, -1, 9, 1}, {100, -1, -1, -1},
            {-1, 100, -1, -1}, {-1, -1, 3, 100}, {-1, -1, 3, 100}, {-1, 500, -1, -1}, {-1, -1, 4, 500}, {-1, 9, -1, -1},
            {-1, -1, 258, 9}, {9, -1, -1, -1}, {-1, -1, 9, 1}, {999, -1, -1, -1}, {-1, 999, -1, -1}, {-1, -1, 999, -1},
            {-1, -1, -1, 999}};
        for (int i = 0; i < texts.length; i++) {
            for (int form = 0; form < 4; form++) {
                Check.due("read " + texts[i] + " by " + form, Check.read(x, texts[i], form), want[i][form]);
            }
        }
    }

    private static void readNone() {
        LawNumberer x = new LawNumberer();
        String[] wrong = {"", "?", ".", "-", "A", "-A", " "};
        for (String text : wrong) {
            for (int form = 0; form < 4; form++) {
                Check.due("read " + text + " by " + form, Check.read(x, text, form), NONE);
            }
        }
        String[][] more = {{"0", "01", "1000", "1.", "1 ", " 1", "1-A", "1a", "1ABCDE", "1A1", "1A.1", "-1", "+1"},
            {"IIII", "I.", "I ", "I-", "IA", "I-a", "I-ABCDE", "I-A.", "I-A-", "M", "i", "Ii"},
            {"a.", "a-", "aA", "a1", "a-a", "a-ABCDE", "all", "zzz", "a-A1", "a a", "aa-"},
            {"iiii", "i.", "i-", "iA", "ia", "i-ABCDE", "m", "iI", "i-i", "vx"}};
        for (int form = 0; form < 4; form++) {
            for (String text : more[form]) {
                Check.due("read " + text + " by " + form, Check.read(x, text, form), NONE);
            }
        }
        Check.feed(x, "1".repeat(200));
        Check.due("a full tape", x.read(0), NONE);
        Check.feed(x, "1");
        Check.due("a right one behind them", x.read(0), 1);
        Check.due("the tape is gone", x.read(0), NONE);
    }

    private static void readNoForm() {
        LawNumberer x = new LawNumberer();
        for (int form : new int[] {-1, 4, 5, LEAST, MOST}) {
            for (String text : new String[] {"1", "I", "a", "i", ""}) {
                Check.due("read " + text + " by " + form, Check.read(x, text, form), NONE);
            }
        }
    }

    private static void latestSuffix() {
        LawNumberer x = Check.withTop(1);
        String[] suffixes = {"A", "AB", "ABC", "ZZZZ", "Z", ""};
        for (String suffix : suffixes) {
            Check.read(x, "7" + suffix, 0);
            Check.due("suffix " + suffix, x.suffix(), Check.suffix(suffix));
            Check.due("as of error", x.error(0, 7, x.suffix()), true);
            Check.due("label", Check.label(x, 0, 0), "7" + suffix);
        }
        Check.read(x, "iv-BC", 3);
        Check.read(x, "7A?", 0);
        Check.due("NONE leaves it", x.suffix(), 0x4243);
        Check.read(x, "7A", 4);
        Check.due("no form leaves it", x.suffix(), 0x4243);
        Check.cite(x, "7D", 0);
        Check.levels(x, "number;");
        Check.due("cite and levels leave it", x.suffix(), 0x4243);
        Check.read(x, "7", 0);
        Check.due("one without", x.suffix(), 0);
    }

    private static void suffixAheadOfAny() {
        LawNumberer x = Check.withLabels("7A");
        Check.due("ahead of any", x.suffix(), 0);
        Check.read(x, "7AB?", 0);
        Check.read(x, "7AB", 4);
        Check.read(x, "7ABCDE", 0);
        Check.due("ahead of any but NONE", x.suffix(), 0);
        Check.cite(x, "7A", 0);
        Check.due("cite is none", x.suffix(), 0);
    }

    // Promises 21 to 23: clash, at, count

    private static void counting() {
        Check.sentence("21: The ITEM of the CLASH", EdgesTest::clash);
        Check.sentence("21: NONE: there is none", EdgesTest::noClash);
        Check.sentence("22: The ITEM at place i in the order of the text", EdgesTest::at);
        Check.sentence("22: NONE: there is none such", EdgesTest::atNone);
        Check.sentence("23: 0 LEVELS, 1 ITEMS, 2 STRUCK ones, 3 DAY, 4 ACTS that can be undone, 5 bytes of OUT, 6 of the"
            + " tape", EdgesTest::counts);
        Check.sentence("23: NONE for another what", EdgesTest::countAnotherWhat);
    }

    private static void clash() {
        Check.due("the last of two", Check.withLabels("1", "1").clash(), 1);
        LawNumberer x = Check.withTop(80);
        x.error(79, 79, 0);
        Check.due("the last of eighty", x.clash(), 79);
        x.error(1, 1, 0);
        Check.due("the first of two", x.clash(), 1);
        x.strike(1);
        Check.due("struck", x.clash(), 1);
        x.undo();
        x.undo();
        x.undo();
        Check.due("none", x.clash(), NONE);
        x.error(0, 999, 0);
        Check.due("behind the first", x.clash(), 1);
    }

    private static void noClash() {
        Check.due("no ITEMS", new LawNumberer().clash(), NONE);
        Check.due("one", Check.withLabels("999ZZZZ").clash(), NONE);
        LawNumberer x = Check.withTop(2);
        x.add(0, NONE);
        x.add(1, NONE);
        Check.due("two ROWS", x.clash(), NONE);
        x.strike(0);
        x.strike(1);
        x.renumber(0);
        Check.due("none has one", x.clash(), NONE);
        Check.due("levels", Check.levels(x, "number;"), 1);
        Check.due("no ITEMS again", x.clash(), NONE);
    }

    private static void at() {
        LawNumberer x = Check.withTop(80);
        Check.due("the first", x.at(0), 0);
        Check.due("the last", x.at(79), 79);
        x.undo();
        x.add(0, NONE);
        Check.due("behind the first", x.at(1), 79);
        Check.due("the last now", x.at(79), 78);
    }

    private static void atNone() {
        Check.due("at 0 of none", new LawNumberer().at(0), NONE);
        LawNumberer x = Check.withTop(3);
        for (int i : new int[] {3, 79, 80, -1, LEAST, MOST}) {
            Check.due("at " + i + " of 3", x.at(i), NONE);
        }
        x.undo();
        Check.due("at 2 of 2", x.at(2), NONE);
        Check.due("at 80 of 80", Check.withTop(80).at(80), NONE);
    }

    private static void counted(LawNumberer x, String want) {
        StringBuilder counts = new StringBuilder();
        for (int what = 0; what <= 6; what++) {
            counts.append(what == 0 ? "" : " ").append(x.count(what));
        }
        Check.due("counts", counts.toString(), want);
    }

    private static void counts() {
        LawNumberer x = new LawNumberer();
        counted(x, "2 0 0 0 0 0 0");
        Check.levels(x, "number;roman;letter;small;");
        x.add(NONE, NONE);
        x.add(0, NONE);
        x.add(1, NONE);
        counted(x, "4 3 0 0 3 0 0");
        x.strike(1);
        x.strike(2);
        x.wait(1000);
        x.cited(2, 0);
        Check.feed(x, "a".repeat(200));
        counted(x, "4 3 2 1000 5 5 200");
        x.end(199);
        x.undo();
        x.label(0, 0);
        counted(x, "4 3 1 1000 4 1 199");
        Check.due("levels", x.levels(), -1);
        counted(x, "4 3 1 1000 4 1 0");
    }

    private static void countAnotherWhat() {
        LawNumberer x = Check.withTop(3);
        for (int what : new int[] {-1, 7, 8, LEAST, MOST}) {
            refused(x, "count " + what, NONE, y -> y.count(what));
        }
    }
}
