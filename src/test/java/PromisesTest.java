/** For each promise of the document: ordinary inputs, the edges that it names, wrong inputs. */
public final class PromisesTest {
    private static final int NONE = LawNumberer.NONE;

    public static void main(String[] args) {
        newObject();
        feed();
        end();
        levels();
        levelsFaults();
        add();
        addBetween();
        addRefused();
        addThrough();
        strike();
        renumber();
        renumberOften();
        renumberThrough();
        error();
        undo();
        undoHundred();
        waiting();
        about();
        label();
        forms();
        cited();
        octet();
        cite();
        citeFaults();
        read();
        clash();
        atAndCount();
        Check.finish();
    }

    // Promise 1
    private static void newObject() {
        LawNumberer x = new LawNumberer();
        int[] counts = {2, 0, 0, 0, 0, 0, 0};
        for (int i = 0; i < counts.length; i++) {
            Check.due("new count " + i, x.count(i), counts[i]);
        }
        Check.due("new fault", x.fault(), 0);
        Check.due("new place", x.place(), NONE);
        Check.due("new bearers", x.bearers(), 0);
        Check.due("new suffix", x.suffix(), 0);
        Check.due("new clash", x.clash(), NONE);
        Check.due("new undo", x.undo(), false);
        x.add(NONE, NONE);
        x.add(0, NONE);
        Check.due("first levels", Check.cited(x, 1, 0), "1.a");
        Check.due("a third level", x.add(1, NONE), -1);
        Check.due("NONE", LawNumberer.NONE, -1);
    }

    // Promise 2
    private static void feed() {
        LawNumberer x = new LawNumberer();
        Check.due("feed", x.feed(0x6E756D62, 0x65723B00, -1, 0x80000000, 0), 20);
        Check.due("tape", x.count(6), 20);
        for (int i = 2; i <= 10; i++) {
            Check.due("feed " + i, x.feed(0, 0, 0, 0, 0), 20 * i);
        }
        Check.due("feed beyond", x.feed(0, 0, 0, 0, 0), NONE);
        Check.due("tape stays", x.count(6), 200);
        Check.due("181", x.end(181), true);
        Check.due("feed beyond by one", x.feed(0, 0, 0, 0, 0), NONE);
        Check.due("180", x.end(180), true);
        Check.due("feed up to 200", x.feed(0, 0, 0, 0, 0), 200);
        Check.due("7", x.end(7), true);
        Check.due("bytes in order", x.levels(), 1);
        x.feed(0xFF000000, 0, 0, 0, 0);
        x.end(1);
        Check.due("a high byte", x.levels(), -1);
        Check.due("a high byte's fault", x.fault(), 1);
        Check.feed(x, "1");
        Check.feed(x, "2A");
        Check.due("behind what is there", x.read(0), 12);
    }

    // Promise 3
    private static void end() {
        LawNumberer x = new LawNumberer();
        Check.due("end 0 of 0", x.end(0), true);
        Check.due("end 1 of 0", x.end(1), false);
        Check.due("end -1 of 0", x.end(-1), false);
        x.feed(0x31323300, 0, 0, 0, 0);
        Check.due("end 21 of 20", x.end(21), false);
        Check.due("stays", x.count(6), 20);
        Check.due("end 20 of 20", x.end(20), true);
        Check.due("end 2", x.end(2), true);
        Check.due("2 left", x.count(6), 2);
        Check.due("end 3 of 2", x.end(3), false);
        Check.due("end -1", x.end(-1), false);
        Check.due("end least", x.end(Integer.MIN_VALUE), false);
        Check.due("end most", x.end(Integer.MAX_VALUE), false);
        Check.due("the first ones", x.read(0), 12);
    }

    // Promises 4, 5 and 17
    private static void levels() {
        LawNumberer x = Check.withTop(2);
        x.wait(7);
        x.label(1, 0);
        Check.due("cite", Check.cite(x, "2", 0), 1);
        Check.due("four", Check.levels(x, "number;roman through;\n letter ;small\nthrough\n;\n"), 4);
        int[] counts = {4, 0, 0, 0, 0, 1, 0};
        for (int i = 0; i < counts.length; i++) {
            Check.due("count behind levels " + i, x.count(i), counts[i]);
        }
        Check.due("bearers stay", x.bearers(), 1);
        Check.due("nothing to undo", x.undo(), false);
        Check.due("one", Check.levels(x, "small;"), 1);
        Check.due("its form", x.add(NONE, NONE), 0);
        Check.due("its label", Check.label(x, 0, 0), "i");
        Check.due("last level", x.add(0, NONE), -1);
        x.wait(3);
        Check.due("a fault", Check.levels(x, "small;;"), -7);
        Check.due("empty all the same", x.count(6), 0);
        Check.due("all stays", x.count(0) * 1000 + x.count(1) * 100 + x.count(3) * 10 + x.count(4), 1131);
        Check.due("its label stays", Check.label(x, 0, 0), "i");
        Check.due("levels anew", Check.levels(x, "number;"), 1);
        Check.due("fault gone", x.fault(), 0);
        Check.due("place gone", x.place(), NONE);
        Check.due("item anew", x.add(NONE, NONE), 0);
        Check.due("no old label", Check.label(x, 0, 0), "1");
    }

    private static void levelsFaults() {
        Check.levelsFault("", 2, 0);
        Check.levelsFault(" \n ", 2, 3);
        Check.levelsFault(";", 2, 0);
        Check.levelsFault("through;", 2, 0);
        Check.levelsFault("number", 2, 6);
        Check.levelsFault("number ", 2, 7);
        Check.levelsFault("number through", 2, 14);
        Check.levelsFault("number;;", 2, 7);
        Check.levelsFault("number number;", 2, 7);
        Check.levelsFault("number through through;", 2, 15);
        Check.levelsFault("number;through;", 2, 7);
        Check.levelsFault("numbers;", 2, 0);
        Check.levelsFault("numbe;", 2, 0);
        Check.levelsFault("numberthrough;", 2, 0);
        Check.levelsFault("number throughs;", 2, 7);
        Check.levelsFault("num1ber;", 2, 0);
        Check.levelsFault("cumber;", 2, 0);
        Check.levelsFault("woman;", 2, 0);
        Check.levelsFault("better;", 2, 0);
        Check.levelsFault("shall;", 2, 0);
        Check.levelsFault("number shrough;", 2, 7);
        Check.levelsFault("z;", 2, 0);
        Check.levelsFault("a;", 2, 0);
        Check.levelsFault("numberz;", 2, 0);
        Check.levelsFault("number1;", 1, 6);
        Check.levelsFault("Number;", 1, 0);
        Check.levelsFault("number;\tletter;", 1, 7);
        Check.levelsFault("number;\rletter;", 1, 7);
        Check.levelsFault("number;{", 1, 7);
        Check.levelsFault("number;`", 1, 7);
        Check.levelsFault("number;\u00ff", 1, 7);
        Check.levelsFault("number;\0", 1, 7);
        Check.levelsFault("number;letter;roman;small;number;", 3, 26);
        Check.levelsFault("number;letter;roman;small; small", 3, 27);
        Check.levelsFault("number;letter;roman;small;other", 2, 26);
        Check.levelsFault("number;letter;roman;small;through", 2, 26);
        Check.levelsFault("number;letter;roman;small;;", 2, 26);
        Check.levelsFault("number;letter;roman;small;1", 1, 26);
        Check.levelsFault("number;letter;roman;small letter", 2, 26);
    }

    // Promise 6
    private static void add() {
        LawNumberer x = Check.withTop(2);
        Check.due("ahead of all", x.add(NONE, NONE), -2);
        Check.due("under 1", x.add(1, NONE), 2);
        Check.due("under 0", x.add(0, NONE), 3);
        Check.due("behind 3", x.add(0, 3), 4);
        Check.due("behind 0 and all under it", x.add(NONE, 0), 5);
        Check.due("order", Check.order(x), "0 3 4 5 1 2");
        Check.due("under each one anew", Check.cited(x, 2, 0), "2.a");
        Check.due("label of 4", Check.cited(x, 4, 0), "1.b");
        Check.due("label of 5", Check.cited(x, 5, 0), "1A");
        int[][] wrong = {{-2, -1}, {6, -1}, {80, -1}, {3, -1}, {0, 1}, {0, 2}, {-1, 3}, {0, 0}, {-1, -2}, {0, 6},
            {Integer.MIN_VALUE, -1}, {Integer.MAX_VALUE, -1}, {-1, Integer.MIN_VALUE}, {-1, Integer.MAX_VALUE}, {1, 3}};
        for (int[] w : wrong) {
            Check.due("add " + w[0] + ", " + w[1], x.add(w[0], w[1]), -1);
        }
        Check.due("nothing came", x.count(1), 6);
        Check.due("acts", x.count(4), 6);
        x = Check.withTop(79);
        Check.due("the last one", x.add(0, NONE), 79);
        Check.due("beyond 80", x.add(NONE, 78), -1);
        Check.due("beyond 80, no label", x.add(NONE, NONE), -1);
        x.undo();
        Check.due("the last one again", x.add(NONE, 78), 79);
    }

    private static void between(String a, String b, String want) {
        LawNumberer x = Check.withTop(2);
        Check.due("error " + a, Check.error(x, 0, a), true);
        Check.due("error " + b, Check.error(x, 1, b), true);
        Check.due("between " + a + " and " + b, x.add(NONE, 0), want.equals("-") ? -2 : 2);
        Check.due("label between " + a + " and " + b, Check.label(x, 2, 0), want);
    }

    private static void addBetween() {
        String[][] all = {{"1", "2", "1A"}, {"1A", "2", "1B"}, {"1", "1A", "-"}, {"1A", "1B", "1AA"},
            {"1", "1B", "1A"}, {"1Z", "2", "1ZA"}, {"1Z", "2A", "2"}, {"1", "3", "2"}, {"1ZZZZ", "2", "-"},
            {"1ZZZZ", "2A", "2"}, {"1ZZZZ", "3", "2"}, {"1AAAA", "1AAAB", "-"}, {"1AAAA", "1AAAC", "1AAAB"},
            {"1AAAA", "1AAB", "1AAAB"}, {"1AAA", "1AAB", "1AAAA"}, {"1AB", "1AC", "1ABA"}, {"1AZ", "1B", "1AZA"},
            {"1AZZ", "1B", "1AZZA"}, {"1AZZZ", "1B", "-"}, {"1AZZZ", "1C", "1B"}, {"1AZ", "1BA", "1B"},
            {"1AA", "1B", "1AB"}, {"1ZZZ", "2", "1ZZZA"}, {"1ZZZY", "2", "1ZZZZ"}, {"1A", "1AA", "-"},
            {"1A", "1AB", "1AA"}, {"1", "1AA", "1A"}, {"1", "1AAA", "1A"}, {"1A", "1AAB", "1AA"}, {"5", "5", "-"},
            {"5", "4", "-"}, {"5B", "5A", "-"}, {"998", "999", "998A"}, {"999", "999A", "-"}, {"999", "999C", "999A"},
            {"999ZZZZ", "999", "-"}, {"7", "8A", "8"}, {"7C", "8", "7D"}, {"7CZ", "8", "7D"}, {"7CZ", "7D", "7CZA"},
            {"1", "999", "2"}};
        for (String[] row : all) {
            between(row[0], row[1], row[2]);
        }
    }

    private static void addRefused() {
        LawNumberer x = Check.withTop(1);
        Check.error(x, 0, "5");
        Check.due("ahead of 5", x.add(NONE, NONE), 1);
        Check.due("its label", Check.label(x, 1, 0), "1");
        Check.error(x, 1, "1A");
        Check.due("ahead of 1A", x.add(NONE, NONE), 2);
        Check.due("its label", Check.label(x, 2, 0), "1");
        Check.due("ahead of 1", x.add(NONE, NONE), -2);
        Check.error(x, 2, "1BB");
        Check.due("ahead of 1BB", x.add(NONE, NONE), 3);
        Check.due("its label", Check.label(x, 3, 0), "1");
        Check.error(x, 0, "998ZZZZ");
        Check.due("behind 998ZZZZ", x.add(NONE, 0), 4);
        Check.due("its label", Check.label(x, 4, 0), "999");
        Check.due("behind 999", x.add(NONE, 4), -2);
        Check.error(x, 4, "999A");
        Check.due("behind 999A", x.add(NONE, 4), -2);
        Check.due("refused ones do not come", x.count(1), 5);
        Check.due("refused ones are no acts", x.count(4), 10);
        Check.due("under another one", x.add(4, NONE), 5);
        Check.due("counts by itself", Check.cited(x, 5, 0), "999A.a");
    }

    private static void addThrough() {
        LawNumberer x = Check.with("roman;number through;letter;");
        x.add(NONE, NONE);
        x.add(NONE, 0);
        x.add(NONE, 1);
        Check.due("in the third", x.add(2, NONE), 3);
        Check.due("refused between none and 1", x.add(0, NONE), -2);
        Check.due("none came", x.count(1), 4);
        Check.error(x, 3, "2");
        Check.due("in the first", x.add(0, NONE), 4);
        Check.due("1 ahead of 2", Check.label(x, 4, 0), "1");
        Check.due("in the second", x.add(1, NONE), 5);
        Check.due("between 1 and 2", Check.cited(x, 5, 0), "II.1A");
        Check.due("between 1 and 1A", x.add(0, 4), -2);
        Check.due("in the third, behind", x.add(2, 3), 6);
        Check.due("goes on", Check.cited(x, 6, 0), "III.3");
        Check.due("a third level under it", x.add(5, NONE), 7);
        Check.due("a third level under another", x.add(6, NONE), 8);
        Check.due("not through", Check.cited(x, 7, 0), "II.1A.a");
        Check.due("not through", Check.cited(x, 8, 0), "III.3.a");
        Check.due("order", Check.order(x), "0 4 1 5 7 2 3 6 8");
    }

    // Promise 7
    private static void strike() {
        LawNumberer x = Check.withTop(3);
        x.add(1, NONE);
        Check.due("strike", x.strike(1), true);
        Check.due("again", x.strike(1), false);
        Check.due("struck", x.about(1, 2), 1);
        Check.due("not what lies under it", x.about(3, 2), 0);
        Check.due("one", x.count(2), 1);
        Check.due("keeps its label", Check.label(x, 1, 0), "2");
        Check.due("is still between", x.add(NONE, 0), 4);
        Check.due("is still between", Check.label(x, 4, 0), "1A");
        Check.due("is still cited", Check.cite(x, "2.a", 0), 3);
        Check.due("takes new ones", x.add(1, 3), 5);
        for (int k : new int[] {-1, 6, 80, Integer.MIN_VALUE, Integer.MAX_VALUE}) {
            Check.due("strike " + k, x.strike(k), false);
        }
        Check.due("acts", x.count(4), 7);
        x.strike(2);
        Check.due("two", x.count(2), 2);
    }

    // Promise 8
    private static void renumber() {
        LawNumberer x = Check.withTop(4);
        x.add(NONE, 0);
        x.strike(1);
        x.wait(5);
        Check.due("renumber by a struck one", x.renumber(1), true);
        String[] want = {"1", "-", "3", "4", "2"};
        String[] before = {"1", "2", "3", "4", "1A"};
        for (int k = 0; k < 5; k++) {
            Check.due("label of " + k, Check.label(x, k, 5), want[k]);
            Check.due("label then of " + k, Check.label(x, k, 4), before[k]);
        }
        Check.due("none is passed over", x.add(NONE, 1), 5);
        Check.due("between 2 and 3", Check.label(x, 5, 5), "2A");
        for (int k : new int[] {-1, 6, Integer.MIN_VALUE, Integer.MAX_VALUE}) {
            Check.due("renumber " + k, x.renumber(k), false);
        }
        Check.due("acts", x.count(4), 8);
        Check.due("renumber again", x.renumber(0), true);
        Check.due("still none", Check.label(x, 1, 5), "-");
        Check.due("3 now", Check.label(x, 5, 5), "3");
        Check.due("an act too that changes nothing", x.renumber(0), true);
        Check.due("acts", x.count(4), 10);
        x.error(1, 7, 0);
        Check.due("a struck one has one again", Check.label(x, 1, 5), "7");
        x = Check.withTop(2);
        x.strike(0);
        x.strike(1);
        x.renumber(0);
        Check.due("all have none", Check.label(x, 0, 0) + Check.label(x, 1, 0), "--");
        Check.due("so the next", x.add(NONE, 1), 2);
        Check.due("is the first", Check.label(x, 2, 0), "1");
    }

    /** More labels given than the first rows of the history hold. */
    private static void renumberOften() {
        LawNumberer x = Check.withTop(60);
        for (int day = 1; day <= 20; day++) {
            x.wait(1);
            x.strike(day - 1);
            Check.due("renumber on day " + day, x.renumber(0), true);
        }
        for (int day = 0; day <= 20; day++) {
            Check.due("the first on day " + day, Check.label(x, day, day), "1");
            Check.due("the last one on day " + day, Check.label(x, 59, day), String.valueOf(60 - day));
            Check.due("none on day " + day, x.label(day - 1, day), NONE);
        }
        for (int i = 0; i < 20; i++) {
            x.undo();
            x.undo();
            Check.due("undone " + i, Check.label(x, 59, 20), String.valueOf(60 - 19 + i));
        }
    }

    private static void renumberThrough() {
        LawNumberer x = Check.with("number;letter through;small;");
        Check.addTop(x, 2);
        x.add(0, NONE);
        x.add(0, 2);
        x.add(1, NONE);
        x.add(1, 4);
        x.add(2, NONE);
        x.add(4, NONE);
        x.error(7, 9, 0);
        x.error(6, 8, 0);
        x.strike(3);
        Check.due("renumber", x.renumber(4), true);
        Check.due("all of the level", Check.label(x, 2, 0) + Check.label(x, 3, 0) + Check.label(x, 4, 0)
            + Check.label(x, 5, 0), "a-bc");
        Check.due("not the level below", Check.label(x, 7, 0), "ix");
        x.renumber(7);
        Check.due("those under the same one", Check.label(x, 7, 0), "i");
        Check.due("not those under another", Check.label(x, 6, 0), "viii");
    }

    // Promise 9
    private static void error() {
        LawNumberer x = Check.withTop(3);
        int acts = 3;
        int[][] wrong = {{-1, 1, 0}, {3, 1, 0}, {Integer.MAX_VALUE, 1, 0}, {1, 0, 0}, {1, 1000, 0}, {1, -1, 0},
            {1, Integer.MIN_VALUE, 0}, {1, Integer.MAX_VALUE, 0}, {1, 1, 64}, {1, 1, 91}, {1, 1, 'a'}, {1, 1, 1},
            {1, 1, 0x4100}, {1, 1, 0x41004100}, {1, 1, 0x410041}, {1, 1, 0x41414100}, {1, 1, -1}, {1, 1, 0xC1414141},
            {1, 1, Integer.MIN_VALUE}, {1, 1, 0x5B41}};
        for (int[] w : wrong) {
            Check.due("error " + w[0] + ", " + w[1] + ", " + w[2], x.error(w[0], w[1], w[2]), false);
        }
        Check.due("label stays", Check.label(x, 1, 0), "2");
        Check.due("no acts", x.count(4), acts);
        String[] right = {"1", "999", "1A", "1Z", "1AZ", "1ZA", "1MNO", "999ZZZZ", "500AAAA", "1"};
        for (String label : right) {
            Check.due("error " + label, Check.error(x, 1, label), true);
            Check.due("label", Check.label(x, 1, 0), label);
        }
        Check.due("whatever others have", Check.label(x, 0, 0), "1");
        Check.due("acts", x.count(4), acts + right.length);
        x.strike(2);
        Check.due("a struck one", Check.error(x, 2, "4B"), true);
        Check.due("its label", Check.label(x, 2, 0), "4B");
        Check.due("what it has already", Check.error(x, 2, "4B"), true);
        Check.due("is an act", x.count(4), acts + right.length + 3);
    }

    // Promise 10
    private static void undo() {
        LawNumberer x = Check.withTop(3);
        x.add(0, NONE);
        x.wait(10);
        x.strike(1);
        x.wait(10);
        x.renumber(0);
        x.wait(10);
        x.error(2, 77, 0);
        x.add(NONE, 0);
        Check.due("label", Check.label(x, 4, 30), "2");
        Check.due("undo add", x.undo(), true);
        Check.due("gone", x.count(1), 4);
        Check.due("gone", Check.label(x, 4, 30), "-");
        Check.due("gone", Check.order(x), "0 3 1 2");
        Check.due("undo error", x.undo(), true);
        Check.due("label", Check.label(x, 2, 30), "2");
        Check.due("day stays", x.count(3), 30);
        Check.due("undo renumber", x.undo(), true);
        Check.due("label", Check.label(x, 2, 30), "3");
        Check.due("label", Check.label(x, 1, 30), "2");
        Check.due("label as of then", Check.label(x, 2, 20), "3");
        Check.due("struck", x.about(1, 2), 1);
        Check.due("undo strike", x.undo(), true);
        Check.due("not struck", x.about(1, 2), 0);
        Check.due("none struck", x.count(2), 0);
        Check.due("acts", x.count(4), 4);
        Check.due("undo add under 0", x.undo(), true);
        Check.due("add again, later", x.add(0, NONE), 3);
        Check.due("none ahead of its new day", Check.label(x, 3, 29), "-");
        Check.due("came", x.about(3, 5), 30);
        for (int i = 0; i < 4; i++) {
            Check.due("undo", x.undo(), true);
        }
        Check.due("nothing left", x.undo(), false);
        Check.due("no items", x.count(1), 0);
        Check.due("no acts", x.count(4), 0);
        Check.due("day stays", x.count(3), 30);
        Check.due("a new first one", x.add(NONE, NONE), 0);
        Check.due("not struck", x.about(0, 2), 0);
        x.strike(0);
        x.undo();
        x.undo();
        x.add(NONE, NONE);
        x.strike(0);
        Check.due("a struck one undone", x.undo() && x.undo(), true);
        Check.due("none struck", x.count(2), 0);
    }

    private static void undoHundred() {
        LawNumberer x = Check.withTop(2);
        for (int i = 1; i <= 130; i++) {
            Check.due("error " + i, x.error(0, i, 0), true);
            Check.due("acts", x.count(4), Math.min(100, i + 2));
        }
        for (int i = 129; i >= 30; i--) {
            Check.due("undo " + i, x.undo(), true);
            Check.due("acts", x.count(4), i - 30);
        }
        Check.due("undo beyond", x.undo(), false);
        Check.due("label", Check.label(x, 0, 0), "30");
        Check.due("items", x.count(1), 2);
        x.error(0, 5, 0);
        Check.due("one again", x.count(4), 1);
        Check.due("undo", x.undo(), true);
        Check.due("undo beyond", x.undo(), false);
        Check.due("label", Check.label(x, 0, 0), "30");
    }

    // Promise 11
    private static void waiting() {
        LawNumberer x = new LawNumberer();
        Check.due("0", x.wait(0), true);
        for (int n : new int[] {-1, 1001, Integer.MIN_VALUE, Integer.MAX_VALUE}) {
            Check.due("wait " + n, x.wait(n), false);
        }
        Check.due("day 0", x.count(3), 0);
        for (int i = 1; i <= 9; i++) {
            Check.due("1000", x.wait(1000), true);
            Check.due("day", x.count(3), 1000 * i);
        }
        Check.due("beyond", x.wait(1000), false);
        Check.due("stays", x.count(3), 9000);
        Check.due("998", x.wait(998), true);
        Check.due("beyond by one", x.wait(2), false);
        Check.due("the last one", x.wait(1), true);
        Check.due("9999", x.count(3), 9999);
        Check.due("none more", x.wait(1), false);
        Check.due("0", x.wait(0), true);
        Check.due("no act", x.count(4), 0);
    }

    // Promise 12
    private static void about() {
        LawNumberer x = Check.with("number;letter through;small;");
        Check.addTop(x, 2);
        x.add(0, NONE);
        x.add(0, 2);
        x.wait(4);
        x.add(1, NONE);
        x.add(4, NONE);
        x.add(4, 5);
        x.strike(6);
        int[][] want = {{0, -1, 0, 0, 0, 0}, {0, -1, 0, 1, 3, 0}, {1, 0, 0, 0, 1, 0}, {1, 0, 0, 1, 2, 0},
            {1, 1, 0, 2, 4, 4}, {2, 4, 0, 0, 5, 4}, {2, 4, 1, 1, 6, 4}};
        for (int k = 0; k < want.length; k++) {
            for (int what = 0; what < 6; what++) {
                Check.due("about " + k + ", " + what, x.about(k, what), want[k][what]);
            }
        }
        int[][] wrong = {{7, 0}, {-1, 0}, {80, 0}, {0, 6}, {0, -1}, {Integer.MIN_VALUE, 0}, {Integer.MAX_VALUE, 3},
            {0, Integer.MIN_VALUE}, {0, Integer.MAX_VALUE}, {7, 6}};
        for (int[] w : wrong) {
            Check.noSuch("about " + w[0] + ", " + w[1], () -> x.about(w[0], w[1]));
        }
    }

    // Promise 13
    private static void label() {
        LawNumberer x = Check.withTop(1);
        x.wait(5);
        x.add(NONE, 0);
        x.error(0, 3, 0);
        x.error(0, 4, 'B');
        x.wait(5);
        x.error(0, 5, 0);
        Check.due("day 0", Check.label(x, 0, 0), "1");
        Check.due("day 4", Check.label(x, 0, 4), "1");
        Check.due("day 5, the last act of it", Check.label(x, 0, 5), "4B");
        Check.due("day 9", Check.label(x, 0, 9), "4B");
        Check.due("day 10", Check.label(x, 0, 10), "5");
        Check.due("a day to come", Check.label(x, 0, 10000), "5");
        Check.due("the last int", Check.label(x, 0, Integer.MAX_VALUE), "5");
        Check.due("as it came", x.label(0, 5), 2);
        int[][] none = {{1, 4}, {0, -1}, {0, Integer.MIN_VALUE}, {2, 10}, {-1, 10}, {80, 0}, {Integer.MAX_VALUE, 0},
            {Integer.MIN_VALUE, 0}};
        for (int[] n : none) {
            Check.due("label " + n[0] + ", " + n[1], x.label(n[0], n[1]), NONE);
            Check.due("out stays", Check.out(x), "4B");
        }
        x.undo();
        Check.due("undone", Check.label(x, 0, 10), "4B");
    }

    private static void form(String form, int[] numbers, String[] labels) {
        LawNumberer x = Check.with(form + ";");
        x.add(NONE, NONE);
        for (int i = 0; i < numbers.length; i++) {
            x.error(0, numbers[i], 0);
            Check.due(form + " " + numbers[i], Check.label(x, 0, 0), labels[i]);
        }
        x.error(0, 4, Check.suffix("ABYZ"));
        Check.due("suffix of " + form, Check.label(x, 0, 0), labels[0] + (form.equals("number") ? "" : "-") + "ABYZ");
    }

    private static void forms() {
        form("number", new int[] {4, 1, 9, 10, 99, 100, 105, 999},
            new String[] {"4", "1", "9", "10", "99", "100", "105", "999"});
        int[] romans = {4, 1, 3, 5, 6, 9, 14, 40, 45, 49, 50, 90, 99, 100, 400, 444, 500, 888, 900, 999};
        String[] capitals = {"IV", "I", "III", "V", "VI", "IX", "XIV", "XL", "XLV", "XLIX", "L", "XC", "XCIX", "C",
            "CD", "CDXLIV", "D", "DCCCLXXXVIII", "CM", "CMXCIX"};
        String[] smalls = new String[capitals.length];
        for (int i = 0; i < smalls.length; i++) {
            smalls[i] = capitals[i].toLowerCase();
        }
        form("roman", romans, capitals);
        form("small", romans, smalls);
        form("letter", new int[] {4, 1, 26, 27, 28, 52, 53, 702, 703, 728, 729, 999},
            new String[] {"d", "a", "z", "aa", "ab", "az", "ba", "zz", "aaa", "aaz", "aba", "alk"});
    }

    // Promise 14
    private static void cited() {
        LawNumberer x = Check.with("roman;number;letter;small;");
        x.add(NONE, NONE);
        x.add(0, NONE);
        x.wait(1);
        x.add(1, NONE);
        x.add(2, NONE);
        for (int k = 0; k < 4; k++) {
            x.error(k, 888, Check.suffix("WXYZ"));
        }
        Check.due("longest", x.cited(3, 1), 17 + 1 + 7 + 1 + 8 + 1 + 17);
        Check.due("longest", Check.out(x), "DCCCLXXXVIII-WXYZ.888WXYZ.ahd-WXYZ.dccclxxxviii-WXYZ");
        Check.due("as of a day", Check.cited(x, 1, 0), "I.1");
        Check.due("level 0", Check.cited(x, 0, 0), "I");
        int[][] none = {{2, 0}, {3, 0}, {0, -1}, {4, 1}, {-1, 1}, {80, 1}, {Integer.MAX_VALUE, 1},
            {Integer.MIN_VALUE, 1}, {1, Integer.MIN_VALUE}};
        for (int[] n : none) {
            Check.due("cited " + n[0] + ", " + n[1], x.cited(n[0], n[1]), NONE);
            Check.due("out stays", Check.out(x), "I");
        }
        x.strike(1);
        x.wait(1);
        x.renumber(1);
        Check.due("one above has none", x.cited(3, 2), NONE);
        Check.due("out stays", Check.out(x), "I");
        Check.due("it has one itself", Check.label(x, 3, 2), "dccclxxxviii-WXYZ");
        Check.due("before", x.cited(3, 1), 52);
    }

    // Promise 15
    private static void octet() {
        LawNumberer x = Check.withTop(1);
        Check.noSuch("octet of an empty out", () -> x.octet(0));
        x.error(0, 12, Check.suffix("AB"));
        x.label(0, 0);
        int[] want = {'1', '2', 'A', 'B'};
        for (int i = 0; i < want.length; i++) {
            Check.due("octet " + i, x.octet(i), want[i]);
        }
        for (int k : new int[] {-1, 4, 80, 200, Integer.MIN_VALUE, Integer.MAX_VALUE}) {
            Check.noSuch("octet " + k, () -> x.octet(k));
        }
        x.error(0, 3, 0);
        x.label(0, 0);
        Check.noSuch("octet behind a shorter out", () -> x.octet(1));
    }

    // Promises 16 and 18
    private static void cite() {
        LawNumberer x = Check.withTop(3);
        x.add(1, NONE);
        x.add(2, NONE);
        x.wait(10);
        x.error(2, 2, 0);
        Check.due("two bear it", Check.cite(x, "2", 10), 1);
        Check.due("two", x.bearers(), 2);
        Check.due("tape", x.count(6), 0);
        Check.due("two below", Check.cite(x, "2.a", 10), 3);
        Check.due("two", x.bearers(), 2);
        Check.due("as of then", Check.cite(x, "2.a", 9), 3);
        Check.due("one", x.bearers(), 1);
        Check.due("as of then", Check.cite(x, "3.a", 9), 4);
        Check.due("none now", Check.cite(x, "3.a", 10), NONE);
        Check.due("none", x.bearers(), 0);
        Check.due("a day to come", Check.cite(x, "2", Integer.MAX_VALUE), 1);
        Check.due("a fault", Check.cite(x, "2.", 10), -2);
        Check.due("bearers stay", x.bearers(), 2);
        Check.due("fault", x.fault(), 1);
        Check.feed(x, "2.");
        Check.due("a day below 0", x.cite(-1), -3);
        Check.due("tape", x.count(6), 0);
        Check.due("bearers stay", x.bearers(), 2);
        Check.due("no fault", x.fault(), 0);
        Check.due("no place", x.place(), NONE);
        Check.due("the least int", Check.cite(x, "2", Integer.MIN_VALUE), -3);
        Check.due("none yet", Check.cite(x, "4", 10), NONE);
        Check.due("no fault", x.fault(), 0);
        x.strike(1);
        Check.due("struck or not", Check.cite(x, "2", 10), 1);
        x.renumber(0);
        Check.due("none has none", Check.cite(x, "2", 10), 2);
        Check.due("one", x.bearers(), 1);
        Check.due("no one of another level", Check.cite(x, "1.b", 10), NONE);
        x.error(0, 7, Check.suffix("ABCD"));
        Check.due("by its suffix", Check.cite(x, "7ABCD", 10), 0);
        Check.due("by its whole suffix", Check.cite(x, "7ABC", 10), NONE);
        LawNumberer empty = new LawNumberer();
        Check.due("no items", Check.cite(empty, "1.a-A", 0), NONE);
    }

    private static void citeFault(String text, int kind, int place) {
        LawNumberer x = Check.with("roman;number;letter;small;");
        Check.due("cite " + text, Check.cite(x, text, 0), kind == 0 ? NONE : -2);
        Check.due("fault of " + text, x.fault(), kind);
        Check.due("place in " + text, x.place(), place);
        Check.due("tape behind " + text, x.count(6), 0);
    }

    private static void citeFaults() {
        citeFault("", 1, 0);
        citeFault(".", 1, 0);
        citeFault("1", 1, 0);
        citeFault("i", 1, 0);
        citeFault("A", 1, 0);
        citeFault("-A", 1, 0);
        citeFault("I", 0, NONE);
        citeFault("IA", 1, 1);
        citeFault("Ii", 1, 1);
        citeFault("I-", 1, 2);
        citeFault("I--A", 1, 2);
        citeFault("I-a", 1, 2);
        citeFault("I-1", 1, 2);
        citeFault("I-.1", 1, 2);
        citeFault("I-A1", 1, 3);
        citeFault("I-A-", 1, 3);
        citeFault("I-ABCD", 0, NONE);
        citeFault("I-ABCDE", 2, 0);
        citeFault("I-ABCDE?", 2, 0);
        citeFault("IIII", 2, 0);
        citeFault("IIII?", 2, 0);
        citeFault("IIII-", 1, 5);
        citeFault("IIII-?", 1, 5);
        citeFault("IIII-A", 2, 0);
        citeFault("VV", 2, 0);
        citeFault("IM", 2, 0);
        citeFault("IIX", 2, 0);
        citeFault("IXX", 2, 0);
        citeFault("XIXX", 2, 0);
        citeFault("M", 2, 0);
        citeFault("MI", 2, 0);
        citeFault("CMXCIX", 0, NONE);
        citeFault("I ", 1, 1);
        citeFault("I\n", 1, 1);
        citeFault("I.", 1, 2);
        citeFault("I..", 1, 2);
        citeFault("I.I", 1, 2);
        citeFault("I.1", 0, NONE);
        citeFault("I.0", 2, 2);
        citeFault("I.01", 2, 2);
        citeFault("I.01?", 2, 2);
        citeFault("I.1000", 2, 2);
        citeFault("I.4294967297", 2, 2);
        citeFault("I.1-A", 1, 3);
        citeFault("I.1a", 1, 3);
        citeFault("I.1A", 0, NONE);
        citeFault("I.1A1", 1, 4);
        citeFault("I.1ABCDE", 2, 2);
        citeFault("I.A", 1, 2);
        citeFault("I.1.a", 0, NONE);
        citeFault("I.1.A", 1, 4);
        citeFault("I.1.aA", 1, 5);
        citeFault("I.1.alk-ZZZZ", 0, NONE);
        citeFault("I.1.all", 2, 4);
        citeFault("I.1.zzzzzzzzzzzzzzzzzzzzzzzzzzzzzzz", 2, 4);
        citeFault("I.1.a-", 1, 6);
        citeFault("I.1.a.i", 0, NONE);
        citeFault("I.1.a.I", 1, 6);
        citeFault("I.1.a.a", 1, 6);
        citeFault("I.1.a.iiii", 2, 6);
        citeFault("I.1.a.ia", 1, 7);
        citeFault("I.1.a.i.", 1, 7);
        citeFault("I.1.a.i.i", 1, 7);
        citeFault("I.1.a.iiii.i", 2, 6);
        citeFault("I.1.a.i-AB", 0, NONE);
        citeFault("\u00c9", 1, 0);
        citeFault("I\u00ff", 1, 1);
        LawNumberer x = new LawNumberer();
        Check.due("behind the last of two levels", Check.cite(x, "1.a.", 0), -2);
        Check.due("at the dot", x.place(), 3);
        Check.due("levels without a fault", Check.levels(x, "number;"), 1);
        Check.due("fault gone", x.fault(), 0);
        Check.due("behind the only level", Check.cite(x, "1.a", 0), -2);
        Check.due("at the dot", x.place(), 1);
        StringBuilder digits = new StringBuilder();
        for (int i = 0; i < 200; i++) {
            digits.append('1');
        }
        Check.due("a full tape", Check.cite(x, digits.toString(), 0), -2);
        Check.due("not as written", x.fault() * 1000 + x.place(), 2000);
        Check.levels(x, "roman;");
        Check.due("a full roman tape", Check.cite(x, digits.toString().replace('1', 'M'), 0), -2);
        Check.due("not as written", x.fault() * 1000 + x.place(), 2000);
    }

    // Promises 19 and 20
    private static void read() {
        LawNumberer x = new LawNumberer();
        Check.due("wrong first", Check.read(x, "0", 0), NONE);
        Check.due("no suffix yet", x.suffix(), 0);
        Object[][] right = {{"1", 0, 1, ""}, {"999ZZZZ", 0, 999, "ZZZZ"}, {"12AB", 0, 12, "AB"}, {"IV", 1, 4, ""},
            {"IV-B", 1, 4, "B"}, {"CMXCIX-ABC", 1, 999, "ABC"}, {"c-A", 2, 3, "A"}, {"i", 2, 9, ""}, {"i", 3, 1, ""},
            {"alk", 2, 999, ""}, {"xlix-QQ", 3, 49, "QQ"}};
        for (Object[] r : right) {
            Check.due("read " + r[0], Check.read(x, (String) r[0], (Integer) r[1]), (Integer) r[2]);
            Check.due("suffix of " + r[0], x.suffix(), Check.suffix((String) r[3]));
            Check.due("tape", x.count(6), 0);
        }
        Object[][] wrong = {{"", 0}, {"", 1}, {"", 2}, {"", 3}, {"0", 0}, {"01", 0}, {"1000", 0}, {"1-A", 0}, {"1a", 0},
            {"1ABCDE", 0}, {"A", 0}, {"1.", 0}, {"1.1", 0}, {"1 ", 0}, {" 1", 0}, {"IIII", 1}, {"IVA", 1}, {"IV-", 1},
            {"IV-a", 1}, {"iv", 1}, {"M", 1}, {"all", 2}, {"A", 2}, {"aA", 2}, {"a-ABCDE", 2}, {"a-", 2}, {"IV", 3},
            {"iiii", 3}, {"m", 3}, {"1", 4}, {"1", -1}, {"1", Integer.MAX_VALUE}, {"1", Integer.MIN_VALUE}, {"-A", 1}};
        for (Object[] w : wrong) {
            Check.due("read " + w[0] + " by " + w[1], Check.read(x, (String) w[0], (Integer) w[1]), NONE);
            Check.due("tape", x.count(6), 0);
            Check.due("suffix stays", x.suffix(), Check.suffix("QQ"));
        }
        Check.due("no fault of read", x.fault(), 0);
        Check.due("no place of read", x.place(), NONE);
        Check.due("without suffix", Check.read(x, "5", 0), 5);
        Check.due("0", x.suffix(), 0);
    }

    // Promise 21
    private static void clash() {
        LawNumberer x = Check.withTop(4);
        Check.due("none", x.clash(), NONE);
        Check.error(x, 3, "3");
        Check.due("equal", x.clash(), 3);
        Check.error(x, 3, "2A");
        Check.due("below", x.clash(), 3);
        Check.error(x, 2, "2");
        Check.due("the first one", x.clash(), 2);
        Check.error(x, 2, "2AA");
        Check.due("below what ended earlier", x.clash(), 3);
        Check.error(x, 2, "1ZZZZ");
        Check.due("below", x.clash(), 2);
        for (int i = 0; i < 5; i++) {
            x.undo();
        }
        Check.due("none again", x.clash(), NONE);
        x.strike(1);
        Check.error(x, 1, "9");
        Check.due("a struck one counts", x.clash(), 2);
        x.renumber(1);
        Check.due("one without counts not", x.clash(), NONE);
        Check.error(x, 1, "1");
        Check.due("a struck one clashes", x.clash(), 1);
        LawNumberer y = new LawNumberer();
        Check.addTop(y, 2);
        y.add(0, NONE);
        y.add(1, NONE);
        Check.due("under others", y.clash(), NONE);
        Check.levels(y, "number;letter through;");
        Check.addTop(y, 2);
        y.add(0, NONE);
        y.add(1, NONE);
        Check.due("through", y.clash(), NONE);
        y.error(3, 1, 0);
        Check.due("through", y.clash(), 3);
        y.error(0, 2, 0);
        Check.due("in the order of the text", y.clash(), 1);
        Check.due("no act of clash", y.count(4), 6);
    }

    // Promises 22 and 23
    private static void atAndCount() {
        LawNumberer x = Check.withTop(2);
        x.add(0, NONE);
        int[] order = {0, 2, 1};
        for (int i = 0; i < order.length; i++) {
            Check.due("at " + i, x.at(i), order[i]);
        }
        for (int i : new int[] {-1, 3, 79, 80, Integer.MIN_VALUE, Integer.MAX_VALUE}) {
            Check.due("at " + i, x.at(i), NONE);
        }
        x.wait(3);
        x.strike(2);
        x.cited(2, 3);
        Check.feed(x, "abcdefg");
        int[] counts = {2, 3, 1, 3, 4, 3, 7};
        for (int i = 0; i < counts.length; i++) {
            Check.due("count " + i, x.count(i), counts[i]);
        }
        for (int what : new int[] {-1, 7, Integer.MIN_VALUE, Integer.MAX_VALUE}) {
            Check.due("count " + what, x.count(what), NONE);
        }
    }
}
