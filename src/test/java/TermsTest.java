/** For each sentence of "What it is" and of the Terms that names a boundary case: a test of its own. */
public final class TermsTest {
    private static final int NONE = LawNumberer.NONE;
    private static final String[] FORMS = {"number", "roman", "letter", "small"};

    public static void main(String[] args) {
        Check.sentence("An object is used for at most 512 calls after it has been made", TermsTest::allCalls);
        levels();
        labels();
        items();
        acts();
        days();
        citations();
        undoing();
        Check.sentence("A call that throws changes nothing", TermsTest::throwsChangeNothing);
        Check.finish();
    }

    /**
     * Eighty ITEMS, each day one of them struck and all renumbered: what each had on each DAY,
     * asked of many objects that do the same, since one is promised 512 calls.
     */
    private static void allCalls() {
        int asked = 0;
        while (asked < 80 * 80) {
            LawNumberer x = Check.withTop(80);
            int calls = 80;
            for (int day = 1; day <= 79; day++) {
                Check.due("wait", x.wait(1), true);
                Check.due("strike", x.strike(day - 1), true);
                Check.due("renumber on day " + day, x.renumber(79), true);
                calls += 3;
            }
            while (calls + 3 <= 512) {
                labelOfStruckAndRenumbered(x, asked % 80, asked / 80 % 80);
                asked++;
                calls += 3;
            }
            Check.due("calls", calls, 512);
        }
    }

    private static void labelOfStruckAndRenumbered(LawNumberer x, int k, int day) {
        String what = "label of " + k + " on day " + day;
        String number = String.valueOf(k + 1 - day);
        if (k < day) {
            Check.due(what, x.label(k, day), NONE);
            return;
        }
        Check.due(what, x.label(k, day), number.length());
        Check.due(what + ", first byte", x.octet(0), number.charAt(0));
        Check.due(what + ", last byte", x.octet(number.length() - 1), number.charAt(number.length() - 1));
    }

    // LEVELS

    private static void levels() {
        Check.sentence("LEVELS, 1 to 4 of them", TermsTest::oneToFourLevels);
        Check.sentence("WORDS (small letters)", TermsTest::wordsAreSmallLetters);
        Check.sentence("with blanks (32, 10) between or not", TermsTest::blanksBetweenOrNot);
        Check.sentence("{ FORM [ 'through' ] ; }", TermsTest::throughIsFree);
        Check.sentence("from the highest LEVEL (0) on", TermsTest::highestLevelFirst);
        Check.sentence("'number' 1, 2, ..", () -> form(0));
        Check.sentence("'roman' I, II, ..", () -> form(1));
        Check.sentence("'letter' a .. z, aa, ab, .. zz, aaa, ..", () -> form(2));
        Check.sentence("'small' i, ii, ..", () -> form(3));
        Check.sentence("FAULTS, the first along the text", TermsTest::firstFaultOfLevels);
        Check.sentence("1 a byte that belongs to no WORD or SIGN (at it)", TermsTest::bytesOfNoWord);
        Check.sentence("2 a WORD or ; that can't come", TermsTest::wordsThatCannotCome);
        Check.sentence("(the end: how many bytes there are)", TermsTest::endOfLevels);
        Check.sentence("3 a fifth FORM (at it)", TermsTest::fifthForm);
    }

    private static void levelsAnswer(String text, int want) {
        Check.due("levels of \"" + text + "\"", Check.levels(new LawNumberer(), text), want);
    }

    private static void oneToFourLevels() {
        Check.levelsFault("", 2, 0);
        levelsAnswer("number;", 1);
        levelsAnswer("number;roman;", 2);
        levelsAnswer("number;roman;letter;", 3);
        levelsAnswer("number;roman;letter;small;", 4);
        levelsAnswer("small through;small through;small through;small through;", 4);
        Check.levelsFault("number;roman;letter;small;number;", 3, 26);
    }

    private static void wordsAreSmallLetters() {
        Check.levelsFault("`number;", 1, 0);
        Check.levelsFault("{number;", 1, 0);
        Check.levelsFault("Number;", 1, 0);
        Check.levelsFault("number through`;", 1, 14);
        Check.levelsFault("number through{;", 1, 14);
        Check.levelsFault("azazaz;", 2, 0);
        Check.levelsFault("numbernumber;", 2, 0);
        Check.levelsFault("numberthrough;", 2, 0);
    }

    private static void blanksBetweenOrNot() {
        levelsAnswer("number through;letter;", 2);
        levelsAnswer(" \n number \n through \n ; \n letter \n ; \n ", 2);
        levelsAnswer("number\nthrough\n;\n", 1);
        levelsAnswer("number through ;letter ;", 2);
        Check.levelsFault("num ber;", 2, 0);
        Check.levelsFault("num\nber;", 2, 0);
        Check.levelsFault("number thr ough;", 2, 7);
        for (int b : new int[] {0, 9, 11, 13, 31, 33, 127, 160}) {
            Check.levelsFault("number" + (char) b + "through;", 1, 6);
            Check.levelsFault("number;" + (char) b, 1, 7);
            Check.levelsFault((char) b + "number;", 1, 0);
        }
    }

    private static void throughIsFree() {
        LawNumberer x = Check.with("number;number through;");
        Check.addTop(x, 2);
        x.add(0, NONE);
        x.add(1, NONE);
        Check.due("with it", Check.labels(x, 0), "1 2 1 2");
        x = Check.with("number;number;");
        Check.addTop(x, 2);
        x.add(0, NONE);
        x.add(1, NONE);
        Check.due("without it", Check.labels(x, 0), "1 2 1 1");
        x = Check.with("number through;number;number through;");
        Check.addTop(x, 2);
        x.add(0, NONE);
        x.add(1, NONE);
        x.add(2, NONE);
        x.add(3, NONE);
        Check.due("of one LEVEL, not of the next", Check.labels(x, 0), "1 2 1 1 1 2");
        Check.due("another one", Check.levels(x, "number;number through;"), 2);
        Check.due("without it again", Check.levels(x, "number;number;"), 2);
        Check.addTop(x, 2);
        x.add(0, NONE);
        x.add(1, NONE);
        Check.due("nothing of it stays", Check.labels(x, 0), "1 2 1 1");
    }

    private static void highestLevelFirst() {
        LawNumberer x = Check.with("small;letter;roman;number;");
        x.add(NONE, NONE);
        x.add(0, NONE);
        x.add(1, NONE);
        x.add(2, NONE);
        Check.due("one of each", Check.labels(x, 0), "i a I 1");
    }

    /** Every NUMBER there is, written and read back, and what lies ahead of the first and behind the last. */
    private static void form(int form) {
        String level = FORMS[form] + ";";
        LawNumberer x = Check.with(level);
        x.add(NONE, NONE);
        for (int number = 1; number <= 999; number++) {
            // a new object now and then: of one, 512 calls are promised
            if (number % 16 == 0) {
                x = Check.with(level);
                x.add(NONE, NONE);
            }
            Check.due("error", x.error(0, number, 0), true);
            Check.due("written " + number, Check.label(x, 0, 0), head(form, number));
            Check.due("read " + number, Check.read(x, head(form, number), form), number);
        }
        String[] beyond = {"1000", "M", "all", "m"};
        Check.due("read 1000", Check.read(x, beyond[form], form), NONE);
        Check.due("read 1001", Check.read(x, new String[] {"1001", "MI", "alm", "mi"}[form], form), NONE);
        Check.due("read of nothing", Check.read(x, "", form), NONE);
    }

    private static String head(int form, int number) {
        switch (form) {
            case 0:
                return String.valueOf(number);
            case 1:
                return Check.roman(number);
            case 2:
                return letters(number);
            default:
                return Check.roman(number).toLowerCase();
        }
    }

    /** Counts a, b, .. on as one does by hand, so that it shares nothing with how the program reckons. */
    private static String letters(int number) {
        char[] text = {' ', ' ', ' '};
        for (int n = 0; n < number; n++) {
            int i = 2;
            while (text[i] == 'z') {
                text[i] = 'a';
                i--;
            }
            text[i] = text[i] == ' ' ? 'a' : (char) (text[i] + 1);
        }
        return new String(text).trim();
    }

    private static void firstFaultOfLevels() {
        Check.levelsFault("number;;?", 2, 7);
        Check.levelsFault("number;?;", 1, 7);
        Check.levelsFault("nomber?", 2, 0);
        Check.levelsFault("num1ber;", 2, 0);
        Check.levelsFault("number?;;", 1, 6);
        Check.levelsFault("number;roman;letter;small;small?", 3, 26);
        Check.levelsFault("number;roman;letter;small;?small", 1, 26);
        Check.levelsFault("number;roman;letter;small;;small", 2, 26);
        Check.levelsFault("number number;roman;letter;small;small;", 2, 7);
    }

    private static boolean isSmall(int b) {
        return b >= 'a' && b <= 'z';
    }

    /** Each byte there is alone, behind a WORD, and behind a LEVEL that has its ; already. */
    private static void bytesOfNoWord() {
        for (int b = 0; b < 256; b++) {
            String sign = String.valueOf((char) b);
            if (b == ' ' || b == '\n') {
                Check.levelsFault(sign, 2, 1);
                Check.levelsFault("number" + sign, 2, 7);
                levelsAnswer("number;" + sign, 1);
            } else if (b == ';') {
                Check.levelsFault(sign, 2, 0);
                levelsAnswer("number" + sign, 1);
                Check.levelsFault("number;" + sign, 2, 7);
            } else {
                int kind = isSmall(b) ? 2 : 1;
                Check.levelsFault(sign, kind, 0);
                Check.levelsFault("number" + sign, kind, isSmall(b) ? 0 : 6);
                Check.levelsFault("number;" + sign, kind, 7);
            }
        }
    }

    private static void wordsThatCannotCome() {
        String[] ahead = {"", "number;", "letter through; "};
        for (String a : ahead) {
            int at = a.length();
            for (String wrong : new String[] {";", "through", "through;", "numbers;", "numbe;", "umber;", "romans;", "roma;",
                "letters;", "lette;", "smalls;", "smal;", "x;", "shall;", "cumber;", "woman;", "better;", "email;", "numbez;"}) {
                Check.levelsFault(a + wrong, 2, at);
            }
            for (String wrong : new String[] {"number", "roman", "letter", "small", "throughs", "throug", "hrough", "x"}) {
                Check.levelsFault(a + "roman " + wrong + ";", 2, at + 6);
            }
            for (String wrong : new String[] {"through", "number", "x"}) {
                Check.levelsFault(a + "roman through " + wrong + ";", 2, at + 14);
            }
        }
    }

    private static void endOfLevels() {
        Check.levelsFault("", 2, 0);
        Check.levelsFault(" ", 2, 1);
        Check.levelsFault("\n\n\n", 2, 3);
        Check.levelsFault("number", 2, 6);
        Check.levelsFault("number  ", 2, 8);
        Check.levelsFault("number through", 2, 14);
        Check.levelsFault("number through\n", 2, 15);
        Check.levelsFault("number;roman", 2, 12);
        Check.levelsFault(" ".repeat(200), 2, 200);
        Check.levelsFault("number" + " ".repeat(194), 2, 200);
        levelsAnswer("number" + " ".repeat(193) + ";", 1);
    }

    private static void fifthForm() {
        String four = "number;roman;letter;small;";
        for (String form : FORMS) {
            Check.levelsFault(four + form, 3, 26);
            Check.levelsFault(four + " \n" + form + " through;", 3, 28);
        }
        Check.levelsFault(four + "through", 2, 26);
        Check.levelsFault(four + "numbers", 2, 26);
        Check.levelsFault("number;roman;letter;small number", 2, 26);
        LawNumberer x = Check.with(four);
        Check.due("a FORM again", Check.levels(x, four), 4);
        Check.due("a fifth one again", Check.levels(x, four + "small;"), -27);
    }

    // LABELS

    private static void labels() {
        Check.sentence("a NUMBER from 1 to 999", TermsTest::numbers);
        Check.sentence("a SUFFIX of 0 to 4 letters A .. Z", TermsTest::suffixes);
        Check.sentence("ORDER: by NUMBER, then by SUFFIX, letter by letter, one that ends ahead of one that goes on",
            TermsTest::order);
        Check.sentence("then the SUFFIX, if there is one (behind a - in all FORMS but number)", TermsTest::dashes);
        Check.sentence("the greatest that goes in first", TermsTest::greatestFirst);
    }

    private static void numbers() {
        LawNumberer x = Check.withTop(1);
        Check.due("0", x.error(0, 0, 0), false);
        Check.due("1000", x.error(0, 1000, 0), false);
        Check.due("1", x.error(0, 1, 0), true);
        Check.due("999", x.error(0, 999, 0), true);
        Check.due("1000 of a new ITEM", x.add(NONE, 0), -2);
        Check.due("read 0", Check.read(x, "0", 0), NONE);
        Check.due("read 1", Check.read(x, "1", 0), 1);
        Check.due("read 999", Check.read(x, "999", 0), 999);
        Check.due("read 1000", Check.read(x, "1000", 0), NONE);
        Check.due("read 1 around an int", Check.read(x, "4294967297", 0), NONE);
        Check.due("read 1 around a long", Check.read(x, "18446744073709551617", 0), NONE);
        Check.due("read a around an int", Check.read(x, "a".repeat(200), 2), NONE);
        Check.due("read romans around", Check.read(x, "M".repeat(200), 1), NONE);
    }

    private static void suffixes() {
        LawNumberer x = Check.withTop(1);
        for (String right : new String[] {"", "A", "Z", "AA", "AZ", "ZA", "ABC", "ZZZ", "AAAA", "ZZZZ"}) {
            Check.due("error " + right, x.error(0, 7, Check.suffix(right)), true);
            Check.due("written", Check.label(x, 0, 0), "7" + right);
            Check.due("read 7" + right, Check.read(x, "7" + right, 0), 7);
            Check.due("its SUFFIX", x.suffix(), Check.suffix(right));
        }
        for (String wrong : new String[] {"@", "[", "a", "A@", "[A", "AA[", "@AAA", "AAA@", "A1", "A\0", "\0A\0"}) {
            Check.due("error " + wrong, x.error(0, 7, Check.suffix(wrong)), false);
            Check.due("read 7" + wrong, Check.read(x, "7" + wrong, 0), NONE);
        }
        Check.due("read five letters", Check.read(x, "7AAAAA", 0), NONE);
        Check.due("stays", Check.label(x, 0, 0), "7ZZZZ");
    }

    private static void order() {
        String[] up = {"1", "1A", "1AA", "1AAA", "1AAAA", "1AAAB", "1AAAZ", "1AAB", "1AAZZ", "1AB", "1ABA", "1AZ",
            "1AZZZ", "1B", "1BA", "1Z", "1ZA", "1ZZ", "1ZZZ", "1ZZZZ", "2", "2A", "9", "9ZZZZ", "10", "11", "99ZZZZ",
            "100", "998ZZZZ", "999", "999A", "999ZZZZ"};
        for (int i = 0; i < up.length; i++) {
            for (int j = 0; j < up.length; j++) {
                LawNumberer x = Check.withLabels(up[i], up[j]);
                Check.due(up[i] + " ahead of " + up[j], x.clash(), i < j ? NONE : 1);
            }
        }
    }

    private static void dashes() {
        String[] plain = {"4", "IV", "d", "iv"};
        for (int form = 0; form < 4; form++) {
            LawNumberer x = Check.with(FORMS[form] + ";");
            x.add(NONE, NONE);
            x.error(0, 4, 0);
            Check.due("none without SUFFIX", Check.label(x, 0, 0), plain[form]);
            String dash = form == 0 ? "" : "-";
            String other = form == 0 ? "-" : "";
            for (String letters : new String[] {"A", "AA", "BCD", "WXYZ"}) {
                x.error(0, 4, Check.suffix(letters));
                Check.due("with " + letters, Check.label(x, 0, 0), plain[form] + dash + letters);
                Check.due("read it", Check.read(x, plain[form] + dash + letters, form), 4);
                Check.due("read the other way", Check.read(x, plain[form] + other + letters, form), NONE);
            }
            Check.due("a - alone", Check.read(x, plain[form] + "-", form), NONE);
        }
        LawNumberer x = new LawNumberer();
        Check.due("4AA", Check.read(x, "4AA", 0), 4);
        Check.due("IV-B", Check.read(x, "IV-B", 1), 4);
        Check.due("c-A", Check.read(x, "c-A", 2), 3);
    }

    private static void greatestFirst() {
        LawNumberer x = new LawNumberer();
        String[] never = {"IIII", "VIIII", "VV", "XXXX", "LL", "LXXXX", "CCCC", "DD", "DCCCC", "IIV", "IIX", "IL", "IC",
            "ID", "IM", "VX", "VL", "XD", "XM", "LC", "LD", "DM", "IVI", "IXI", "XCX", "CDC", "CMC", "IXV", "XIXX"};
        for (String n : never) {
            Check.due("read " + n, Check.read(x, n, 1), NONE);
            Check.due("read " + n.toLowerCase(), Check.read(x, n.toLowerCase(), 3), NONE);
        }
    }

    // ITEMS

    private static void items() {
        Check.sentence("ITEMS 0 .. 79", TermsTest::eightyItems);
        Check.sentence("lie UNDER one of the next higher LEVEL, or at the top (LEVEL 0)", TermsTest::nextHigherLevel);
        Check.sentence("ROW of an ITEM: those UNDER the same one", TermsTest::rowUnderOne);
        Check.sentence("of a through LEVEL all ITEMS of that LEVEL", TermsTest::rowThrough);
        Check.sentence("an ITEM, then all UNDER it, then the next one", TermsTest::orderOfText);
        Check.sentence("A that of the nearest one ahead of it in its ROW that has one", TermsTest::nearestAhead);
        Check.sentence("B that of the nearest one behind it that has one", TermsTest::nearestBehind);
        Check.sentence("without B: A's NUMBER and 1, no SUFFIX", TermsTest::withoutB);
        Check.sentence("(1 without A)", TermsTest::withoutAandB);
        Check.sentence("of all LABELS above A (if there is one) and below B", TermsTest::aboveAndBelow);
        Check.sentence("the one with the shortest SUFFIX, of these the least", TermsTest::shortestThenLeast);
        Check.sentence("If there is none, it is refused", TermsTest::noneBetween);
    }

    private static void eightyItems() {
        LawNumberer x = Check.withTop(80);
        Check.due("a 81st one", x.add(NONE, 79), -1);
        Check.due("the first one is 0", x.at(0), 0);
        Check.due("the last one is 79", x.at(79), 79);
        Check.due("there are", x.count(1), 80);
        Check.due("strike 79", x.strike(79), true);
        Check.due("strike 80", x.strike(80), false);
    }

    private static void nextHigherLevel() {
        LawNumberer x = Check.with("number;number;number;number;");
        Check.due("the top", x.add(NONE, NONE), 0);
        for (int level = 1; level <= 3; level++) {
            Check.due("under " + (level - 1), x.add(level - 1, NONE), level);
            Check.due("its LEVEL", x.about(level, 0), level);
            Check.due("what it lies UNDER", x.about(level, 1), level - 1);
        }
        Check.due("under the last LEVEL", x.add(3, NONE), -1);
        Check.due("LEVEL of the top", x.about(0, 0), 0);
        Check.due("the top lies UNDER", x.about(0, 1), NONE);
        x = Check.with("number;");
        x.add(NONE, NONE);
        Check.due("under the only LEVEL", x.add(0, NONE), -1);
    }

    /** 0 has 2, 3 under it, 1 has 4, 5; 6 lies under 2, 7 under 4. */
    private static LawNumberer family(String levels) {
        LawNumberer x = Check.with(levels);
        Check.addTop(x, 2);
        x.add(0, NONE);
        x.add(0, 2);
        x.add(1, NONE);
        x.add(1, 4);
        x.add(2, NONE);
        x.add(4, NONE);
        return x;
    }

    private static void placesInRow(LawNumberer x, String want) {
        StringBuilder places = new StringBuilder();
        for (int k = 0; k < 8; k++) {
            places.append(x.about(k, 3));
        }
        Check.due("places in the ROWS", places.toString(), want);
    }

    private static void rowUnderOne() {
        LawNumberer x = family("number;number;number;");
        placesInRow(x, "01010100");
        Check.due("labels", Check.labels(x, 0), "1 2 1 2 1 2 1 1");
        Check.due("no clash of two ROWS", x.clash(), NONE);
        x.error(4, 9, 0);
        x.error(3, 9, 0);
        x.renumber(4);
        Check.due("one ROW renumbered", Check.labels(x, 0), "1 2 1 9 1 2 1 1");
    }

    private static void rowThrough() {
        LawNumberer x = family("number;number through;number;");
        placesInRow(x, "01012300");
        Check.due("labels", Check.labels(x, 0), "1 2 1 2 3 4 1 1");
        x.error(4, 2, 0);
        Check.due("a clash of two parents", x.clash(), 4);
        x.error(2, 7, 0);
        x.renumber(5);
        Check.due("all of the LEVEL renumbered", Check.labels(x, 0), "1 2 1 2 3 4 1 1");
        x = family("number;number;number through;");
        placesInRow(x, "01010101");
        Check.due("the last LEVEL", Check.labels(x, 0), "1 2 1 2 1 2 1 2");
        x = family("number through;number;number;");
        placesInRow(x, "01010100");
        Check.due("the top", Check.labels(x, 0), "1 2 1 2 1 2 1 1");
    }

    private static void orderOfText() {
        LawNumberer x = family("number;number;number;");
        Check.due("order", Check.order(x), "0 2 6 3 1 4 7 5");
        x.add(NONE, 0);
        Check.due("behind all under it", Check.order(x), "0 2 6 3 8 1 4 7 5");
        x.add(0, 2);
        Check.due("behind one and what is under that", Check.order(x), "0 2 6 9 3 8 1 4 7 5");
        x.error(1, 2, 0);
        x.error(0, 2, 0);
        x.add(NONE, NONE);
        Check.due("ahead of all", Check.order(x), "10 0 2 6 9 3 8 1 4 7 5");
        x.add(NONE, 1);
        Check.due("behind all", Check.order(x), "10 0 2 6 9 3 8 1 4 7 5 11");
        x.error(4, 2, 0);
        x.add(1, NONE);
        Check.due("next to what it is under", Check.order(x), "10 0 2 6 9 3 8 1 12 4 7 5 11");
        for (int i = 0; i < 13; i++) {
            Check.due("place of what is at " + i, x.about(x.at(i), 4), i);
        }
    }

    /** ITEMS at the top, some of them (a -) without LABEL: struck and renumbered. */
    private static LawNumberer someWithout(String... labels) {
        LawNumberer x = Check.withTop(labels.length);
        for (int k = 0; k < labels.length; k++) {
            if (labels[k].equals("-")) {
                x.strike(k);
            }
        }
        x.renumber(0);
        for (int k = 0; k < labels.length; k++) {
            if (!labels[k].equals("-")) {
                Check.error(x, k, labels[k]);
            }
        }
        Check.due("labels to begin with", Check.labels(x, 0), String.join(" ", labels));
        return x;
    }

    private static void added(LawNumberer x, int behind, String want) {
        int items = x.count(1);
        Check.due("add behind " + behind, x.add(NONE, behind), want.equals("-") ? -2 : items);
        Check.due("its label", Check.label(x, items, 9999), want);
        if (!want.equals("-")) {
            Check.due("by its label", Check.cite(x, want, 9999) != NONE && x.bearers() == 1, true);
        }
    }

    private static void nearestAhead() {
        added(someWithout("3", "-", "-"), 2, "4");
        added(someWithout("3", "-", "-"), 0, "4");
        added(someWithout("3", "-", "5", "-", "9"), 3, "6");
        added(someWithout("7", "3", "-"), 2, "4");
        added(someWithout("-", "-", "5"), 1, "1");
    }

    private static void nearestBehind() {
        added(someWithout("3", "-", "4"), 0, "3A");
        added(someWithout("3", "-", "-", "4"), 1, "3A");
        added(someWithout("3", "-", "4", "9"), 0, "3A");
        added(someWithout("-", "4", "2"), NONE, "1");
        added(someWithout("-", "1"), NONE, "-");
        added(someWithout("2", "-"), 0, "3");
        added(someWithout("2", "3", "9"), 0, "2A");
    }

    private static void withoutB() {
        String[][] all = {{"1", "2"}, {"1A", "2"}, {"1ZZZZ", "2"}, {"9", "10"}, {"997AB", "998"}, {"998", "999"},
            {"998ZZZZ", "999"}, {"999", "-"}, {"999A", "-"}, {"999ZZZZ", "-"}};
        for (String[] row : all) {
            added(Check.withLabels(row[0]), 0, row[1]);
        }
    }

    private static void withoutAandB() {
        added(new LawNumberer(), NONE, "1");
        added(someWithout("-"), NONE, "1");
        added(someWithout("-"), 0, "1");
        added(someWithout("-", "-", "-"), 1, "1");
        LawNumberer x = Check.withTop(2);
        x.error(0, 500, 0);
        Check.due("under another one", x.add(1, NONE), 2);
        Check.due("its label", Check.label(x, 2, 0), "a");
    }

    private static void between(String a, String b, String want) {
        if (a.isEmpty()) {
            added(Check.withLabels(b), NONE, want);
        } else {
            added(Check.withLabels(a, b), 0, want);
        }
    }

    private static void aboveAndBelow() {
        between("1", "3", "2");
        between("2", "3", "2A");
        between("", "2", "1");
        between("", "1A", "1");
        between("", "999ZZZZ", "1");
        between("1", "2A", "2");
        between("1ZZZZ", "2A", "2");
        between("1AAAA", "1AAAC", "1AAAB");
        between("998ZZZZ", "999A", "999");
        between("998", "999", "998A");
        between("999ZZZY", "999ZZZZ", "-");
    }

    private static void shortestThenLeast() {
        between("3", "9", "4");
        between("3C", "9", "4");
        between("3", "4", "3A");
        between("3B", "4", "3C");
        between("3Y", "4", "3Z");
        between("3Z", "4", "3ZA");
        between("3ZZ", "4", "3ZZA");
        between("3ZZZ", "4", "3ZZZA");
        between("3AAAA", "4", "3B");
        between("3A", "3B", "3AA");
        between("3AA", "3B", "3AB");
        between("3AZ", "3B", "3AZA");
        between("3AZ", "3C", "3B");
        between("3AZ", "3BA", "3B");
        between("3AZZ", "3AZZB", "3AZZA");
        between("3AYZ", "3B", "3AZ");
        between("3A", "3AAAB", "3AA");
        between("3ZZZZ", "4A", "4");
        between("3ZZZY", "4", "3ZZZZ");
        between("", "1B", "1");
    }

    private static void noneBetween() {
        between("", "1", "-");
        between("1", "1", "-");
        between("2", "1", "-");
        between("1A", "1", "-");
        between("1", "1A", "-");
        between("1A", "1AA", "-");
        between("1AA", "1AAA", "-");
        between("1AAA", "1AAAA", "-");
        between("1AAAA", "1AAAB", "-");
        between("1AAAZ", "1AAB", "-");
        between("1AZZZ", "1B", "-");
        between("1ZZZZ", "2", "-");
        between("999ZZZZ", "1", "-");
        between("999ZZZZ", "999ZZZZ", "-");
        between("998ZZZZ", "999", "-");
    }

    // STRUCK, RENUMBERED, ERRORS, the CLASH

    private static void acts() {
        Check.sentence("STRUCK ones keep their LABELS", TermsTest::struckKeep);
        Check.sentence("all in it that are not STRUCK have 1, 2, .. without SUFFIX", TermsTest::renumbered);
        Check.sentence("those STRUCK have none from then on", TermsTest::struckHaveNone);
        Check.sentence("an ITEM's LABEL is what is told, whatever others have", TermsTest::whateverOthersHave);
        Check.sentence("CLASH: the first ITEM (in the order of the text)", TermsTest::firstClash);
        Check.sentence("whose LABEL is not above that of the nearest one ahead of it in its ROW that has one",
            TermsTest::notAbove);
    }

    private static void struckKeep() {
        LawNumberer x = Check.withTop(3);
        x.wait(1);
        x.strike(0);
        x.strike(1);
        x.strike(2);
        Check.due("that day", Check.labels(x, 1), "1 2 3");
        Check.due("ahead of it", Check.labels(x, 0), "1 2 3");
        added(x, 2, "4");
        added(x, 0, "1A");
        added(x, NONE, "-");
    }

    private static void renumbered() {
        LawNumberer x = Check.withLabels("999ZZZZ", "5", "5", "1", "7AB");
        x.strike(2);
        x.renumber(4);
        Check.due("by the last one", Check.labels(x, 0), "1 2 - 3 4");
        x = Check.withLabels("9B");
        x.renumber(0);
        Check.due("a ROW of one", Check.labels(x, 0), "1");
        x = Check.withTop(80);
        x.error(0, 999, 0);
        x.strike(0);
        x.renumber(0);
        Check.due("eighty", Check.label(x, 79, 0), "79");
        Check.due("the first of them", Check.label(x, 1, 0), "1");
    }

    private static void struckHaveNone() {
        LawNumberer x = Check.withTop(3);
        x.wait(2);
        x.strike(1);
        x.wait(2);
        x.renumber(0);
        x.wait(2);
        Check.due("that day", Check.labels(x, 4), "1 - 2");
        Check.due("from then on", Check.labels(x, 6), "1 - 2");
        Check.due("the day ahead of it", Check.labels(x, 3), "1 2 3");
        x = Check.withTop(2);
        x.strike(0);
        x.strike(1);
        x.renumber(1);
        Check.due("all of them", Check.labels(x, 0), "- -");
        Check.due("no clash among none", x.clash(), NONE);
    }

    private static void whateverOthersHave() {
        LawNumberer x = Check.withTop(3);
        Check.due("what another one has", x.error(2, 1, 0), true);
        Check.due("what it has itself", x.error(2, 1, 0), true);
        Check.due("above the next one", x.error(0, 999, Check.suffix("ZZZZ")), true);
        Check.due("labels", Check.labels(x, 0), "999ZZZZ 2 1");
        x.strike(1);
        x.renumber(1);
        Check.due("one without", Check.labels(x, 0), "1 - 2");
        Check.due("is given one", x.error(1, 2, 0), true);
        Check.due("labels", Check.labels(x, 0), "1 2 2");
    }

    private static void firstClash() {
        LawNumberer x = family("number;number;number;");
        Check.due("none", x.clash(), NONE);
        x.error(1, 1, 0);
        Check.due("at the top", x.clash(), 1);
        x.error(3, 1, 0);
        Check.due("ahead of it in the text", x.clash(), 3);
        x.error(5, 1, 0);
        Check.due("not the one behind it", x.clash(), 3);
        x.undo();
        x.undo();
        Check.due("the top again", x.clash(), 1);
    }

    private static void notAbove() {
        Check.due("none at all", new LawNumberer().clash(), NONE);
        Check.due("only one", Check.withLabels("1").clash(), NONE);
        Check.due("above", Check.withLabels("1", "1A").clash(), NONE);
        Check.due("equal", Check.withLabels("1A", "1A").clash(), 1);
        Check.due("below", Check.withLabels("1A", "1").clash(), 1);
        Check.due("above the nearest one", Check.withLabels("9", "1", "2").clash(), 1);
        Check.due("above the nearest one only", Check.withLabels("5", "7", "6").clash(), 2);
        Check.due("one without is passed over", someWithout("5", "-", "5").clash(), 2);
        Check.due("and none itself", someWithout("5", "-", "6").clash(), NONE);
        Check.due("ahead of all that have one", someWithout("-", "-", "1").clash(), NONE);
    }

    // DAYS

    private static void days() {
        Check.sentence("DAY is 0 at first, 9999 the last one", TermsTest::firstAndLastDay);
        Check.sentence("the one that the latest ACT by then", TermsTest::latestActByThen);
        Check.sentence("(of one DAY the last one)", TermsTest::lastOfOneDay);
        Check.sentence("none ahead of the DAY on which it came", TermsTest::noneAheadOfItsDay);
    }

    private static LawNumberer onLastDay() {
        LawNumberer x = Check.withTop(1);
        for (int i = 0; i < 9; i++) {
            x.wait(1000);
        }
        Check.due("up to the last day", x.wait(999), true);
        return x;
    }

    private static void firstAndLastDay() {
        Check.due("at first", new LawNumberer().count(3), 0);
        LawNumberer x = onLastDay();
        Check.due("the last one", x.count(3), 9999);
        Check.due("beyond it", x.wait(1), false);
        x.add(NONE, 0);
        x.error(0, 5, 0);
        Check.due("ahead of the last one", Check.labels(x, 9998), "1 -");
        Check.due("on the last one", Check.labels(x, 9999), "5 2");
        Check.due("came", x.about(1, 5), 9999);
    }

    private static void latestActByThen() {
        LawNumberer x = Check.withTop(2);
        for (int i = 1; i <= 3; i++) {
            x.wait(10);
            x.error(1, 100 * i, 0);
        }
        int[] days = {0, 9, 10, 11, 19, 20, 29, 30, 31, 9999, 10000, Integer.MAX_VALUE};
        int[] want = {2, 2, 100, 100, 100, 200, 200, 300, 300, 300, 300, 300};
        for (int i = 0; i < days.length; i++) {
            Check.due("day " + days[i], Check.label(x, 1, days[i]), String.valueOf(want[i]));
            Check.due("the other one, day " + days[i], Check.label(x, 0, days[i]), "1");
        }
    }

    private static void lastOfOneDay() {
        LawNumberer x = Check.withTop(2);
        x.error(0, 4, 0);
        x.error(0, 3, 'A');
        Check.due("two errors", Check.labels(x, 0), "3A 2");
        x.wait(1);
        x.error(1, 50, 0);
        x.renumber(0);
        Check.due("an error, then renumbered", Check.labels(x, 1), "1 2");
        x.error(1, 60, 0);
        Check.due("renumbered, then an error", Check.labels(x, 1), "1 60");
        x.wait(0);
        x.error(1, 70, 0);
        Check.due("a wait of 0 is the same day", Check.labels(x, 1), "1 70");
        x.undo();
        Check.due("the one ahead of it, undone", Check.labels(x, 1), "1 60");
        x.undo();
        x.undo();
        x.undo();
        Check.due("that of an earlier day, undone", Check.labels(x, 1), "3A 2");
    }

    private static void noneAheadOfItsDay() {
        LawNumberer x = Check.withTop(1);
        x.wait(7);
        x.add(NONE, 0);
        x.wait(7);
        x.error(1, 9, 0);
        Check.due("the day ahead", Check.label(x, 1, 6), "-");
        Check.due("its day", Check.label(x, 1, 7), "2");
        Check.due("the day ahead, cited", x.cited(1, 6), NONE);
        Check.due("the day ahead, by a citation", Check.cite(x, "2", 6), NONE);
        Check.due("its day, by a citation", Check.cite(x, "2", 7), 1);
        Check.due("day 0 of one of day 0", Check.label(x, 0, 0), "1");
        x.undo();
        x.undo();
        x.add(NONE, 0);
        Check.due("came again later", Check.label(x, 1, 13), "-");
        Check.due("its new day", Check.label(x, 1, 14), "2");
    }

    // CITATIONS

    private static void citations() {
        Check.sentence("CITATION: LABELS, one for each LEVEL from 0 on, 1 to as many as there are LEVELS",
            TermsTest::oneToAllLevels);
        Check.sentence("a . between", TermsTest::dotBetween);
        Check.sentence("if it, and those that it lies UNDER, have these LABELS then", TermsTest::wholePath);
        Check.sentence("STRUCK or not", TermsTest::struckBear);
        Check.sentence("1 a byte that can't come in a LABEL of that LEVEL's FORM", TermsTest::bytesOfNoLabel);
        Check.sentence("or behind it (at it", TermsTest::bytesBehindLabel);
        Check.sentence("the end, where a LABEL is wanted", TermsTest::endWhereLabelIsWanted);
        Check.sentence("or not whole, as behind a -: how many bytes there are)", TermsTest::endBehindDash);
        Check.sentence("2 a whole LABEL that is not as it is WRITTEN (IIII, 04, 1000, a SUFFIX of five letters)",
            TermsTest::notAsWritten);
        Check.sentence("at its first byte, ahead of 1 of the byte behind it", TermsTest::aheadOfByteBehind);
    }

    private static void citeFault(String levels, String text, int kind, int place) {
        LawNumberer x = Check.with(levels);
        Check.due("cite \"" + text + "\"", Check.cite(x, text, 0), kind == 0 ? NONE : -2);
        Check.due("fault of \"" + text + "\"", x.fault(), kind);
        Check.due("place in \"" + text + "\"", x.place(), kind == 0 ? NONE : place);
    }

    private static void oneToAllLevels() {
        String all = "number;roman;letter;small;";
        citeFault(all, "", 1, 0);
        citeFault(all, "1", 0, 0);
        citeFault(all, "1.I", 0, 0);
        citeFault(all, "1.I.a", 0, 0);
        citeFault(all, "1.I.a.i", 0, 0);
        citeFault(all, "1.I.a.i.1", 1, 7);
        citeFault(all, "1.I.a.i.", 1, 7);
        citeFault("roman;", "I", 0, 0);
        citeFault("roman;", "I.1", 1, 1);
        LawNumberer x = Check.with(all);
        x.add(NONE, NONE);
        x.add(0, NONE);
        x.add(1, NONE);
        x.add(2, NONE);
        String[] cited = {"1", "1.I", "1.I.a", "1.I.a.i"};
        for (int k = 0; k < 4; k++) {
            Check.due("cited", Check.cited(x, k, 0), cited[k]);
            Check.due("cite " + cited[k], Check.cite(x, cited[k], 0), k);
            Check.due("bearers", x.bearers(), 1);
        }
    }

    private static void dotBetween() {
        String levels = "number;number;number;";
        citeFault(levels, "1.1.1", 0, 0);
        citeFault(levels, "1..1", 1, 2);
        citeFault(levels, ".1", 1, 0);
        citeFault(levels, "1 .1", 1, 1);
        citeFault(levels, "1. 1", 1, 2);
        citeFault(levels, "1,1", 1, 1);
        citeFault(levels, "1-1", 1, 1);
        citeFault(levels, "1/1", 1, 1);
        citeFault(levels, "1;1", 1, 1);
    }

    private static void wholePath() {
        LawNumberer x = family("number;number;number;");
        x.wait(5);
        x.error(1, 1, 0);
        x.wait(5);
        x.error(4, 3, 0);
        Check.due("two of them", Check.cite(x, "1.2", 10), 3);
        Check.due("how many", x.bearers(), 2);
        Check.due("one of them", Check.cite(x, "1.2", 4), 3);
        Check.due("how many", x.bearers(), 1);
        Check.due("that one under another", Check.cite(x, "2.2", 4), 5);
        Check.due("none under what is no more", Check.cite(x, "2.2", 5), NONE);
        Check.due("how many", x.bearers(), 0);
        Check.due("two of the third LEVEL", Check.cite(x, "1.1.1", 9), 6);
        Check.due("how many", x.bearers(), 2);
        Check.due("one of the third LEVEL", Check.cite(x, "1.1.1", 10), 6);
        Check.due("how many", x.bearers(), 1);
        Check.due("the other one", Check.cite(x, "1.3.1", 10), 7);
        x.strike(4);
        x.renumber(4);
        Check.due("one above has none", Check.cite(x, "1.3.1", 10), NONE);
        Check.due("as of then", Check.cite(x, "1.1.1", 9), 6);
    }

    private static void struckBear() {
        LawNumberer x = Check.withTop(2);
        x.add(1, NONE);
        x.strike(1);
        x.strike(2);
        Check.due("a struck one", Check.cite(x, "2", 0), 1);
        Check.due("a struck one under a struck one", Check.cite(x, "2.a", 0), 2);
        Check.due("cited", Check.cited(x, 2, 0), "2.a");
        x.error(0, 2, 0);
        Check.due("one that is not, ahead of it", Check.cite(x, "2", 0), 0);
        Check.due("both", x.bearers(), 2);
    }

    private static final String[] ONES = {"1", "I", "a", "i"};

    private static boolean isNumeral(int form, int b) {
        String[] signs = {"0123456789", "IVXLCDM", "abcdefghijklmnopqrstuvwxyz", "ivxlcdm"};
        return signs[form].indexOf(b) >= 0;
    }

    private static boolean isCapital(int b) {
        return b >= 'A' && b <= 'Z';
    }

    /** Each byte there is as the first one of a LABEL, and behind its -. */
    private static void bytesOfNoLabel() {
        for (int form = 0; form < 4; form++) {
            for (int b = 0; b < 256; b++) {
                String levels = FORMS[form] + ";";
                String text = String.valueOf((char) b);
                if (!isNumeral(form, b)) {
                    citeFault(levels, text, 1, 0);
                    citeFault("number;" + levels, "1." + text, 1, 2);
                } else if (b == '0' || b == 'M' || form == 3 && b == 'm') {
                    citeFault(levels, text, 2, 0);
                } else {
                    citeFault(levels, text, 0, 0);
                }
                if (form > 0) {
                    citeFault(levels, ONES[form] + "-" + text, isCapital(b) ? 0 : 1, 2);
                }
            }
        }
    }

    /** Each byte there is behind the numerals, and behind the letters of the SUFFIX. */
    private static void bytesBehindLabel() {
        for (int form = 0; form < 4; form++) {
            for (int b = 0; b < 256; b++) {
                String levels = FORMS[form] + ";" + FORMS[form] + ";";
                String sign = String.valueOf((char) b);
                boolean numeral = isNumeral(form, b);
                boolean open = b == '.' || b == '-' && form > 0;
                if (!numeral && !open && !(form == 0 && isCapital(b))) {
                    citeFault(levels, ONES[form] + sign, 1, 1);
                    citeFault(levels, ONES[form] + "." + ONES[form] + sign, 1, 3);
                }
                String lettered = ONES[form] + (form == 0 ? "AB" : "-AB");
                if (b != '.') {
                    citeFault(levels, lettered + sign, isCapital(b) ? 0 : 1, lettered.length());
                }
            }
            citeFault(FORMS[form] + ";", ONES[form] + ".", 1, 1);
        }
    }

    private static void endWhereLabelIsWanted() {
        String levels = "roman;number;letter;small;";
        citeFault(levels, "", 1, 0);
        citeFault(levels, "I.", 1, 2);
        citeFault(levels, "II.12.", 1, 6);
        citeFault(levels, "II.12.ab.", 1, 9);
        citeFault(levels, "II-A.12AB.", 1, 10);
        citeFault("letter;number;", "a".repeat(2) + ".", 1, 3);
    }

    private static void endBehindDash() {
        citeFault("roman;", "I-", 1, 2);
        citeFault("letter;", "zz-", 1, 3);
        citeFault("small;", "viii-", 1, 5);
        citeFault("number;", "1-", 1, 1);
        citeFault("number;roman;", "12.XIV-", 1, 7);
        citeFault("roman;number;", "I-.1", 1, 2);
        citeFault("roman;", "IIII-", 1, 5);
        citeFault("roman;", "X-A-", 1, 3);
    }

    private static void notAsWritten() {
        String levels = "roman;number;letter;small;";
        citeFault(levels, "IIII", 2, 0);
        citeFault(levels, "I.04", 2, 2);
        citeFault(levels, "I.1000", 2, 2);
        citeFault(levels, "I-ABCDE", 2, 0);
        citeFault(levels, "I.1ABCDE", 2, 2);
        citeFault(levels, "I.1.a-ABCDE", 2, 4);
        citeFault(levels, "I.1.a.i-ABCDE", 2, 6);
        citeFault(levels, "I-ABCD.1ABCD.a-ABCD.i-ABCD", 0, 0);
        citeFault(levels, "I.0", 2, 2);
        citeFault(levels, "I.00", 2, 2);
        citeFault(levels, "I.0A", 2, 2);
        citeFault(levels, "I.1.alk", 0, 0);
        citeFault(levels, "I.1.all", 2, 4);
        citeFault(levels, "I.1.zzzz", 2, 4);
        citeFault(levels, "I.1.a.iiii", 2, 6);
        citeFault(levels, "I.1.a.m", 2, 6);
        citeFault(levels, "M", 2, 0);
        citeFault(levels, "IIII-A", 2, 0);
        citeFault("number;", "999", 0, 0);
        citeFault("number;", "01", 2, 0);
        citeFault("number;", "9999", 2, 0);
        citeFault("number;", "4294967297", 2, 0);
        citeFault("number;", "1".repeat(200), 2, 0);
        citeFault("roman;", "I-" + "A".repeat(198), 2, 0);
    }

    private static void aheadOfByteBehind() {
        String levels = "roman;number;letter;small;";
        citeFault(levels, "IIII?", 2, 0);
        citeFault(levels, "IIII1", 2, 0);
        citeFault(levels, "IIII..", 2, 0);
        citeFault(levels, "I.04?", 2, 2);
        citeFault(levels, "I.1000a", 2, 2);
        citeFault(levels, "I-ABCDE-", 2, 0);
        citeFault(levels, "I.1ABCDE1", 2, 2);
        citeFault(levels, "I.1.a.iiii.i", 2, 6);
        citeFault(levels, "I.1.a.iiii.", 2, 6);
        citeFault(levels, "I?.04", 1, 1);
        citeFault(levels, "I.1.a.i?", 1, 7);
        citeFault("number;", "04.1", 2, 0);
        citeFault("number;", "4.01", 1, 1);
    }

    // ACTS that can be undone

    private static void undoing() {
        Check.sentence("ACTS (add, strike, renumber, error that told true or a number)", TermsTest::whatIsAnAct);
        Check.sentence("the latest first", TermsTest::latestFirst);
        Check.sentence("100 at most", TermsTest::hundredAtMost);
        Check.sentence("all is as if it had not been", TermsTest::asIfItHadNotBeen);
        Check.sentence("(DAY stays)", TermsTest::dayStays);
    }

    private static void isAct(LawNumberer x, String what, boolean act) {
        int acts = x.count(4);
        switch (what) {
            case "add" -> x.add(NONE, 1);
            case "add, no place" -> x.add(NONE, 9);
            case "add, no label" -> x.add(NONE, NONE);
            case "strike" -> x.strike(0);
            case "strike, none such" -> x.strike(9);
            case "renumber" -> x.renumber(0);
            case "renumber, none such" -> x.renumber(9);
            case "error" -> x.error(0, 1, 0);
            case "error, none such" -> x.error(9, 1, 0);
            case "error, no number" -> x.error(0, 0, 0);
            case "error, no suffix" -> x.error(0, 1, 'a');
            case "wait" -> x.wait(1);
            case "cite" -> Check.cite(x, "1", 0);
            case "read" -> Check.read(x, "1", 0);
            case "levels with a fault" -> Check.levels(x, "?");
            default -> x.label(0, 0);
        }
        Check.due(what, x.count(4) - acts, act ? 1 : 0);
    }

    private static void whatIsAnAct() {
        LawNumberer x = Check.withTop(2);
        for (String what : new String[] {"add, no place", "add, no label", "strike, none such", "renumber, none such",
            "error, none such", "error, no number", "error, no suffix", "wait", "cite", "read", "levels with a fault", "label"}) {
            isAct(x, what, false);
        }
        for (String what : new String[] {"add", "strike", "renumber", "renumber", "error", "error"}) {
            isAct(x, what, true);
        }
        isAct(x, "strike", false);
        Check.due("acts in all", x.count(4), 8);
        for (int left = 7; left >= 0; left--) {
            Check.due("undo", x.undo(), true);
            Check.due("left", x.count(4), left);
        }
        Check.due("no more", x.undo(), false);
    }

    private static void latestFirst() {
        LawNumberer x = Check.withTop(2);
        x.error(0, 5, 0);
        x.strike(1);
        x.renumber(0);
        x.error(0, 6, 0);
        x.undo();
        Check.due("the error", Check.labels(x, 0), "1 -");
        x.undo();
        Check.due("the renumbering", Check.labels(x, 0), "5 2");
        Check.due("struck still", x.count(2), 1);
        x.undo();
        Check.due("the strike", x.count(2), 0);
        Check.due("labels still", Check.labels(x, 0), "5 2");
        x.undo();
        Check.due("the first error", Check.labels(x, 0), "1 2");
        x.undo();
        Check.due("the second add", Check.labels(x, 0), "1");
        x.undo();
        Check.due("the first add", x.count(1), 0);
    }

    private static void hundredAtMost() {
        LawNumberer x = Check.withTop(1);
        for (int i = 2; i <= 100; i++) {
            x.error(0, i, 0);
            Check.due("acts", x.count(4), i);
        }
        x.error(0, 101, 0);
        Check.due("not 101", x.count(4), 100);
        for (int i = 0; i < 50; i++) {
            x.error(0, 500 + i, 0);
        }
        Check.due("nor 151", x.count(4), 100);
        for (int i = 0; i < 60; i++) {
            Check.due("undo", x.undo(), true);
        }
        Check.due("40 left", x.count(4), 40);
        Check.due("label then", Check.label(x, 0, 0), "91");
        for (int i = 0; i < 30; i++) {
            x.strike(0);
            x.undo();
        }
        Check.due("40 still", x.count(4), 40);
        for (int i = 0; i < 40; i++) {
            Check.due("undo", x.undo(), true);
        }
        Check.due("none left", x.count(4), 0);
        Check.due("undo", x.undo(), false);
        Check.due("what can't be undone stays", Check.label(x, 0, 0), "51");
        Check.due("so does the ITEM", x.count(1), 1);
    }

    /** Does an ACT, then undoes it: nothing may be another one. */
    private static void undone(LawNumberer x, String what, boolean act) {
        int day = x.count(3);
        String before = Check.labels(x, 0) + "; " + Check.labels(x, 3) + "; " + Check.labels(x, day);
        Check.label(x, 0, 0);
        String state = Check.state(x);
        isAct(x, what, act);
        Check.due("undo of " + what, x.undo(), true);
        Check.due("state behind " + what, Check.state(x), state);
        String behind = Check.labels(x, 0) + "; " + Check.labels(x, 3) + "; " + Check.labels(x, day);
        Check.due("labels behind " + what, behind, before);
    }

    private static LawNumberer withSomePast() {
        LawNumberer x = Check.withTop(2);
        x.wait(3);
        x.add(1, NONE);
        x.error(1, 4, 'B');
        x.wait(4);
        return x;
    }

    private static void asIfItHadNotBeen() {
        for (String what : new String[] {"add", "strike", "renumber", "error"}) {
            LawNumberer x = withSomePast();
            undone(x, what, true);
            undone(x, what, true);
        }
        LawNumberer x = withSomePast();
        x.strike(1);
        x.renumber(0);
        undone(x, "renumber", true);
        undone(x, "strike", true);
        Check.due("the next number is free again", x.add(NONE, 1), 3);
    }

    private static void dayStays() {
        LawNumberer x = Check.withTop(1);
        x.wait(5);
        x.error(0, 9, 0);
        x.wait(5);
        x.undo();
        Check.due("day", x.count(3), 10);
        Check.due("gone from its day", Check.label(x, 0, 5), "1");
        x.error(0, 8, 0);
        Check.due("another one is of the day that it is", Check.label(x, 0, 9), "1");
        Check.due("that day", Check.label(x, 0, 10), "8");
        x.undo();
        x.undo();
        Check.due("all undone", x.count(3), 10);
        x.add(NONE, NONE);
        Check.due("came", x.about(0, 5), 10);
        Check.due("none ahead of that", Check.label(x, 0, 9), "-");
        Check.due("from then on", Check.label(x, 0, 10), "1");
    }

    private static void throwsChangeNothing() {
        LawNumberer x = withSomePast();
        Check.cite(x, "4B", 7);
        Check.read(x, "7Q", 0);
        Check.levels(x, "?");
        Check.feed(x, "12");
        Check.cited(x, 2, 7);
        String state = Check.state(x);
        Check.noSuch("octet behind OUT", () -> x.octet(4));
        Check.noSuch("octet ahead of OUT", () -> x.octet(-1));
        Check.noSuch("about none", () -> x.about(3, 0));
        Check.noSuch("about another what", () -> x.about(0, 6));
        Check.due("state", Check.state(x), state);
        Check.due("labels", Check.labels(x, 7), "1 4B a");
        Check.due("tape", x.read(0), 12);
    }
}
