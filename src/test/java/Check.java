import java.nio.charset.StandardCharsets;
import java.util.NoSuchElementException;

/** What the tests share: comparing answers, feeding texts, reading OUT, objects to begin with. */
final class Check {
    private static int wrong = 0;
    private static String sentence = "";

    private Check() {
    }

    /** Runs the test of one sentence of the document; what fails in it is told with its words. */
    static void sentence(String words, Runnable test) {
        sentence = words + ": ";
        test.run();
        sentence = "";
    }

    static void due(String what, long got, long want) {
        if (got != want) {
            wrong++;
            System.out.println(sentence + what + " answered " + got + ", due is " + want);
        }
    }

    static void due(String what, boolean got, boolean want) {
        due(what, got ? 1 : 0, want ? 1 : 0);
    }

    static void due(String what, String got, String want) {
        if (!got.equals(want)) {
            wrong++;
            System.out.println(sentence + what + " answered \"" + got + "\", due is \"" + want + "\"");
        }
    }

    static void noSuch(String what, Runnable call) {
        try {
            call.run();
        } catch (NoSuchElementException e) {
            return;
        }
        wrong++;
        System.out.println(sentence + what + " threw nothing, due is NoSuchElementException");
    }

    static void finish() {
        System.out.println(wrong == 0 ? "all answers are as due" : wrong + " answers are not as due");
        if (wrong != 0) {
            System.exit(1);
        }
    }

    /** A new object with LEVELS of its own. */
    static LawNumberer with(String levels) {
        LawNumberer x = new LawNumberer();
        due("levels of " + levels, levels(x, levels) > 0, true);
        return x;
    }

    /** A new object with n ITEMS at the top: 0 .. n - 1. */
    static LawNumberer withTop(int n) {
        LawNumberer x = new LawNumberer();
        addTop(x, n);
        return x;
    }

    /** A new object with ITEMS at the top that have these LABELS. */
    static LawNumberer withLabels(String... labels) {
        LawNumberer x = withTop(labels.length);
        for (int k = 0; k < labels.length; k++) {
            due("error " + labels[k], error(x, k, labels[k]), true);
        }
        return x;
    }

    static void addTop(LawNumberer x, int n) {
        for (int i = 0; i < n; i++) {
            due("add " + i, x.add(LawNumberer.NONE, i - 1), i);
        }
    }

    /** An ERROR of a LABEL as the FORM number writes it. */
    static boolean error(LawNumberer x, int k, String label) {
        int letters = 0;
        while (letters < label.length() && Character.isDigit(label.charAt(letters))) {
            letters++;
        }
        int number = Integer.parseInt(label.substring(0, letters));
        return x.error(k, number, suffix(label.substring(letters)));
    }

    /** A text that is not LEVELS, told to a new object: its FAULT, and that nothing else comes of it. */
    static void levelsFault(String text, int kind, int place) {
        LawNumberer x = new LawNumberer();
        due("levels of \"" + text + "\"", levels(x, text), -1 - place);
        due("fault of \"" + text + "\"", x.fault(), kind);
        due("place in \"" + text + "\"", x.place(), place);
        due("tape behind \"" + text + "\"", x.count(6), 0);
        due("levels behind \"" + text + "\"", x.count(0), 2);
    }

    /** Puts a text behind the tape; the tape must have room for the last twenty bytes, whole. */
    static void feed(LawNumberer x, String text) {
        byte[] bytes = text.getBytes(StandardCharsets.ISO_8859_1);
        int length = x.count(6) + bytes.length;
        for (int from = 0; from < bytes.length; from += 20) {
            int[] n = new int[5];
            for (int i = 0; i < 20; i++) {
                int b = from + i < bytes.length ? bytes[from + i] & 255 : 0;
                n[i / 4] |= b << 24 - 8 * (i % 4);
            }
            x.feed(n[0], n[1], n[2], n[3], n[4]);
        }
        x.end(length);
    }

    static int levels(LawNumberer x, String text) {
        feed(x, text);
        return x.levels();
    }

    static int cite(LawNumberer x, String text, int day) {
        feed(x, text);
        return x.cite(day);
    }

    static int read(LawNumberer x, String text, int form) {
        feed(x, text);
        return x.read(form);
    }

    static String out(LawNumberer x) {
        StringBuilder text = new StringBuilder();
        int length = x.count(5);
        for (int i = 0; i < length; i++) {
            text.append((char) x.octet(i));
        }
        return text.toString();
    }

    /** The LABEL of an ITEM as of a DAY, - for none. */
    static String label(LawNumberer x, int k, int day) {
        return written(x, x.label(k, day));
    }

    static String cited(LawNumberer x, int k, int day) {
        return written(x, x.cited(k, day));
    }

    private static String written(LawNumberer x, int length) {
        if (length == LawNumberer.NONE) {
            return "-";
        }
        String text = out(x);
        due("bytes of OUT", text.length(), length);
        return text;
    }

    /** The LABELS of the ITEMS 0, 1, .. as of a DAY, a blank between, - for none; OUT is another one then. */
    static String labels(LawNumberer x, int day) {
        StringBuilder text = new StringBuilder();
        int items = x.count(1);
        for (int k = 0; k < items; k++) {
            text.append(k == 0 ? "" : " ").append(label(x, k, day));
        }
        return text.toString();
    }

    /** The ITEMS in the order of the text, a blank between. */
    static String order(LawNumberer x) {
        StringBuilder text = new StringBuilder();
        int items = x.count(1);
        for (int i = 0; i < items; i++) {
            text.append(i == 0 ? "" : " ").append(x.at(i));
        }
        due("at behind the last place", x.at(items), LawNumberer.NONE);
        return text.toString();
    }

    /** All that can be asked of an object without changing its OUT or its tape. */
    static String state(LawNumberer x) {
        StringBuilder text = new StringBuilder("counts");
        for (int what = 0; what <= 6; what++) {
            text.append(' ').append(x.count(what));
        }
        text.append(" fault ").append(x.fault()).append(" at ").append(x.place());
        text.append(" bearers ").append(x.bearers()).append(" suffix ").append(x.suffix());
        text.append(" clash ").append(x.clash()).append(" out ").append(out(x)).append(items(x));
        return text.toString();
    }

    /** All about the ITEMS, but for their LABELS. */
    static String items(LawNumberer x) {
        StringBuilder text = new StringBuilder(" order ").append(order(x));
        int items = x.count(1);
        for (int k = 0; k < items; k++) {
            text.append(" item");
            for (int what = 0; what <= 5; what++) {
                text.append(' ').append(x.about(k, what));
            }
        }
        return text.toString();
    }

    /** A NUMBER from 1 to 999 in the FORM roman, by its digits. */
    static String roman(int number) {
        String[] hundreds = {"", "C", "CC", "CCC", "CD", "D", "DC", "DCC", "DCCC", "CM"};
        String[] tens = {"", "X", "XX", "XXX", "XL", "L", "LX", "LXX", "LXXX", "XC"};
        String[] ones = {"", "I", "II", "III", "IV", "V", "VI", "VII", "VIII", "IX"};
        return hundreds[number / 100] + tens[number / 10 % 10] + ones[number % 10];
    }

    static int suffix(String letters) {
        int suffix = 0;
        for (int i = 0; i < letters.length(); i++) {
            suffix = suffix << 8 | letters.charAt(i);
        }
        return suffix;
    }
}
