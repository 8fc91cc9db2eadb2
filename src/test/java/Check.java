import java.nio.charset.StandardCharsets;
import java.util.NoSuchElementException;

/** What the tests share: comparing answers, feeding texts, reading OUT. */
final class Check {
    private static int wrong = 0;

    private Check() {
    }

    static void due(String what, long got, long want) {
        if (got != want) {
            wrong++;
            System.out.println(what + " answered " + got + ", due is " + want);
        }
    }

    static void due(String what, boolean got, boolean want) {
        due(what, got ? 1 : 0, want ? 1 : 0);
    }

    static void due(String what, String got, String want) {
        if (!got.equals(want)) {
            wrong++;
            System.out.println(what + " answered \"" + got + "\", due is \"" + want + "\"");
        }
    }

    static void noSuch(String what, Runnable call) {
        try {
            call.run();
        } catch (NoSuchElementException e) {
            return;
        }
        wrong++;
        System.out.println(what + " threw nothing, due is NoSuchElementException");
    }

    static void finish() {
        System.out.println(wrong == 0 ? "all answers are as due" : wrong + " answers are not as due");
        if (wrong != 0) {
            System.exit(1);
        }
    }

    /** Puts a text behind the tape; the tape must have room for the last twenty bytes, whole. */
    static void feed(LawNumberer x, String text) {
        byte[] bytes = text.getBytes(StandardCharsets.ISO_8859_1);
        int length = x.count(6) + bytes.length;
        for (int from = 0; from < bytes.length; from += 20) {
            int[] n = new int[5];
            for (int i = 0; i < 20; i++) {
                int b = from + i < bytes.length ? bytes[from + i] & 255 : 0;
                n[i / 4] |= b << 24 - 8 * (i % 4);
            }
            x.feed(n[0], n[1], n[2], n[3], n[4]);
        }
        x.end(length);
    }

    static int levels(LawNumberer x, String text) {
        feed(x, text);
        return x.levels();
    }

    static int cite(LawNumberer x, String text, int day) {
        feed(x, text);
        return x.cite(day);
    }

    static int read(LawNumberer x, String text, int form) {
        feed(x, text);
        return x.read(form);
    }

    static String out(LawNumberer x) {
        StringBuilder text = new StringBuilder();
        for (int i = 0; i < x.count(5); i++) {
            text.append((char) x.octet(i));
        }
        return text.toString();
    }

    /** The LABEL of an ITEM as of a DAY, - for none. */
    static String label(LawNumberer x, int k, int day) {
        int length = x.label(k, day);
        if (length == LawNumberer.NONE) {
            return "-";
        }
        due("bytes of OUT", x.count(5), length);
        return out(x);
    }

    static String cited(LawNumberer x, int k, int day) {
        int length = x.cited(k, day);
        if (length == LawNumberer.NONE) {
            return "-";
        }
        due("bytes of OUT", x.count(5), length);
        return out(x);
    }

    /** The ITEMS in the order of the text, a blank between. */
    static String order(LawNumberer x) {
        StringBuilder text = new StringBuilder();
        for (int i = 0; x.at(i) != LawNumberer.NONE; i++) {
            text.append(i == 0 ? "" : " ").append(x.at(i));
        }
        return text.toString();
    }

    static int suffix(String letters) {
        int suffix = 0;
        for (int i = 0; i < letters.length(); i++) {
            suffix = suffix << 8 | letters.charAt(i);
        }
        return suffix;
    }
}
