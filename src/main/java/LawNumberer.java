import java.util.Arrays;
import java.util.NoSuchElementException;

/**
 * A numberer of laws: items in levels, their labels by days, acts that can be undone,
 * and citations led from the day on which they were written to what bears them.
 */
public final class LawNumberer {
    public static final int NONE = -1;

    private static final int REFUSED = -2;
    private static final int FAULTY = -2;
    private static final int NO_DAY = -3;

    private static final int MOST_LEVELS = 4;
    private static final int MOST_ITEMS = 80;
    private static final int MOST_ACTS = 100;
    private static final int MOST_CALLS = 512;
    private static final int MOST_NUMBER = 999;
    private static final int MOST_LETTERS = 4;
    private static final int LAST_DAY = 9999;
    private static final int LONGEST_WAIT = 1000;
    private static final int TEXT_ROOM = 200;
    private static final int FEED_BYTES = 20;

    private static final int NUMBER = 0;
    private static final int ROMAN = 1;
    private static final int LETTER = 2;
    private static final int SMALL = 3;
    private static final int FORMS = 4;

    private static final int NO_FAULT = 0;
    private static final int WRONG_BYTE = 1;
    private static final int WRONG_WORD = 2;
    private static final int FIFTH_FORM = 3;
    private static final int NOT_AS_WRITTEN = 2;

    private static final int ACT_ADD = 1;
    private static final int ACT_STRIKE = 2;
    private static final int ACT_LABELS = 3;

    private final Text tape = new Text();
    private final Text out = new Text();
    private final Levels scheme = new Levels();
    private final Levels told = new Levels();
    private final LevelsReader levelsReader = new LevelsReader();
    private final LabelReader labelReader = new LabelReader();
    private final Items items = new Items();
    private final History history = new History();
    private final Acts acts = new Acts();
    /** The LABELS of one CITATION, by LEVEL. */
    private final int[] path = new int[MOST_LEVELS];

    private int today;
    private int faultKind;
    private int faultPlace;
    private int bearing;
    private int readSuffix;

    public LawNumberer() {
        scheme.forms[0] = NUMBER;
        scheme.forms[1] = LETTER;
        scheme.size = 2;
        faultPlace = NONE;
    }

    public int feed(int a, int b, int c, int d, int e) {
        if (tape.length + FEED_BYTES > TEXT_ROOM) {
            return NONE;
        }
        tape.putFour(a);
        tape.putFour(b);
        tape.putFour(c);
        tape.putFour(d);
        tape.putFour(e);
        return tape.length;
    }

    public boolean end(int n) {
        if (n < 0 || n > tape.length) {
            return false;
        }
        tape.length = n;
        return true;
    }

    public int levels() {
        levelsReader.readInto(told, tape);
        tape.length = 0;
        faultKind = levelsReader.fault;
        faultPlace = levelsReader.faultPlace;
        if (faultKind != NO_FAULT) {
            return -1 - faultPlace;
        }
        scheme.become(told);
        items.clear();
        history.clear();
        acts.clear();
        today = 0;
        return scheme.size;
    }

    public int fault() {
        return faultKind;
    }

    public int add(int up, int behind) {
        if (items.size >= MOST_ITEMS || !isPlaceTold(up, behind)) {
            return NONE;
        }
        int level = up == NONE ? 0 : items.levels[up] + 1;
        int place = placeOfNew(up, behind);
        boolean through = scheme.isThrough(level);
        int above = labelAhead(place, level, up, through);
        int below = labelFrom(place, level, up, through);
        int label = Labels.between(above, below);
        if (label == Labels.NO_LABEL) {
            return REFUSED;
        }
        int k = items.size;
        acts.open(ACT_ADD, k, history.size);
        items.insert(place, level, up, today);
        history.give(k, today, label);
        return k;
    }

    public boolean strike(int k) {
        if (!items.has(k) || items.struck[k]) {
            return false;
        }
        acts.open(ACT_STRIKE, k, history.size);
        items.setStruck(k, true);
        return true;
    }

    public boolean renumber(int k) {
        if (!items.has(k)) {
            return false;
        }
        acts.open(ACT_LABELS, k, history.size);
        boolean through = scheme.isThrough(items.levels[k]);
        int number = 0;
        for (int p = 0; p < items.size; p++) {
            int item = items.order[p];
            if (!items.isInRow(item, items.levels[k], items.under[k], through)) {
                continue;
            }
            if (items.struck[item]) {
                history.give(item, today, Labels.NO_LABEL);
            } else {
                number++;
                history.give(item, today, Labels.plain(number));
            }
        }
        return true;
    }

    public boolean error(int k, int number, int suffix) {
        int label = Labels.withSuffix(Labels.plain(number), suffix);
        if (!items.has(k) || label == Labels.NO_LABEL) {
            return false;
        }
        acts.open(ACT_LABELS, k, history.size);
        history.give(k, today, label);
        return true;
    }

    public boolean undo() {
        int kind = acts.latestKind();
        if (kind == NONE) {
            return false;
        }
        history.cutTo(acts.latestMark());
        if (kind == ACT_ADD) {
            items.dropLast();
        } else if (kind == ACT_STRIKE) {
            items.setStruck(acts.latestItem(), false);
        }
        acts.close();
        return true;
    }

    public boolean wait(int n) {
        if (n < 0 || n > LONGEST_WAIT || today + n > LAST_DAY) {
            return false;
        }
        today += n;
        return true;
    }

    public int about(int k, int what) throws NoSuchElementException {
        if (!items.has(k)) {
            throw new NoSuchElementException("no such item");
        }
        switch (what) {
            case 0:
                return items.levels[k];
            case 1:
                return items.under[k];
            case 2:
                return items.struck[k] ? 1 : 0;
            case 3:
                return items.placeInRow(k, scheme.isThrough(items.levels[k]));
            case 4:
                return items.placeOf(k);
            case 5:
                return items.came[k];
            default:
                throw new NoSuchElementException("nothing such is told of an item");
        }
    }

    public int label(int k, int day) {
        int label = history.asOf(k, day);
        if (!items.has(k) || label == Labels.NO_LABEL) {
            return NONE;
        }
        out.length = 0;
        Forms.writeLabel(out, scheme.formOf(items.levels[k]), label);
        return out.length;
    }

    public int cited(int k, int day) {
        if (!items.has(k)) {
            return NONE;
        }
        int item = k;
        for (int level = items.levels[k]; level >= 0 && items.has(item); level--) {
            path[level] = history.asOf(item, day);
            if (path[level] == Labels.NO_LABEL) {
                return NONE;
            }
            item = items.under[item];
        }
        out.length = 0;
        for (int level = 0; level <= items.levels[k]; level++) {
            if (level > 0) {
                out.put('.');
            }
            Forms.writeLabel(out, scheme.formOf(level), path[level]);
        }
        return out.length;
    }

    public int octet(int k) throws NoSuchElementException {
        if (k < 0 || k >= out.length) {
            throw new NoSuchElementException("no such byte");
        }
        return out.byteAt(k);
    }

    public int cite(int day) {
        faultKind = NO_FAULT;
        faultPlace = NONE;
        if (day < 0) {
            tape.length = 0;
            return NO_DAY;
        }
        int depth = readCitation();
        tape.length = 0;
        if (faultKind != NO_FAULT) {
            return FAULTY;
        }
        bearing = 0;
        int first = NONE;
        for (int p = 0; p < items.size; p++) {
            int item = items.order[p];
            if (items.levels[item] == depth - 1 && bearsPath(item, day)) {
                bearing++;
                first = first == NONE ? item : first;
            }
        }
        return first;
    }

    public int place() {
        return faultPlace;
    }

    public int bearers() {
        return bearing;
    }

    public int read(int form) {
        int number = NONE;
        if (form >= 0 && form < FORMS) {
            labelReader.readAt(tape, 0, form);
            if (labelReader.fault == NO_FAULT && labelReader.behind == tape.length) {
                number = Labels.numberOf(labelReader.label);
                readSuffix = Labels.suffixOf(labelReader.label);
            }
        }
        tape.length = 0;
        return number;
    }

    public int suffix() {
        return readSuffix;
    }

    public int clash() {
        for (int p = 0; p < items.size; p++) {
            int item = items.order[p];
            int level = items.levels[item];
            int label = history.latest(item);
            if (label == Labels.NO_LABEL) {
                continue;
            }
            // NO_LABEL lies below every LABEL, so a first one of its ROW never clashes
            if (label <= labelAhead(p, level, items.under[item], scheme.isThrough(level))) {
                return item;
            }
        }
        return NONE;
    }

    public int at(int i) {
        return i < 0 || i >= items.size ? NONE : items.order[i];
    }

    public int count(int what) {
        switch (what) {
            case 0:
                return scheme.size;
            case 1:
                return items.size;
            case 2:
                return items.struckSize;
            case 3:
                return today;
            case 4:
                return acts.size;
            case 5:
                return out.length;
            case 6:
                return tape.length;
            default:
                return NONE;
        }
    }

    private boolean isPlaceTold(int up, int behind) {
        if (up != NONE && (!items.has(up) || items.levels[up] + 1 >= scheme.size)) {
            return false;
        }
        return behind == NONE || items.has(behind) && items.under[behind] == up;
    }

    private int placeOfNew(int up, int behind) {
        if (behind != NONE) {
            return items.placeBehind(behind);
        }
        return up == NONE ? 0 : items.placeOf(up) + 1;
    }

    /** The LABEL of the nearest one ahead of a place, of a ROW, that has one. */
    private int labelAhead(int place, int level, int up, boolean through) {
        for (int p = place - 1; p >= 0; p--) {
            int item = items.order[p];
            if (items.isInRow(item, level, up, through) && history.latest(item) != Labels.NO_LABEL) {
                return history.latest(item);
            }
        }
        return Labels.NO_LABEL;
    }

    /** The LABEL of the first one from a place on, of a ROW, that has one. */
    private int labelFrom(int place, int level, int up, boolean through) {
        for (int p = place; p < items.size; p++) {
            int item = items.order[p];
            if (items.isInRow(item, level, up, through) && history.latest(item) != Labels.NO_LABEL) {
                return history.latest(item);
            }
        }
        return Labels.NO_LABEL;
    }

    /** Reads the tape into the path: how many LABELS; with a FAULT, it is set. */
    private int readCitation() {
        int from = 0;
        for (int level = 0; level < scheme.size; level++) {
            labelReader.readAt(tape, from, scheme.formOf(level));
            if (labelReader.fault != NO_FAULT) {
                faultKind = labelReader.fault;
                faultPlace = labelReader.faultPlace;
                return 0;
            }
            path[level] = labelReader.label;
            from = labelReader.behind;
            if (from == tape.length) {
                return level + 1;
            }
            if (tape.byteAt(from) != '.' || level + 1 == scheme.size) {
                faultKind = WRONG_BYTE;
                faultPlace = from;
                return 0;
            }
            from++;
        }
        return 0;
    }

    private boolean bearsPath(int item, int day) {
        int bearer = item;
        for (int level = items.levels[item]; level >= 0 && items.has(bearer); level--) {
            if (history.asOf(bearer, day) != path[level]) {
                return false;
            }
            bearer = items.under[bearer];
        }
        return true;
    }

    /** A row of bytes that is used again and again. */
    private static final class Text {
        final int[] bytes = new int[TEXT_ROOM];
        int length;

        void put(int octet) {
            if (length < bytes.length) {
                bytes[length] = octet;
                length++;
            }
        }

        void putFour(int number) {
            put(number >>> 24);
            put(number >>> 16 & 255);
            put(number >>> 8 & 255);
            put(number & 255);
        }

        /** Byte i, NONE beyond the text: no byte is below 0. */
        int byteAt(int i) {
            return i >= 0 && i < length && i < bytes.length ? bytes[i] : NONE;
        }

        boolean isWord(int from, int to, String word) {
            if (to - from != word.length()) {
                return false;
            }
            for (int i = 0; i < word.length(); i++) {
                if (byteAt(from + i) != word.charAt(i)) {
                    return false;
                }
            }
            return true;
        }

        boolean isPart(int from, int to, Text part) {
            if (to - from != part.length) {
                return false;
            }
            for (int i = 0; i < part.length; i++) {
                if (byteAt(from + i) != part.byteAt(i)) {
                    return false;
                }
            }
            return true;
        }
    }

    /** The LEVELS: of each its FORM, and whether its ROW goes through. */
    private static final class Levels {
        final int[] forms = new int[MOST_LEVELS];
        final boolean[] through = new boolean[MOST_LEVELS];
        int size;

        int formOf(int level) {
            return level >= 0 && level < size ? forms[level] : NUMBER;
        }

        boolean isThrough(int level) {
            return level >= 0 && level < size && through[level];
        }

        void become(Levels other) {
            for (int i = 0; i < MOST_LEVELS; i++) {
                forms[i] = other.forms[i];
                through[i] = other.through[i];
            }
            size = other.size;
        }

        void append(int form) {
            if (size < MOST_LEVELS) {
                forms[size] = form;
                through[size] = false;
                size++;
            }
        }

        void makeLastThrough() {
            if (size > 0) {
                through[size - 1] = true;
            }
        }
    }

    /** Reads the text of LEVELS, up to its first FAULT. */
    private static final class LevelsReader {
        private static final int FORM_DUE = 0;
        private static final int BEHIND_FORM = 1;
        private static final int BEHIND_THROUGH = 2;

        int fault;
        int faultPlace;
        private int due;

        void readInto(Levels levels, Text text) {
            levels.size = 0;
            fault = NO_FAULT;
            faultPlace = NONE;
            due = FORM_DUE;
            int from = 0;
            while (from < text.length && fault == NO_FAULT) {
                int sign = text.byteAt(from);
                if (sign == ' ' || sign == '\n') {
                    from++;
                } else if (sign == ';') {
                    takeSemicolon(from);
                    from++;
                } else if (isSmallLetter(sign)) {
                    int to = wordEnd(text, from);
                    takeWord(levels, text, from, to);
                    from = to;
                } else {
                    failAt(from, WRONG_BYTE);
                }
            }
            if (fault == NO_FAULT && (due != FORM_DUE || levels.size == 0)) {
                failAt(text.length, WRONG_WORD);
            }
        }

        private void failAt(int where, int kind) {
            fault = kind;
            faultPlace = where;
        }

        private void takeSemicolon(int from) {
            if (due == FORM_DUE) {
                failAt(from, WRONG_WORD);
            }
            due = FORM_DUE;
        }

        private void takeWord(Levels levels, Text text, int from, int to) {
            if (due == BEHIND_FORM && text.isWord(from, to, "through")) {
                levels.makeLastThrough();
                due = BEHIND_THROUGH;
                return;
            }
            int form = formNamed(text, from, to);
            if (due != FORM_DUE || form == NONE) {
                failAt(from, WRONG_WORD);
            } else if (levels.size == MOST_LEVELS) {
                failAt(from, FIFTH_FORM);
            } else {
                levels.append(form);
                due = BEHIND_FORM;
            }
        }

        private static boolean isSmallLetter(int sign) {
            return sign >= 'a' && sign <= 'z';
        }

        /** Behind the first letter at least, so that the reader always goes on. */
        private static int wordEnd(Text text, int from) {
            int to = from + 1;
            while (to < text.length && isSmallLetter(text.byteAt(to))) {
                to++;
            }
            return to;
        }

        private static int formNamed(Text text, int from, int to) {
            if (text.isWord(from, to, "number")) {
                return NUMBER;
            }
            if (text.isWord(from, to, "roman")) {
                return ROMAN;
            }
            if (text.isWord(from, to, "letter")) {
                return LETTER;
            }
            return text.isWord(from, to, "small") ? SMALL : NONE;
        }
    }

    /**
     * LABELS as numbers that lie in the ORDER of the LABELS: the NUMBER highest,
     * then four letters of five bits each (A is 1), 0 where the SUFFIX has ended.
     */
    private static final class Labels {
        static final int NO_LABEL = 0;
        private static final int LETTER_BITS = 5;
        private static final int LETTER_MASK = 31;
        private static final int SUFFIX_BITS = 20;
        private static final int LAST_LETTER = 26;
        private static final int AHEAD_OF_A = 'A' - 1;

        /** A NUMBER without SUFFIX, NO_LABEL for one that can't be. */
        static int plain(int number) {
            return number < 1 || number > MOST_NUMBER ? NO_LABEL : number << SUFFIX_BITS;
        }

        static int numberOf(int label) {
            return label >> SUFFIX_BITS;
        }

        /** Letter i of the SUFFIX, 1 to 26; 0: it has ended. */
        static int letterOf(int label, int i) {
            return label >> SUFFIX_BITS - LETTER_BITS * (i + 1) & LETTER_MASK;
        }

        private static int setLetter(int label, int i, int letter) {
            int shift = SUFFIX_BITS - LETTER_BITS * (i + 1);
            return label & ~(LETTER_MASK << shift) | letter << shift;
        }

        static int lettersIn(int label) {
            int letters = 0;
            while (letters < MOST_LETTERS && letterOf(label, letters) != 0) {
                letters++;
            }
            return letters;
        }

        /** The SUFFIX as the bytes of a number. */
        static int suffixOf(int label) {
            int suffix = 0;
            for (int i = 0; i < lettersIn(label); i++) {
                suffix = suffix << 8 | AHEAD_OF_A + letterOf(label, i);
            }
            return suffix;
        }

        /** A plain LABEL with a SUFFIX told as the bytes of a number; NO_LABEL: it is not as told. */
        static int withSuffix(int plain, int suffix) {
            if (plain == NO_LABEL) {
                return NO_LABEL;
            }
            int label = plain;
            int letters = 0;
            for (int shift = 24; shift >= 0; shift -= 8) {
                int sign = suffix >>> shift & 255;
                if (sign == 0 && letters == 0) {
                    continue;
                }
                if (sign < 'A' || sign > 'Z') {
                    return NO_LABEL;
                }
                label = setLetter(label, letters, sign - AHEAD_OF_A);
                letters++;
            }
            return label;
        }

        /** The LABEL of a new ITEM between two others (NO_LABEL: none there); NO_LABEL: it is refused. */
        static int between(int above, int below) {
            if (below == NO_LABEL) {
                return plain(numberOf(above) + 1);
            }
            for (int letters = 0; letters <= MOST_LETTERS; letters++) {
                int least = leastAbove(above, letters);
                if (least != NO_LABEL && least < below) {
                    return least;
                }
            }
            return NO_LABEL;
        }

        /** The least LABEL above another one (NO_LABEL: of all) whose SUFFIX has so many letters. */
        private static int leastAbove(int above, int letters) {
            int have = lettersIn(above);
            if (above == NO_LABEL) {
                return fillWithA(plain(1), 0, letters);
            }
            if (have < letters) {
                return fillWithA(above, have, letters);
            }
            int label = above;
            for (int i = letters; i < MOST_LETTERS; i++) {
                label = setLetter(label, i, 0);
            }
            for (int i = letters - 1; i >= 0; i--) {
                int letter = letterOf(label, i);
                if (letter < LAST_LETTER) {
                    return fillWithA(setLetter(label, i, letter + 1), i + 1, letters);
                }
            }
            int next = plain(numberOf(above) + 1);
            return next == NO_LABEL ? NO_LABEL : fillWithA(next, 0, letters);
        }

        private static int fillWithA(int label, int from, int to) {
            int filled = label;
            for (int i = from; i < to; i++) {
                filled = setLetter(filled, i, 1);
            }
            return filled;
        }
    }

    /** NUMBERS in the FORMS, both ways, and LABELS as they are WRITTEN. */
    private static final class Forms {
        private static final int[] STEPS = {900, 500, 400, 100, 90, 50, 40, 10, 9, 5, 4, 1};
        private static final char[] FIRST_SIGNS = {'C', 'D', 'C', 'C', 'X', 'L', 'X', 'X', 'I', 'V', 'I', 'I'};
        private static final char[] SECOND_SIGNS = {'M', 0, 'D', 0, 'C', 0, 'L', 0, 'X', 0, 'V', 0};
        private static final int TO_SMALL = 'a' - 'A';

        static void writeLabel(Text text, int form, int label) {
            int number = Labels.numberOf(label);
            switch (form) {
                case ROMAN:
                    writeRoman(text, number, 0);
                    break;
                case LETTER:
                    writeLetters(text, number);
                    break;
                case SMALL:
                    writeRoman(text, number, TO_SMALL);
                    break;
                default:
                    writeDigits(text, number);
                    break;
            }
            int letters = Labels.lettersIn(label);
            if (letters > 0 && form != NUMBER) {
                text.put('-');
            }
            for (int i = 0; i < letters; i++) {
                text.put('A' - 1 + Labels.letterOf(label, i));
            }
        }

        private static void writeDigits(Text text, int number) {
            if (number >= 100) {
                text.put('0' + number / 100);
            }
            if (number >= 10) {
                text.put('0' + number / 10 % 10);
            }
            text.put('0' + number % 10);
        }

        private static void writeRoman(Text text, int number, int lift) {
            int left = number;
            for (int i = 0; i < STEPS.length; i++) {
                while (left >= STEPS[i]) {
                    left -= STEPS[i];
                    text.put(FIRST_SIGNS[i] + lift);
                    if (SECOND_SIGNS[i] != 0) {
                        text.put(SECOND_SIGNS[i] + lift);
                    }
                }
            }
        }

        private static void writeLetters(Text text, int number) {
            // what the letters ahead of the last one mean: up to 38, so that there are two at most
            int ahead = (number - 1) / 26;
            if (ahead > 26) {
                text.put('a' - 1 + (ahead - 1) / 26);
            }
            if (ahead > 0) {
                text.put('a' + (ahead - 1) % 26);
            }
            text.put('a' + (number - 1) % 26);
        }

        static boolean isNumeral(int form, int sign) {
            switch (form) {
                case ROMAN:
                    return romanWorth(sign) > 0;
                case LETTER:
                    return sign >= 'a' && sign <= 'z';
                case SMALL:
                    return romanWorth(sign - TO_SMALL) > 0;
                default:
                    return sign >= '0' && sign <= '9';
            }
        }

        private static int romanWorth(int sign) {
            switch (sign) {
                case 'I':
                    return 1;
                case 'V':
                    return 5;
                case 'X':
                    return 10;
                case 'L':
                    return 50;
                case 'C':
                    return 100;
                case 'D':
                    return 500;
                case 'M':
                    return 1000;
                default:
                    return 0;
            }
        }

        /** What numerals mean, written well or not; some number above 999 for all that lie there. */
        static int numberIn(Text text, int from, int to, int form) {
            switch (form) {
                case ROMAN:
                    return romanIn(text, from, to, 0);
                case LETTER:
                    return placesIn(text, from, to, 26, 'a' - 1);
                case SMALL:
                    return romanIn(text, from, to, TO_SMALL);
                default:
                    return placesIn(text, from, to, 10, '0');
            }
        }

        private static int placesIn(Text text, int from, int to, int base, int zero) {
            int number = 0;
            for (int i = from; i < to && number <= MOST_NUMBER; i++) {
                number = number * base + text.byteAt(i) - zero;
            }
            return number;
        }

        private static int romanIn(Text text, int from, int to, int lift) {
            int number = 0;
            for (int i = from; i < to; i++) {
                int worth = romanWorth(text.byteAt(i) - lift);
                int next = i + 1 < to ? romanWorth(text.byteAt(i + 1) - lift) : 0;
                number += worth < next ? -worth : worth;
            }
            return number;
        }
    }

    /** Reads one LABEL out of a text. */
    private static final class LabelReader {
        int label;
        int behind;
        int fault;
        int faultPlace;
        private final Text written = new Text();

        /** Sets the LABEL and the place behind it, or the FAULT and its place. */
        void readAt(Text text, int from, int form) {
            fault = NO_FAULT;
            faultPlace = NONE;
            label = Labels.NO_LABEL;
            int numerals = numeralsEnd(text, from, form);
            if (numerals == from) {
                failAt(from, WRONG_BYTE);
                return;
            }
            boolean dash = form != NUMBER && text.byteAt(numerals) == '-';
            int letters = dash ? numerals + 1 : numerals;
            behind = letters;
            if (dash || form == NUMBER) {
                behind = capitalsEnd(text, letters);
            }
            if (dash && behind == letters) {
                failAt(letters, WRONG_BYTE);
                return;
            }
            label = meant(text, letters, Forms.numberIn(text, from, numerals, form));
            if (label == Labels.NO_LABEL || !isAsWritten(text, from, form)) {
                failAt(from, NOT_AS_WRITTEN);
            }
        }

        private boolean isAsWritten(Text text, int from, int form) {
            written.length = 0;
            Forms.writeLabel(written, form, label);
            return text.isPart(from, behind, written);
        }

        private void failAt(int where, int kind) {
            fault = kind;
            faultPlace = where;
        }

        /** The LABEL that a NUMBER and the letters up to the place behind mean; NO_LABEL: none. */
        private int meant(Text text, int letters, int number) {
            if (behind - letters > MOST_LETTERS) {
                return Labels.NO_LABEL;
            }
            int suffix = 0;
            for (int i = letters; i < behind; i++) {
                suffix = suffix << 8 | text.byteAt(i);
            }
            return Labels.withSuffix(Labels.plain(number), suffix);
        }

        private static int numeralsEnd(Text text, int from, int form) {
            int to = from;
            while (to < text.length && Forms.isNumeral(form, text.byteAt(to))) {
                to++;
            }
            return to;
        }

        private static int capitalsEnd(Text text, int from) {
            int to = from;
            while (to < text.length && text.byteAt(to) >= 'A' && text.byteAt(to) <= 'Z') {
                to++;
            }
            return to;
        }
    }

    /** The ITEMS and the order of the text; an ITEM's number is its place in these rows. */
    private static final class Items {
        final int[] levels = new int[MOST_ITEMS];
        final int[] under = new int[MOST_ITEMS];
        final int[] came = new int[MOST_ITEMS];
        final boolean[] struck = new boolean[MOST_ITEMS];
        final int[] order = new int[MOST_ITEMS];
        int size;
        int struckSize;

        void clear() {
            size = 0;
            struckSize = 0;
        }

        boolean has(int k) {
            return k >= 0 && k < size;
        }

        /** Whether an ITEM is in the ROW of those of a LEVEL that lie UNDER one, or of all of the LEVEL. */
        boolean isInRow(int k, int level, int up, boolean through) {
            return has(k) && levels[k] == level && (through || under[k] == up);
        }

        int placeOf(int k) {
            for (int p = 0; p < size; p++) {
                if (order[p] == k) {
                    return p;
                }
            }
            return NONE;
        }

        int placeInRow(int k, boolean through) {
            int ahead = 0;
            int place = placeOf(k);
            for (int p = 0; p < place; p++) {
                if (isInRow(order[p], levels[k], under[k], through)) {
                    ahead++;
                }
            }
            return ahead;
        }

        /** The place behind an ITEM and all that lie UNDER it. */
        int placeBehind(int k) {
            int place = placeOf(k) + 1;
            while (place < size && levels[order[place]] > levels[k]) {
                place++;
            }
            return place;
        }

        void insert(int place, int level, int up, int day) {
            if (size >= MOST_ITEMS || place < 0 || place > size) {
                return;
            }
            System.arraycopy(order, place, order, place + 1, size - place);
            order[place] = size;
            levels[size] = level;
            under[size] = up;
            came[size] = day;
            struck[size] = false;
            size++;
        }

        void dropLast() {
            int place = placeOf(size - 1);
            if (place == NONE) {
                return;
            }
            System.arraycopy(order, place + 1, order, place, size - place - 1);
            size--;
        }

        void setStruck(int k, boolean now) {
            if (has(k) && struck[k] != now) {
                struck[k] = now;
                struckSize += now ? 1 : -1;
            }
        }
    }

    /**
     * Which LABEL was given to which ITEM on which DAY, in the order of the ACTS.
     * Each gift knows the one ahead of it of the same ITEM, so that the latest can be taken back.
     */
    private static final class History {
        private static final int FIRST_ROOM = 256;
        private static final int MOST_GIFTS = MOST_CALLS * MOST_ITEMS;

        private int[] givenTo = new int[FIRST_ROOM];
        private int[] days = new int[FIRST_ROOM];
        private int[] labels = new int[FIRST_ROOM];
        private int[] earlier = new int[FIRST_ROOM];
        private final int[] last = new int[MOST_ITEMS];
        int size;

        History() {
            Arrays.fill(last, NONE);
        }

        void clear() {
            Arrays.fill(last, NONE);
            size = 0;
        }

        int latest(int k) {
            return k >= 0 && k < MOST_ITEMS && last[k] >= 0 ? labels[last[k]] : Labels.NO_LABEL;
        }

        int asOf(int k, int day) {
            int gift = k >= 0 && k < MOST_ITEMS ? last[k] : NONE;
            while (gift >= 0 && days[gift] > day) {
                // an earlier gift lies lower: that ends the way back
                gift = earlier[gift] < gift ? earlier[gift] : NONE;
            }
            return gift >= 0 ? labels[gift] : Labels.NO_LABEL;
        }

        /** What an ITEM has already is not given anew: it would change no answer. */
        void give(int k, int day, int label) {
            if (k < 0 || k >= MOST_ITEMS || latest(k) == label || !hasRoom()) {
                return;
            }
            givenTo[size] = k;
            days[size] = day;
            labels[size] = label;
            earlier[size] = last[k];
            last[k] = size;
            size++;
        }

        void cutTo(int mark) {
            while (size > mark && size > 0) {
                size--;
                last[givenTo[size]] = earlier[size];
            }
        }

        /** Room for one more; it ends behind what the calls of an object can fill. */
        private boolean hasRoom() {
            if (size < days.length) {
                return true;
            }
            if (size >= MOST_GIFTS) {
                return false;
            }
            int room = Math.min(size * 2, MOST_GIFTS);
            givenTo = Arrays.copyOf(givenTo, room);
            days = Arrays.copyOf(days, room);
            labels = Arrays.copyOf(labels, room);
            earlier = Arrays.copyOf(earlier, room);
            return true;
        }
    }

    /** The latest ACTS in a ring: their kind, their ITEM, and how long the history was ahead of them. */
    private static final class Acts {
        private final int[] kinds = new int[MOST_ACTS];
        private final int[] actItems = new int[MOST_ACTS];
        private final int[] marks = new int[MOST_ACTS];
        private int next;
        int size;

        void clear() {
            next = 0;
            size = 0;
        }

        void open(int kind, int item, int mark) {
            kinds[next] = kind;
            actItems[next] = item;
            marks[next] = mark;
            next = next + 1 < MOST_ACTS ? next + 1 : 0;
            size = Math.min(size + 1, MOST_ACTS);
        }

        private int latestSlot() {
            return next > 0 ? next - 1 : MOST_ACTS - 1;
        }

        int latestKind() {
            return size > 0 ? kinds[latestSlot()] : NONE;
        }

        int latestItem() {
            return actItems[latestSlot()];
        }

        int latestMark() {
            return marks[latestSlot()];
        }

        void close() {
            if (size > 0) {
                next = latestSlot();
                size--;
            }
        }
    }
}
