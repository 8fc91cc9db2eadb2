import java.nio.charset.StandardCharsets;
import java.util.ArrayDeque;
import java.util.ArrayList;
import java.util.List;
import java.util.Map;
import java.util.NoSuchElementException;
import java.util.TreeMap;
import java.util.regex.Matcher;
import java.util.regex.Pattern;

/**
 * Long runs of calls with made-up arguments (from fixed seeds), each answer beside that of a
 * slow and plain model that keeps a whole copy of its state for every act and tries all labels.
 */
public final class RandomRunsTest {
    private static final int RUNS = 40;
    private static final int CALLS = 512;

    public static void main(String[] args) {
        int wrong = 0;
        for (int seed = 1; seed <= RUNS && wrong < 5; seed++) {
            wrong += new Run(seed).go() ? 0 : 1;
        }
        System.out.println(wrong == 0 ? "all runs are as the model" : wrong + " runs are not as the model");
        if (wrong != 0) {
            System.exit(1);
        }
    }

    private record Label(int number, String suffix) implements Comparable<Label> {
        @Override
        public int compareTo(Label o) {
            return number != o.number ? Integer.compare(number, o.number) : suffix.compareTo(o.suffix);
        }

        String written(String form) {
            return head(form, number) + (suffix.isEmpty() || form.equals("number") ? "" : "-") + suffix;
        }
    }

    private static String head(String form, int number) {
        switch (form) {
            case "number":
                return Integer.toString(number);
            case "letter":
                return letters(number);
            case "roman":
                return Check.roman(number);
            default:
                return Check.roman(number).toLowerCase();
        }
    }

    private static String letters(int number) {
        String text = "";
        for (int n = number; n > 0; n = (n - 1) / 26) {
            text = (char) ('a' + (n - 1) % 26) + text;
        }
        return text;
    }

    private static final List<String> FORMS = List.of("number", "roman", "letter", "small");
    private static final List<Map<String, Integer>> HEADS = heads();
    private static final Pattern[] HEAD = {Pattern.compile("[0-9]+"), Pattern.compile("[IVXLCDM]+"),
        Pattern.compile("[a-z]+"), Pattern.compile("[ivxlcdm]+")};
    private static final Pattern CAPITALS = Pattern.compile("[A-Z]+");
    private static final Pattern TOKEN = Pattern.compile("[ \\n]+|[a-z]+|;|.", Pattern.DOTALL);

    private static List<Map<String, Integer>> heads() {
        List<Map<String, Integer>> all = new ArrayList<>();
        for (String form : FORMS) {
            Map<String, Integer> heads = new TreeMap<>();
            for (int n = 1; n <= 999; n++) {
                heads.put(head(form, n), n);
            }
            all.add(heads);
        }
        return all;
    }

    private static final class Node {
        Node up;
        int number;
        int came;
        boolean struck;
        final List<Node> kids = new ArrayList<>();
        /** By days; null is no label. */
        final TreeMap<Integer, Label> labels = new TreeMap<>();

        int level() {
            return up == null ? -1 : up.level() + 1;
        }

        Label asOf(int day) {
            Map.Entry<Integer, Label> entry = labels.floorEntry(day);
            return entry == null ? null : entry.getValue();
        }

        Label now() {
            return labels.isEmpty() ? null : labels.lastEntry().getValue();
        }

        Node copy(Node newUp) {
            Node node = new Node();
            node.up = newUp;
            node.number = number;
            node.came = came;
            node.struck = struck;
            node.labels.putAll(labels);
            for (Node kid : kids) {
                node.kids.add(kid.copy(node));
            }
            return node;
        }

        void collect(List<Node> all) {
            if (up != null) {
                all.add(this);
            }
            for (Node kid : kids) {
                kid.collect(all);
            }
        }
    }

    private static final class Model {
        List<String> forms = List.of("number", "letter");
        List<Boolean> through = List.of(false, false);
        Node root = new Node();
        final ArrayDeque<Node> copies = new ArrayDeque<>();
        int day;
        int fault;
        int place = -1;
        int bearers;
        int suffix;
        String out = "";
        String tape = "";

        List<Node> text() {
            List<Node> all = new ArrayList<>();
            root.collect(all);
            return all;
        }

        Node item(int k) {
            for (Node node : text()) {
                if (node.number == k) {
                    return node;
                }
            }
            return null;
        }

        List<Node> row(Node of) {
            List<Node> row = new ArrayList<>();
            for (Node node : text()) {
                if (node.level() == of.level() && (node.up == of.up || through.get(of.level()))) {
                    row.add(node);
                }
            }
            return row;
        }

        void keep() {
            copies.addLast(root.copy(null));
            if (copies.size() > 100) {
                copies.removeFirst();
            }
        }

        int levels() {
            String read = tape;
            tape = "";
            List<String> newForms = new ArrayList<>();
            List<Boolean> newThrough = new ArrayList<>();
            fault = 0;
            place = -1;
            String last = ";";
            Matcher token = TOKEN.matcher(read);
            while (token.find()) {
                String word = token.group();
                char first = word.charAt(0);
                if (first == ' ' || first == '\n') {
                    continue;
                }
                boolean isWord = first >= 'a' && first <= 'z';
                int kind = 0;
                if (!isWord && first != ';') {
                    kind = 1;
                } else if (last.equals(";")) {
                    kind = !FORMS.contains(word) ? 2 : newForms.size() == 4 ? 3 : 0;
                } else if (last.equals("through")) {
                    kind = word.equals(";") ? 0 : 2;
                } else {
                    kind = word.equals(";") || word.equals("through") ? 0 : 2;
                }
                if (kind != 0) {
                    fault = kind;
                    place = token.start();
                    return -1 - place;
                }
                if (FORMS.contains(word)) {
                    newForms.add(word);
                    newThrough.add(false);
                } else if (word.equals("through")) {
                    newThrough.set(newThrough.size() - 1, true);
                }
                last = word;
            }
            if (!last.equals(";") || newForms.isEmpty()) {
                fault = 2;
                place = read.length();
                return -1 - place;
            }
            forms = newForms;
            through = newThrough;
            root = new Node();
            copies.clear();
            day = 0;
            return forms.size();
        }

        int add(int up, int behind) {
            Node parent = up == -1 ? root : item(up);
            List<Node> all = text();
            if (all.size() == 80 || parent == null || parent.level() + 1 == forms.size()) {
                return -1;
            }
            int place = 0;
            if (behind != -1) {
                Node ahead = item(behind);
                if (ahead == null || ahead.up != parent) {
                    return -1;
                }
                place = parent.kids.indexOf(ahead) + 1;
            }
            Node node = new Node();
            node.up = parent;
            node.number = all.size();
            node.came = day;
            parent.kids.add(place, node);
            Label label = labelOfNew(node);
            parent.kids.remove(place);
            if (label == null) {
                return -2;
            }
            keep();
            node.labels.put(day, label);
            parent.kids.add(place, node);
            return node.number;
        }

        Label labelOfNew(Node node) {
            List<Node> row = row(node);
            int at = row.indexOf(node);
            Label above = null;
            for (int i = at - 1; i >= 0 && above == null; i--) {
                above = row.get(i).now();
            }
            Label below = null;
            for (int i = at + 1; i < row.size() && below == null; i++) {
                below = row.get(i).now();
            }
            if (below == null) {
                int number = above == null ? 1 : above.number + 1;
                return number > 999 ? null : new Label(number, "");
            }
            int first = above == null ? 1 : above.number;
            for (int letters = 0; letters <= 4; letters++) {
                for (int number = first; number <= Math.min(first + 1, 999); number++) {
                    int many = 1;
                    for (int i = 0; i < letters; i++) {
                        many *= 26;
                    }
                    if (new Label(number, "").compareTo(below) > 0) {
                        continue;
                    }
                    for (int i = 0; i < many; i++) {
                        Label label = new Label(number, suffixOf(i, letters));
                        if ((above == null || label.compareTo(above) > 0) && label.compareTo(below) < 0) {
                            return label;
                        }
                    }
                }
            }
            return null;
        }

        static String suffixOf(int i, int letters) {
            char[] signs = new char[letters];
            int left = i;
            for (int p = letters - 1; p >= 0; p--) {
                signs[p] = (char) ('A' + left % 26);
                left /= 26;
            }
            return new String(signs);
        }

        boolean strike(int k) {
            if (item(k) == null || item(k).struck) {
                return false;
            }
            keep();
            item(k).struck = true;
            return true;
        }

        boolean renumber(int k) {
            if (item(k) == null) {
                return false;
            }
            keep();
            int number = 0;
            for (Node node : row(item(k))) {
                node.labels.put(day, node.struck ? null : new Label(++number, ""));
            }
            return true;
        }

        boolean error(int k, int number, int suffix) {
            String letters = "";
            boolean zero = true;
            for (byte b : new byte[] {(byte) (suffix >> 24), (byte) (suffix >> 16), (byte) (suffix >> 8), (byte) suffix}) {
                zero &= b == 0;
                letters += zero ? "" : (char) (b & 255);
            }
            if (item(k) == null || number < 1 || number > 999 || !letters.matches("[A-Z]{0,4}")) {
                return false;
            }
            keep();
            item(k).labels.put(day, new Label(number, letters));
            return true;
        }

        boolean undo() {
            if (copies.isEmpty()) {
                return false;
            }
            root = copies.removeLast();
            return true;
        }

        boolean waits(int n) {
            if (n < 0 || n > 1000 || day + n > 9999) {
                return false;
            }
            day += n;
            return true;
        }

        int about(int k, int what) {
            Node node = item(k);
            if (node == null || what < 0 || what > 5) {
                return Integer.MIN_VALUE;
            }
            int[] all = {node.level(), node.up == root ? -1 : node.up.number, node.struck ? 1 : 0,
                row(node).indexOf(node), text().indexOf(node), node.came};
            return all[what];
        }

        int label(int k, int as) {
            Node node = item(k);
            if (node == null || node.asOf(as) == null) {
                return -1;
            }
            out = node.asOf(as).written(forms.get(node.level()));
            return out.length();
        }

        String citation(int k, int as) {
            String text = null;
            for (Node node = item(k); node != null && node != root; node = node.up) {
                if (node.asOf(as) == null) {
                    return null;
                }
                String label = node.asOf(as).written(forms.get(node.level()));
                text = text == null ? label : label + "." + text;
            }
            return text;
        }

        int cited(int k, int as) {
            String text = citation(k, as);
            if (text == null) {
                return -1;
            }
            out = text;
            return out.length();
        }

        int cite(int as) {
            String read = tape;
            tape = "";
            fault = 0;
            place = -1;
            if (as < 0) {
                return -3;
            }
            int depth = 0;
            int at = 0;
            while (fault == 0) {
                Object got = lex(read, at, FORMS.indexOf(forms.get(depth)));
                if (!(got instanceof String)) {
                    fault = ((int[]) got)[0];
                    place = ((int[]) got)[1];
                    break;
                }
                at += ((String) got).length();
                depth++;
                if (at == read.length()) {
                    break;
                }
                if (read.charAt(at) != '.' || depth == forms.size()) {
                    fault = 1;
                    place = at;
                }
                at++;
            }
            if (fault != 0) {
                return -2;
            }
            bearers = 0;
            int first = -1;
            for (Node node : text()) {
                if (node.level() == depth - 1 && read.equals(citation(node.number, as))) {
                    bearers++;
                    first = first == -1 ? node.number : first;
                }
            }
            return first;
        }

        /** The label at a place as it is written, or a fault and its place. */
        static Object lex(String text, int at, int form) {
            Matcher head = HEAD[form].matcher(text).region(at, text.length());
            if (!head.lookingAt()) {
                return new int[] {1, at};
            }
            int end = head.end();
            boolean dash = form != 0 && text.startsWith("-", end);
            if (dash) {
                end++;
            }
            String suffix = "";
            if (dash || form == 0) {
                Matcher capitals = CAPITALS.matcher(text).region(end, text.length());
                suffix = capitals.lookingAt() ? capitals.group() : "";
                end += suffix.length();
                if (dash && suffix.isEmpty()) {
                    return new int[] {1, end};
                }
            }
            if (!HEADS.get(form).containsKey(head.group()) || suffix.length() > 4) {
                return new int[] {2, at};
            }
            return text.substring(at, end);
        }

        int read(int form) {
            String read = tape;
            tape = "";
            if (form < 0 || form > 3 || !(lex(read, 0, form) instanceof String label) || !label.equals(read)) {
                return -1;
            }
            int end = read.length();
            while (end > 0 && read.charAt(end - 1) >= 'A' && read.charAt(end - 1) <= 'Z' && (form != 1 || read.contains("-"))) {
                end--;
            }
            suffix = Check.suffix(read.substring(end));
            return HEADS.get(form).get(read.substring(0, end).replace("-", ""));
        }

        int clash() {
            for (Node node : text()) {
                List<Node> row = row(node);
                Label ahead = null;
                for (int i = row.indexOf(node) - 1; i >= 0 && ahead == null; i--) {
                    ahead = row.get(i).now();
                }
                if (node.now() != null && ahead != null && node.now().compareTo(ahead) <= 0) {
                    return node.number;
                }
            }
            return -1;
        }

        int count(int what) {
            int struck = 0;
            for (Node node : text()) {
                struck += node.struck ? 1 : 0;
            }
            int[] all = {forms.size(), text().size(), struck, day, copies.size(), out.length(), tape.length()};
            return what < 0 || what > 6 ? -1 : all[what];
        }
    }

    private static final class Run {
        final int seed;
        long chance;
        final LawNumberer x = new LawNumberer();
        final Model m = new Model();
        String call = "";
        boolean right = true;
        int calls = 0;
        int style;

        Run(int seed) {
            this.seed = seed;
            chance = seed * 0x9E3779B97F4A7C15L;
            style = any(4);
        }

        int any(int below) {
            chance = chance * 6364136223846793005L + 1442695040888963407L;
            return (int) ((chance >>> 33) % below);
        }

        void same(String what, int got, int want) {
            if (got != want && right) {
                right = false;
                System.out.println("seed " + seed + ", call " + calls + ", " + what + " answered " + got + ", the model " + want);
            }
        }

        void same(String what, boolean got, boolean want) {
            same(what, got ? 1 : 0, want ? 1 : 0);
        }

        boolean go() {
            if (any(3) > 0) {
                told(levelsText());
                same("levels", x.levels(), m.levels());
            }
            for (calls = 1; calls <= CALLS && right; calls++) {
                act(any(100));
                for (int what = 0; what <= 6; what++) {
                    same("count " + what, x.count(what), m.count(what));
                }
                same("fault", x.fault(), m.fault);
                same("place", x.place(), m.place);
                same("bearers", x.bearers(), m.bearers);
                same("suffix", x.suffix(), m.suffix);
                if (!Check.out(x).equals(m.out)) {
                    same("out " + Check.out(x) + ", the model " + m.out, 0, 1);
                }
                if (calls % 16 == 0) {
                    whole();
                }
            }
            return right;
        }

        void whole() {
            List<Node> text = m.text();
            for (int i = 0; i <= text.size(); i++) {
                same("at " + i, x.at(i), i < text.size() ? text.get(i).number : -1);
            }
            for (int k = 0; k < text.size(); k++) {
                for (int what = 0; what < 6; what++) {
                    same("about " + k + ", " + what, x.about(k, what), m.about(k, what));
                }
                int as = any(m.day + 2);
                same("label " + k + ", " + as, x.label(k, as), m.label(k, as));
                if (!Check.out(x).equals(m.out)) {
                    same("label " + Check.out(x) + ", the model " + m.out, 0, 1);
                }
            }
            same("clash", x.clash(), m.clash());
        }

        void act(int kind) {
            int k = item();
            if (kind < 40) {
                add();
            } else if (kind < 46) {
                same("strike " + k, x.strike(k), m.strike(k));
            } else if (kind < (style == 0 ? 60 : 48)) {
                same("renumber " + k, x.renumber(k), m.renumber(k));
            } else if (kind < (style == 1 ? 50 : 56)) {
                int number = any(8) == 0 ? any(1003) - 1 : 1 + any(6);
                int suffix = suffix();
                same("error " + k + ", " + number + ", " + suffix, x.error(k, number, suffix), m.error(k, number, suffix));
            } else if (kind < 60) {
                int times = any(20) == 0 ? 110 : 1 + any(4);
                for (int i = 0; i < times; i++) {
                    same("undo", x.undo(), m.undo());
                }
            } else if (kind < 66) {
                int n = any(6) == 0 ? any(1003) - 1 : any(20);
                same("wait " + n, x.wait(n), m.waits(n));
            } else if (kind < 72) {
                about(k, any(8) - 1);
            } else if (kind < 76) {
                int as = any(m.day + 3) - 1;
                same("label " + k + ", " + as, x.label(k, as), m.label(k, as));
            } else if (kind < 82) {
                int as = any(m.day + 3) - 1;
                same("cited " + k + ", " + as, x.cited(k, as), m.cited(k, as));
            } else if (kind < 92) {
                int as = any(m.day + 3) - 1;
                told(citation(k, Math.max(0, as + any(3) - 1)));
                same("cite " + m.tape + " " + as, x.cite(as), m.cite(as));
            } else if (kind < 97) {
                int form = any(20) == 0 ? any(7) - 2 : any(4);
                told(broken(labelText(form)));
                same("read " + m.tape + " " + form, x.read(form), m.read(form));
            } else if (kind == 97) {
                same("clash", x.clash(), m.clash());
            } else if (any(8) == 0) {
                told(levelsText());
                same("levels " + m.tape, x.levels(), m.levels());
            } else {
                int n = any(210) - 2;
                same("end " + n, x.end(n), n >= 0 && n <= m.tape.length());
                m.tape = n >= 0 && n <= m.tape.length() ? m.tape.substring(0, n) : m.tape;
            }
        }

        void about(int k, int what) {
            int got;
            try {
                got = x.about(k, what);
            } catch (NoSuchElementException e) {
                got = Integer.MIN_VALUE;
            }
            same("about " + k + ", " + what, got, m.about(k, what));
        }

        int item() {
            return any(40) == 0 ? any(90) - 5 : any(m.text().size() + 1);
        }

        void add() {
            List<Node> all = m.text();
            int up = any(3) == 0 || all.isEmpty() ? -1 : item();
            Node parent = up == -1 ? m.root : m.item(up);
            int behind = -1;
            if (parent != null && !parent.kids.isEmpty() && any(6) > 0) {
                int last = parent.kids.size() - 1;
                int place = style == 1 ? Math.min(last, any(3)) : style == 2 ? last : any(last + 1);
                behind = parent.kids.get(place).number;
            } else if (any(8) == 0) {
                behind = item();
            }
            same("add " + up + ", " + behind, x.add(up, behind), m.add(up, behind));
        }

        int suffix() {
            if (any(12) == 0) {
                return any(1 << 30) * 4 + any(4);
            }
            String letters = "";
            for (int i = any(5); i > 0; i--) {
                letters += "AZABYZ".charAt(any(6));
            }
            int suffix = Check.suffix(letters);
            return any(20) == 0 ? suffix << 8 : suffix;
        }

        /** Puts a text on both tapes, whatever lies there in front of it. */
        void told(String text) {
            byte[] bytes = text.getBytes(StandardCharsets.ISO_8859_1);
            if (any(10) > 0) {
                same("end 0", x.end(0), true);
                m.tape = "";
            }
            for (int from = 0; from < bytes.length; from += 20) {
                byte[] twenty = new byte[20];
                System.arraycopy(bytes, from, twenty, 0, Math.min(20, bytes.length - from));
                int[] n = new int[5];
                for (int i = 0; i < 20; i++) {
                    n[i / 4] = n[i / 4] << 8 | twenty[i] & 255;
                }
                boolean room = m.tape.length() <= 180;
                m.tape += room ? new String(twenty, StandardCharsets.ISO_8859_1) : "";
                same("feed", x.feed(n[0], n[1], n[2], n[3], n[4]), room ? m.tape.length() : -1);
            }
            int spare = (20 - bytes.length % 20) % 20;
            int end = m.tape.length() - spare;
            if (end >= 0 && any(30) > 0) {
                same("end " + end, x.end(end), true);
                m.tape = m.tape.substring(0, end);
            }
        }

        String levelsText() {
            StringBuilder text = new StringBuilder();
            int levels = 1 + any(any(8) == 0 ? 6 : 4);
            for (int i = 0; i < levels; i++) {
                text.append(FORMS.get(any(4)));
                text.append(any(3) == 0 ? " through" : "");
                text.append(any(5) == 0 ? "\n " : "").append(any(40) == 0 ? "" : ";").append(any(4) == 0 ? " " : "");
            }
            return any(6) == 0 ? broken(text.toString()) : text.toString();
        }

        String labelText(int form) {
            int number = any(3) == 0 ? 1 + any(999) : 1 + any(12);
            String suffix = any(2) == 0 ? "" : "ABZZZQ".substring(any(3), 3 + any(4));
            String name = form >= 0 && form < 4 ? FORMS.get(form) : "number";
            if (any(20) == 0) {
                String[] odd = {"IIII", "04", "1000", "M", "all", "iiii", "0", "", "VX", "99999999999999", "zzzzzzzzz"};
                return odd[any(odd.length)] + (name.equals("number") || suffix.isEmpty() ? "" : "-") + suffix;
            }
            return new Label(number, suffix).written(name);
        }

        String citation(int k, int as) {
            String text = m.citation(k, as);
            if (text == null || any(3) == 0) {
                text = "";
                for (int i = 1 + any(m.forms.size()); i > 0; i--) {
                    int level = m.forms.size() - i;
                    text += (text.isEmpty() ? "" : ".") + labelText(FORMS.indexOf(m.forms.get(any(4) == 0 ? level : 0)));
                }
            }
            return any(4) == 0 ? broken(text) : text;
        }

        String broken(String text) {
            StringBuilder broken = new StringBuilder(text);
            int times = any(3);
            for (int i = 0; i < times; i++) {
                int at = any(broken.length() + 1);
                char sign = any(4) == 0 ? (char) any(256) : "IVXivxAZaz-.;019 \nMm".charAt(any(20));
                if (at == broken.length() || any(3) == 0) {
                    broken.insert(at, sign);
                } else if (any(2) == 0) {
                    broken.setCharAt(at, sign);
                } else {
                    broken.deleteCharAt(at);
                }
            }
            return broken.toString();
        }
    }
}
