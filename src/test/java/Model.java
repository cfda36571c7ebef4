import java.util.ArrayList;
import java.util.HashSet;
import java.util.List;
import java.util.Set;

/**
 * The document once more, told another way and with no eye to speed: every thought is a copy of the whole state whose
 * days really pass, every text is split at its loosest sign, and a fault is found by trying which beginnings can still
 * be made whole. RandomRunsTest holds ScentCloth against it.
 */
final class Model {
    private static final int BAD = Due.BAD, NO = Due.NO, FULL = Due.FULL, NONE = Due.NONE;
    private static final int NOTHING = Due.NOTHING, KIND = Due.KIND, INDEX = Due.INDEX, SIZE = Due.SIZE;

    /** A scent; its class is its kind, and a class that names nothing does as the one above. */
    private static class Scent {
        int pace;
        Set<Scent> hidden = new HashSet<>();

        int worth() {
            return pace;
        }

        int loses(State in, int strength, int warm) {
            int fade = in.countsFor(0) == null
                ? (int) Math.floor(strength * (pace + warm) / 100.0) + 1
                : in.countsFor(0).give(strength, pace, warm);
            return fade < 0 ? 0 : fade > strength ? strength : fade;
        }
    }

    private static class Heavy extends Scent {
        @Override
        int worth() {
            return 60 - pace;
        }

        @Override
        int loses(State in, int strength, int warm) {
            return super.loses(in, strength, warm) >> 1;
        }
    }

    private static class Light extends Scent {
        @Override
        int worth() {
            return super.worth() + 5;
        }

        @Override
        int loses(State in, int strength, int warm) {
            return Math.min(strength, super.loses(in, strength, warm) + pace);
        }
    }

    private static final class Amber extends Heavy {
        @Override
        int worth() {
            return super.worth() * 2;
        }

        @Override
        int loses(State in, int strength, int warm) {
            int heavy = super.loses(in, strength, warm);
            return heavy == 0 ? 0 : heavy - 1;
        }
    }

    private static final class Lemon extends Light {
        @Override
        int worth() {
            return super.worth() - 7;
        }

        @Override
        int loses(State in, int strength, int warm) {
            return Math.min(strength, super.loses(in, strength, warm) * 2);
        }
    }

    private static final class Musk extends Scent {
        @Override
        int worth() {
            return 99;
        }

        @Override
        int loses(State in, int strength, int warm) {
            return in.day % 2 == 0 ? 0 : super.loses(in, strength, warm);
        }
    }

    private static final List<Class<? extends Scent>> KINDS =
        List.of(Scent.class, Heavy.class, Light.class, Amber.class, Lemon.class, Musk.class);

    private static Scent make(int kind, int pace) {
        Scent s = switch (kind) {
            case 1 -> new Heavy();
            case 2 -> new Light();
            case 3 -> new Amber();
            case 4 -> new Lemon();
            case 5 -> new Musk();
            default -> new Scent();
        };
        s.pace = pace;
        return s;
    }

    private static final class Cloth {
        int warm;
        int[] strengths = new int[9];
    }

    private static final class State {
        List<Scent> scents = new ArrayList<>();
        List<Cloth> cloths = new ArrayList<>();
        List<Integer> words = new ArrayList<>();
        List<Text> texts = new ArrayList<>();
        int[] fine = {10, 10, 10, 10};
        int day;
        int z = 1;

        State duplicate() {
            State s = new State();
            for (Scent old : scents) {
                s.scents.add(make(KINDS.indexOf(old.getClass()), old.pace));
            }
            for (int i = 0; i < scents.size(); i++) {
                for (Scent hidden : scents.get(i).hidden) {
                    s.scents.get(i).hidden.add(s.scents.get(scents.indexOf(hidden)));
                }
            }
            for (Cloth old : cloths) {
                Cloth c = new Cloth();
                c.warm = old.warm;
                c.strengths = old.strengths.clone();
                s.cloths.add(c);
            }
            s.words.addAll(words);
            s.texts.addAll(texts);
            s.fine = fine.clone();
            s.day = day;
            s.z = z;
            return s;
        }

        Text countsFor(int key) {
            Text last = null;
            for (Text t : texts) {
                if (t.key == key) {
                    last = t;
                }
            }
            return last;
        }

        void pass() {
            for (Cloth c : cloths) {
                for (int s = 0; s < scents.size(); s++) {
                    c.strengths[s] -= scents.get(s).loses(this, c.strengths[s], c.warm);
                }
            }
            day++;
        }

        int smells(int cloth, int nose) {
            int[] strengths = cloths.get(cloth).strengths;
            int set = 0;
            for (int s = 0; s < scents.size(); s++) {
                boolean there = strengths[s] >= fine[nose];
                for (int o = 0; o < scents.size(); o++) {
                    if (scents.get(o).hidden.contains(scents.get(s)) && strengths[o] >= 2 * strengths[s]) {
                        there = false;
                    }
                }
                set += there ? 1 << s : 0;
            }
            return set;
        }

        int says(int cloth, int nose) {
            int word = words.indexOf(smells(cloth, nose));
            return word < 0 ? NONE : word;
        }

        int sum(int cloth) {
            int sum = 0;
            for (int v : cloths.get(cloth).strengths) {
                sum += v;
            }
            return sum;
        }
    }

    private interface Node {
        int value(int[] names);
    }

    /** A text as its words and signs, split at its loosest sign first. */
    private static final class Text {
        int key;
        List<String> parts = new ArrayList<>();

        Node whole;

        int give(int... values) {
            return whole.value(values);
        }

        int leaves() {
            int many = 0;
            for (String p : parts.subList(1, parts.size())) {
                many += Character.isLetterOrDigit(p.charAt(0)) ? 1 : 0;
            }
            return many;
        }

        private static final String[] LEVELS = {"|", "&", "<=>", "+-", "*/"};

        /** The place of the last sign of a level that stands in no brackets, or -1. */
        private static int lastOf(List<String> e, String signs) {
            int open = 0;
            int last = -1;
            for (int i = 0; i < e.size(); i++) {
                String p = e.get(i);
                if (p.equals("(")) {
                    open++;
                } else if (p.equals(")")) {
                    open--;
                } else if (open == 0 && signs.contains(p)) {
                    last = i;
                }
            }
            return last;
        }

        private static Node split(List<String> e, String names) {
            for (String level : LEVELS) {
                int at = lastOf(e, level);
                if (at >= 0) {
                    Node a = split(e.subList(0, at), names);
                    Node b = split(e.subList(at + 1, e.size()), names);
                    char sign = e.get(at).charAt(0);
                    return values -> joined(sign, a.value(values), b.value(values));
                }
            }
            String p = e.get(0);
            if (p.equals("!")) {
                Node a = split(e.subList(1, e.size()), names);
                return values -> a.value(values) == 0 ? 1 : 0;
            }
            if (p.equals("(")) {
                return split(e.subList(1, e.size() - 1), names);
            }
            int number = Character.isDigit(p.charAt(0)) ? Integer.parseInt(p) : -1;
            int name = names.indexOf(p);
            return values -> number >= 0 ? number : values[name];
        }

        private static int joined(char sign, long a, long b) {
            return (int) switch (sign) {
                case '|' -> (a | b) != 0 ? 1 : 0;
                case '&' -> a * b != 0 ? 1 : 0;
                case '<' -> a < b ? 1 : 0;
                case '=' -> a == b ? 1 : 0;
                case '>' -> a > b ? 1 : 0;
                case '+' -> a + b;
                case '-' -> a - b;
                case '*' -> a * b;
                default -> b == 0 ? 0 : a / b;
            };
        }

        /** Whether parts are an E, within brackets and nots that are open already. */
        private static boolean isE(List<String> e, String names, int level, int brackets, int nots) {
            if (brackets > 8 || nots > 8 || e.isEmpty()) {
                return false;
            }
            if (level < LEVELS.length) {
                int at = lastOf(e, LEVELS[level]);
                if (at < 0) {
                    return isE(e, names, level + 1, brackets, nots);
                }
                int left = level == 2 ? 3 : level;
                return isE(e.subList(0, at), names, left, brackets, nots)
                    && isE(e.subList(at + 1, e.size()), names, level + 1, brackets, nots);
            }
            String p = e.get(0);
            if (p.equals("!")) {
                return isE(e.subList(1, e.size()), names, level, brackets, nots + 1);
            }
            if (p.equals("(")) {
                return closes(e) && isE(e.subList(1, e.size() - 1), names, 0, brackets + 1, nots);
            }
            boolean number = p.matches("[0-9]{1,4}");
            return e.size() == 1 && (number || p.length() == 1 && names.contains(p));
        }

        private static boolean closes(List<String> e) {
            int open = 0;
            for (int i = 0; i < e.size(); i++) {
                open += e.get(i).equals("(") ? 1 : e.get(i).equals(")") ? -1 : 0;
                if (open == 0) {
                    return i == e.size() - 1;
                }
            }
            return false;
        }

        private static String names(int key) {
            return key == 0 ? "spw" : key == 1 ? "tn" : "dn";
        }

        private static boolean isWhole(List<String> parts, int key) {
            return key >= 0 && parts.size() > 1 && isE(parts.subList(1, parts.size()), names(key), 0, 0, 0);
        }

        /** Whether a beginning can be made whole: by nothing or a number, and brackets that close. */
        private static boolean goesOn(List<String> parts, int key) {
            if (key < 0) {
                return false;
            }
            for (int number = 0; number < 2; number++) {
                List<String> more = new ArrayList<>(parts);
                if (number == 1) {
                    more.add("1");
                }
                for (int close = 0; close <= 8; close++) {
                    if (isWhole(more, key)) {
                        return true;
                    }
                    more.add(")");
                }
            }
            return false;
        }

        /** Fills the text from a tape: the fault's place, or -1. */
        int readFrom(String tape) {
            java.util.regex.Matcher m =
                java.util.regex.Pattern.compile("[a-z]+|[0-9]+|[^ ]", java.util.regex.Pattern.DOTALL).matcher(tape);
            key = -1;
            int lastEnd = -1;
            boolean lastWord = false;
            while (m.find()) {
                String p = m.group();
                boolean word = p.matches("[a-z]+|[0-9]+");
                if (parts.isEmpty()) {
                    key = List.of("fade", "price", "lie").indexOf(p);
                }
                parts.add(p);
                if (word && lastWord && m.start() == lastEnd || !goesOn(parts, key)) {
                    return m.start();
                }
                lastEnd = m.end();
                lastWord = word;
            }
            if (!isWhole(parts, key)) {
                return tape.length();
            }
            whole = split(parts.subList(1, parts.size()), names(key));
            return -1;
        }
    }

    private static final class Row {
        boolean floats;
        Integer[] places;
    }

    private State now = new State();
    private State image;
    private StringBuilder tape = new StringBuilder();
    private List<Integer> waiting = new ArrayList<>();
    private final Row[] sheets = new Row[4];
    private final Object[] slots = new Object[5];

    private static boolean in(int v, int low, int high) {
        return low <= v && v <= high;
    }

    private boolean noScent(int s) {
        return !in(s, 0, now.scents.size() - 1);
    }

    private boolean noCloth(int c) {
        return !in(c, 0, now.cloths.size() - 1);
    }

    private boolean noWord(int w) {
        return !in(w, 0, now.words.size() - 1);
    }

    private static boolean noNose(int n) {
        return !in(n, 0, 3);
    }

    private static boolean noKind(int k) {
        return !in(k, 0, 5);
    }

    private static boolean noSheet(int s) {
        return !in(s, 0, 3);
    }

    public int scent(int kind, int pace) {
        if (noKind(kind) || !in(pace, 0, 50)) {
            return BAD;
        }
        if (now.scents.size() == 9) {
            return FULL;
        }
        now.scents.add(make(kind, pace));
        return now.scents.size() - 1;
    }

    public int told(int scent, int what) {
        if (noScent(scent) || !in(what, 0, 3)) {
            return BAD;
        }
        Scent s = now.scents.get(scent);
        if (what == 3) {
            int set = 0;
            for (Scent h : s.hidden) {
                set += 1 << now.scents.indexOf(h);
            }
            return set;
        }
        return what == 0 ? KINDS.indexOf(s.getClass()) : what == 1 ? s.pace : s.worth();
    }

    public int as(int scent, int kind) {
        if (noScent(scent) || noKind(kind)) {
            return BAD;
        }
        return KINDS.get(kind).isInstance(now.scents.get(scent)) ? now.scents.get(scent).pace : KIND;
    }

    public int turns(int scent, int kind) {
        if (noScent(scent) || noKind(kind)) {
            return BAD;
        }
        Scent old = now.scents.get(scent);
        Scent s = make(kind, old.pace);
        s.hidden = old.hidden;
        now.scents.set(scent, s);
        for (Scent o : now.scents) {
            if (o.hidden.remove(old)) {
                o.hidden.add(s);
            }
        }
        return KINDS.indexOf(old.getClass());
    }

    public int pace(int scent, int v) {
        if (noScent(scent) || !in(v, 0, 50)) {
            return BAD;
        }
        int was = now.scents.get(scent).pace;
        now.scents.get(scent).pace = v;
        return was;
    }

    public int hide(int scent, int other, int v) {
        if (noScent(scent) || noScent(other) || scent == other || !in(v, 0, 1)) {
            return BAD;
        }
        Set<Scent> hidden = now.scents.get(scent).hidden;
        Scent o = now.scents.get(other);
        int was = hidden.contains(o) ? 1 : 0;
        if (v == 1) {
            hidden.add(o);
        } else {
            hidden.remove(o);
        }
        return was;
    }

    public int nose(int nose, int v) {
        if (noNose(nose) || !in(v, 1, 999)) {
            return BAD;
        }
        int was = now.fine[nose];
        now.fine[nose] = v;
        return was;
    }

    public int word(int set) {
        if (set <= 0 || set >= 1 << now.scents.size()) {
            return BAD;
        }
        if (now.words.size() == 12) {
            return FULL;
        }
        now.words.add(set);
        return now.words.size() - 1;
    }

    public int wordOf(int word) {
        return noWord(word) ? BAD : now.words.get(word);
    }

    private int drawn(int by) {
        now.z = now.z * 1103515245 + 12345;
        return (now.z >>> 8) % by;
    }

    public int deal(int n) {
        if (!in(n, 1, 9)) {
            return BAD;
        }
        int came = 0;
        while (came < n && now.scents.size() < 9) {
            int kind = drawn(6);
            now.scents.add(make(kind, drawn(51)));
            came++;
        }
        return came;
    }

    public int seed(int v) {
        int was = now.z;
        now.z = v;
        return was;
    }

    public int cloth() {
        if (now.cloths.size() == 6) {
            return FULL;
        }
        now.cloths.add(new Cloth());
        return now.cloths.size() - 1;
    }

    public int strength(int cloth, int scent) {
        return noCloth(cloth) || noScent(scent) ? BAD : now.cloths.get(cloth).strengths[scent];
    }

    public int loses(int cloth, int scent) {
        if (noCloth(cloth) || noScent(scent)) {
            return BAD;
        }
        Cloth c = now.cloths.get(cloth);
        return now.scents.get(scent).loses(now, c.strengths[scent], c.warm);
    }

    public int dab(int cloth, int scent, int n) {
        if (noCloth(cloth) || noScent(scent) || !in(n, -999, 999)) {
            return BAD;
        }
        int[] strengths = now.cloths.get(cloth).strengths;
        int v = strengths[scent] + n;
        strengths[scent] = v < 0 ? 0 : v > 999 ? 999 : v;
        return strengths[scent];
    }

    public int warm(int cloth, int v) {
        if (noCloth(cloth) || !in(v, 0, 50)) {
            return BAD;
        }
        int was = now.cloths.get(cloth).warm;
        now.cloths.get(cloth).warm = v;
        return was;
    }

    public int touch(int cloth, int other) {
        if (noCloth(cloth) || noCloth(other) || cloth == other) {
            return BAD;
        }
        int otherwise = 0;
        int[] a = now.cloths.get(cloth).strengths;
        int[] b = now.cloths.get(other).strengths;
        for (int s = 0; s < 9; s++) {
            int half = (a[s] + b[s]) / 2;
            otherwise += (a[s] != half ? 1 : 0) + (b[s] != half ? 1 : 0);
            a[s] = half;
            b[s] = half;
        }
        return otherwise;
    }

    public int days(int n) {
        if (!in(n, 1, 60)) {
            return BAD;
        }
        for (int i = 0; i < n; i++) {
            if (now.day < 9999) {
                now.pass();
            }
        }
        return now.day;
    }

    private State thought(int n) {
        State s = now.duplicate();
        for (int i = 0; i < n; i++) {
            s.pass();
        }
        return s;
    }

    public int smells(int cloth, int nose) {
        return noCloth(cloth) || noNose(nose) ? BAD : now.smells(cloth, nose);
    }

    public int says(int cloth, int nose) {
        return noCloth(cloth) || noNose(nose) ? BAD : now.says(cloth, nose);
    }

    public int behind(int cloth, int nose, int n) {
        return noCloth(cloth) || noNose(nose) || !in(n, 0, 300) ? BAD : thought(n).says(cloth, nose);
    }

    /** What is said behind 0 .. n days, one behind the other. */
    private List<Integer> sayings(int cloth, int nose, int n) {
        List<Integer> said = new ArrayList<>();
        State s = now.duplicate();
        for (int i = 0; i <= n; i++) {
            said.add(s.says(cloth, nose));
            s.pass();
        }
        return said;
    }

    public int first(int cloth, int nose, int word) {
        if (noCloth(cloth) || noNose(nose) || noWord(word)) {
            return BAD;
        }
        int at = sayings(cloth, nose, 200).indexOf(word);
        return at < 0 ? NONE : at;
    }

    public int lasts(int cloth, int nose, int word, int n) {
        if (noCloth(cloth) || noNose(nose) || noWord(word) || !in(n, 0, 200)) {
            return BAD;
        }
        return java.util.Collections.frequency(sayings(cloth, nose, n), word);
    }

    public int whispers(int cloth, int nose, int n) {
        if (noCloth(cloth) || noNose(nose) || !in(n, 0, 200)) {
            return BAD;
        }
        Set<Integer> said = new HashSet<>(sayings(cloth, nose, n));
        said.remove(NONE);
        return said.size();
    }

    public int dumb(int cloth, int nose) {
        if (noCloth(cloth) || noNose(nose)) {
            return BAD;
        }
        State s = now.duplicate();
        for (int i = 0; i <= 300; i++) {
            if (s.smells(cloth, nose) == 0) {
                return i;
            }
            s.pass();
        }
        return NONE;
    }

    public int secret(int cloth, int n) {
        if (noCloth(cloth) || !in(n, 0, 300)) {
            return BAD;
        }
        State s = thought(n);
        int set = 0;
        for (int nose = 0; nose < 4; nose++) {
            set += s.says(cloth, nose) == NONE ? 1 << nose : 0;
        }
        return set;
    }

    public int least(int cloth, int scent, int nose, int n) {
        if (noCloth(cloth) || noScent(scent) || noNose(nose) || !in(n, 0, 100)) {
            return BAD;
        }
        State s = now.duplicate();
        int warm = s.cloths.get(cloth).warm;
        for (int from = 0; from <= 999; from++) {
            int left = from;
            s.day = now.day;
            for (int i = 0; i < n; i++) {
                left -= s.scents.get(scent).loses(s, left, warm);
                s.day++;
                if (left < s.fine[nose]) {
                    break;
                }
            }
            if (left >= s.fine[nose]) {
                return from;
            }
        }
        return NONE;
    }

    public int letter(int cloth, int word, int nose, int n) {
        if (noCloth(cloth) || noWord(word) || noNose(nose) || !in(n, 0, 100)) {
            return BAD;
        }
        int[] written = new int[9];
        for (int s = 0; s < 9; s++) {
            if ((now.words.get(word) >> s & 1) == 1) {
                written[s] = least(cloth, s, nose, n);
                if (written[s] == NONE) {
                    return NO;
                }
            }
        }
        now.cloths.get(cloth).strengths = written;
        return now.sum(cloth);
    }

    public int dated(int sheet, int cloth, int scent, int what) {
        if (noSheet(sheet) || noCloth(cloth) || noScent(scent) || !in(what, 0, 1)) {
            return BAD;
        }
        if (sheets[sheet] == null) {
            return NOTHING;
        }
        List<Integer> left = new ArrayList<>();
        State s = now.duplicate();
        for (int i = 0; i <= 124; i++) {
            left.add(s.cloths.get(cloth).strengths[scent]);
            s.pass();
        }
        int best = -1;
        int off = Integer.MAX_VALUE;
        for (int n = 0; n <= 100; n++) {
            int sum = 0;
            for (int k = 0; k < sheets[sheet].places.length; k++) {
                Integer v = sheets[sheet].places[k];
                sum += v == null ? 0 : Math.abs(left.get(n + k) - v);
            }
            if (sum < off) {
                best = n;
                off = sum;
            }
        }
        return what == 0 ? best : off;
    }

    public int price(int cloth) {
        if (noCloth(cloth)) {
            return BAD;
        }
        int sum = now.sum(cloth);
        int many = 0;
        for (int v : now.cloths.get(cloth).strengths) {
            many += v > 0 ? 1 : 0;
        }
        Text t = now.countsFor(1);
        return t == null ? sum : t.give(sum, many);
    }

    public int lie(int cloth) {
        if (noCloth(cloth)) {
            return BAD;
        }
        int word = now.says(cloth, 0);
        Text t = now.countsFor(2);
        return t == null ? 0 : t.give(now.day, word == NONE ? 99 : word);
    }

    public int feed(int a, int b, int c) {
        if (tape.length() > 84) {
            return FULL;
        }
        for (int v : new int[] {a, b, c}) {
            for (byte one : java.nio.ByteBuffer.allocate(4).putInt(v).array()) {
                tape.append((char) (one & 255));
            }
        }
        return tape.length();
    }

    public int trim(int n) {
        if (!in(n, 0, tape.length())) {
            return BAD;
        }
        tape.setLength(n);
        return n;
    }

    public int text() {
        Text t = new Text();
        int fault = t.readFrom(tape.toString());
        tape = new StringBuilder();
        if (fault >= 0) {
            return -100 - fault;
        }
        if (now.texts.size() == 14) {
            return FULL;
        }
        now.texts.add(t);
        return now.texts.size() - 1;
    }

    public int textTold(int text, int what) {
        if (!in(text, 0, now.texts.size() - 1) || !in(what, 0, 1)) {
            return BAD;
        }
        return what == 0 ? now.texts.get(text).key : now.texts.get(text).leaves();
    }

    public int why(int key) {
        if (!in(key, 0, 2)) {
            return BAD;
        }
        return now.countsFor(key) == null ? NONE : now.texts.lastIndexOf(now.countsFor(key));
    }

    public int sheet(int sheet, int sort, int n) {
        if (noSheet(sheet) || !in(sort, -1, 1) || sort != -1 && n > 24) {
            return BAD;
        }
        if (sort == -1) {
            sheets[sheet] = null;
            return 0;
        }
        if (n < 0) {
            return SIZE;
        }
        Row r = new Row();
        r.floats = sort == 1;
        r.places = new Integer[n];
        java.util.Arrays.fill(r.places, 0);
        sheets[sheet] = r;
        return n;
    }

    public int mark(int sheet, int place, int v) {
        if (noSheet(sheet)) {
            return BAD;
        }
        Row r = sheets[sheet];
        if (r == null) {
            return NOTHING;
        }
        if (!in(place, 0, r.places.length - 1)) {
            return INDEX;
        }
        if (!r.floats && v == NONE) {
            return KIND;
        }
        if (r.floats && v != NONE && !in(v, -99999, 99999)) {
            return BAD;
        }
        r.places[place] = v == NONE ? null : r.floats ? Integer.valueOf(v) : Integer.valueOf((short) v);
        return 1;
    }

    public int pour(int cloth, int sheet) {
        if (noCloth(cloth) || noSheet(sheet)) {
            return BAD;
        }
        if (sheets[sheet] == null) {
            return NOTHING;
        }
        int[] strengths = now.cloths.get(cloth).strengths;
        int[] before = strengths.clone();
        int otherwise = 0;
        for (int s = 0; s < now.scents.size() && s < sheets[sheet].places.length; s++) {
            Integer v = sheets[sheet].places[s];
            if (v != null) {
                strengths[s] = v < 0 ? 0 : v > 999 ? 999 : v;
            }
            otherwise += strengths[s] == before[s] ? 0 : 1;
        }
        return otherwise;
    }

    public int copy(int from, int place, int to, int at, int many) {
        if (noSheet(from) || noSheet(to)) {
            return BAD;
        }
        Row a = sheets[from];
        Row b = sheets[to];
        if (a == null || b == null) {
            return NOTHING;
        }
        if (a.floats != b.floats) {
            return KIND;
        }
        if (place < 0 || at < 0 || many < 0 || (long) place + many > a.places.length
            || (long) at + many > b.places.length) {
            return INDEX;
        }
        Integer[] were = a.places.clone();
        for (int i = 0; i < many; i++) {
            b.places[at + i] = were[place + i];
        }
        return many;
    }

    public int lay(int slot, int thing, int k) {
        if (!in(slot, 0, 4) || !in(thing, 0, 3) || thing == 1 && noScent(k) || thing == 2 && noSheet(k)) {
            return BAD;
        }
        if (thing == 2 && sheets[k] == null) {
            return NOTHING;
        }
        Object old = slots[slot];
        slots[slot] = switch (thing) {
            case 1 -> make(told(k, 0), told(k, 1));
            case 2 -> sheets[k].places.clone();
            case 3 -> (Object) k;
            default -> null;
        };
        return old == null ? 0 : old instanceof Scent ? 1 : old instanceof Integer ? 3 : 2;
    }

    public int ask(int slot, int kind) {
        if (!in(slot, 0, 4) || noKind(kind)) {
            return BAD;
        }
        if (slots[slot] == null) {
            return NOTHING;
        }
        return KINDS.get(kind).isInstance(slots[slot]) ? ((Scent) slots[slot]).worth() : KIND;
    }

    public int item(int slot, int place) {
        if (!in(slot, 0, 4)) {
            return BAD;
        }
        if (slots[slot] == null) {
            return NOTHING;
        }
        if (!(slots[slot] instanceof Integer[] places)) {
            return KIND;
        }
        if (place < 0 || place >= places.length) {
            return INDEX;
        }
        return places[place] == null ? KIND : places[place];
    }

    public int rest(int slot, int n) {
        if (!in(slot, 0, 4)) {
            return BAD;
        }
        if (slots[slot] == null) {
            return NOTHING;
        }
        if (!(slots[slot] instanceof Integer k)) {
            return KIND;
        }
        return n == 0 ? NO : (int) ((long) k % n);
    }

    public int tell(int v) {
        if (waiting.size() == 60) {
            return FULL;
        }
        waiting.add(v);
        return waiting.size();
    }

    public int check(int cloth, int n) {
        List<Integer> had = waiting;
        waiting = new ArrayList<>();
        if (!in(n, 1, 30) || !in(cloth, 0, 5)) {
            return BAD;
        }
        if (image == null || cloth >= image.cloths.size()) {
            return NO;
        }
        List<Integer> want = daysTold(cloth, n);
        if (want.equals(had)) {
            return 0;
        }
        int right = 0;
        while (right < want.size() && right < had.size() && want.get(right).equals(had.get(right))) {
            right++;
        }
        return 1 + right;
    }

    /** None, if there is no image with such a cloth. */
    List<Integer> daysTold(int cloth, int n) {
        List<Integer> want = new ArrayList<>();
        if (image == null || !in(cloth, 0, image.cloths.size() - 1)) {
            return want;
        }
        State s = image.duplicate();
        for (int i = 0; i < n && s.day < 9999; i++) {
            s.pass();
            int word = s.says(cloth, 0);
            want.add(word == NONE ? 99 : word);
            want.add(s.sum(cloth));
        }
        return want;
    }

    public int keep() {
        image = now.duplicate();
        return image.cloths.size();
    }

    public int back() {
        if (image == null) {
            return NO;
        }
        now = image.duplicate();
        return now.cloths.size();
    }

    public int count(int what) {
        int all = 0;
        for (int c = 0; c < now.cloths.size(); c++) {
            all += now.sum(c);
        }
        return switch (what) {
            case 0 -> now.scents.size();
            case 1 -> now.cloths.size();
            case 2 -> now.words.size();
            case 3 -> now.day;
            case 4 -> all;
            case 5 -> now.texts.size();
            case 6 -> waiting.size();
            case 7 -> tape.length();
            case 8 -> now.z;
            default -> BAD;
        };
    }
}
