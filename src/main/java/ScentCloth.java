import java.util.Arrays;

/** Letters in scents: what cloths say to noses, now and behind days. */
public final class ScentCloth {
    public static final int BAD = -1000000001, NO = -1000000002, FULL = -1000000003, NONE = -1000000005, NOTHING = -1000000011, KIND = -1000000012, INDEX = -1000000013, SIZE = -1000000014;

    private static final int SCENTS = 9, CLOTHS = 6, NOSES = 4, WORDS = 12, TEXTS = 14, SHEETS = 4, SLOTS = 5;
    private static final int SCENT = 0, HEAVY = 1, LIGHT = 2, AMBER = 3, LEMON = 4, MUSK = 5, KINDS = 6;
    private static final int[] KIND_ABOVE = {-1, SCENT, SCENT, HEAVY, LIGHT, SCENT};
    private static final int FADE = 0, PRICE = 1, LIE = 2, KEYS = 3;
    private static final int FASTEST = 50, WARMEST = 50, STRONGEST = 999, LAST_DAY = 9999;
    private static final int DAYS_AT_ONCE = 60, THOUGHT_DAYS = 300, WORD_DAYS = 200, LETTER_DAYS = 100, DATED_DAYS = 100;
    private static final int TAPE_BYTES = 96, FED_BYTES = 12, FAULT_BASE = -100;
    private static final int DEEPEST = 8, LONGEST_NUMBER = 4;
    private static final int MISSING = -1, SHORTS = 0, FLOATS = 1, PLACES = 24, FLOAT_MOST = 99999;
    private static final int EMPTY = 0, HOLDS_SCENT = 1, HOLDS_SHEET = 2, HOLDS_NUMBER = 3;
    private static final int WAIT_MOST = 60, CHECK_DAYS = 30, NO_WORD = 99;

    private final World now;
    private final World image;
    private final Thought ahead;
    private final Thought recalled;
    private final Texts library;
    private final Reader reader;
    private final Sheet[] sheets;
    private final Slot[] slots;
    private final int[] waiting;
    private final int[] fresh;
    private final int[] course;
    private int waits;
    private boolean imageKept;

    public ScentCloth() {
        library = new Texts();
        reader = new Reader();
        now = new World(library);
        image = new World(library);
        ahead = new Thought(now);
        recalled = new Thought(image);
        sheets = new Sheet[SHEETS];
        for (int i = 0; i < SHEETS; i++) {
            sheets[i] = new Sheet();
        }
        slots = new Slot[SLOTS];
        for (int i = 0; i < SLOTS; i++) {
            slots[i] = new Slot();
        }
        waiting = new int[WAIT_MOST];
        fresh = new int[SCENTS];
        course = new int[DATED_DAYS + PLACES + 1];
    }

    // ---- scents, noses, words

    public int scent(int kind, int pace) {
        if (!isKind(kind) || !within(pace, 0, FASTEST)) {
            return BAD;
        }
        return now.addScent(kind, pace);
    }

    public int told(int scent, int what) {
        if (!isScent(scent)) {
            return BAD;
        }
        switch (what) {
            case 0:
                return now.kinds[scent];
            case 1:
                return now.paces[scent];
            case 2:
                return worth(now.kinds[scent], now.paces[scent]);
            case 3:
                return now.hides[scent];
            default:
                return BAD;
        }
    }

    public int as(int scent, int kind) {
        if (!isScent(scent) || !isKind(kind)) {
            return BAD;
        }
        return isUnder(now.kinds[scent], kind) ? now.paces[scent] : KIND;
    }

    public int turns(int scent, int kind) {
        if (!isScent(scent) || !isKind(kind)) {
            return BAD;
        }
        int was = now.kinds[scent];
        now.kinds[scent] = kind;
        return was;
    }

    public int pace(int scent, int v) {
        if (!isScent(scent) || !within(v, 0, FASTEST)) {
            return BAD;
        }
        int was = now.paces[scent];
        now.paces[scent] = v;
        return was;
    }

    public int hide(int scent, int other, int v) {
        if (!isScent(scent) || !isScent(other) || scent == other || !within(v, 0, 1)) {
            return BAD;
        }
        int was = (now.hides[scent] >> other) & 1;
        now.hides[scent] = (now.hides[scent] & ~(1 << other)) | (v << other);
        return was;
    }

    public int nose(int nose, int v) {
        if (!isNose(nose) || !within(v, 1, STRONGEST)) {
            return BAD;
        }
        int was = now.fines[nose];
        now.fines[nose] = v;
        return was;
    }

    public int word(int set) {
        int there = (1 << now.scents) - 1;
        if (set == 0 || (set & ~there) != 0) {
            return BAD;
        }
        if (now.words >= WORDS) {
            return FULL;
        }
        now.sets[now.words] = set;
        now.words++;
        return now.words - 1;
    }

    public int wordOf(int word) {
        return isWord(word) ? now.sets[word] : BAD;
    }

    public int deal(int n) {
        if (!within(n, 1, SCENTS)) {
            return BAD;
        }
        int came = Math.min(n, SCENTS - now.scents);
        for (int i = 0; i < came; i++) {
            int kind = now.draw() % KINDS;
            int pace = now.draw() % (FASTEST + 1);
            now.addScent(kind, pace);
        }
        return came;
    }

    public int seed(int v) {
        int was = now.z;
        now.z = v;
        return was;
    }

    // ---- cloths

    public int cloth() {
        if (now.cloths >= CLOTHS) {
            return FULL;
        }
        now.cloths++;
        return now.cloths - 1;
    }

    public int strength(int cloth, int scent) {
        return isSpot(cloth, scent) ? now.spots[cloth][scent] : BAD;
    }

    public int loses(int cloth, int scent) {
        if (!isSpot(cloth, scent)) {
            return BAD;
        }
        return now.loss(scent, now.spots[cloth][scent], now.warms[cloth], now.today);
    }

    public int dab(int cloth, int scent, int n) {
        if (!isSpot(cloth, scent) || !within(n, -STRONGEST, STRONGEST)) {
            return BAD;
        }
        now.spots[cloth][scent] = held(now.spots[cloth][scent] + n);
        return now.spots[cloth][scent];
    }

    public int warm(int cloth, int v) {
        if (!isCloth(cloth) || !within(v, 0, WARMEST)) {
            return BAD;
        }
        int was = now.warms[cloth];
        now.warms[cloth] = v;
        return was;
    }

    public int touch(int cloth, int other) {
        if (!isCloth(cloth) || !isCloth(other) || cloth == other) {
            return BAD;
        }
        int changed = 0;
        for (int s = 0; s < now.scents; s++) {
            int half = (now.spots[cloth][s] + now.spots[other][s]) / 2;
            changed += now.putSpot(cloth, s, half) + now.putSpot(other, s, half);
        }
        return changed;
    }

    public int days(int n) {
        if (!within(n, 1, DAYS_AT_ONCE)) {
            return BAD;
        }
        for (int i = 0; i < n && now.today < LAST_DAY; i++) {
            now.passDay();
        }
        return now.today;
    }

    // ---- what is said

    public int smells(int cloth, int nose) {
        if (!isCloth(cloth) || !isNose(nose)) {
            return BAD;
        }
        return now.smelled(now.spots[cloth], nose);
    }

    public int says(int cloth, int nose) {
        if (!isCloth(cloth) || !isNose(nose)) {
            return BAD;
        }
        return now.said(now.spots[cloth], nose);
    }

    public int behind(int cloth, int nose, int n) {
        if (!isCloth(cloth) || !isNose(nose) || !within(n, 0, THOUGHT_DAYS)) {
            return BAD;
        }
        ahead.begin(cloth);
        ahead.passDays(n);
        return ahead.saidTo(nose);
    }

    public int first(int cloth, int nose, int word) {
        if (!isCloth(cloth) || !isNose(nose) || !isWord(word)) {
            return BAD;
        }
        ahead.begin(cloth);
        for (int n = 0; n <= WORD_DAYS; n++) {
            if (ahead.saidTo(nose) == word) {
                return n;
            }
            ahead.passDay();
        }
        return NONE;
    }

    public int lasts(int cloth, int nose, int word, int n) {
        if (!isCloth(cloth) || !isNose(nose) || !isWord(word) || !within(n, 0, WORD_DAYS)) {
            return BAD;
        }
        int found = 0;
        ahead.begin(cloth);
        for (int i = 0; i <= n; i++) {
            if (ahead.saidTo(nose) == word) {
                found++;
            }
            ahead.passDay();
        }
        return found;
    }

    public int whispers(int cloth, int nose, int n) {
        if (!isCloth(cloth) || !isNose(nose) || !within(n, 0, WORD_DAYS)) {
            return BAD;
        }
        int heard = 0;
        ahead.begin(cloth);
        for (int i = 0; i <= n; i++) {
            int word = ahead.saidTo(nose);
            if (word != NONE) {
                heard |= 1 << word;
            }
            ahead.passDay();
        }
        return Integer.bitCount(heard);
    }

    public int dumb(int cloth, int nose) {
        if (!isCloth(cloth) || !isNose(nose)) {
            return BAD;
        }
        ahead.begin(cloth);
        for (int n = 0; n <= THOUGHT_DAYS; n++) {
            if (ahead.smelledBy(nose) == 0) {
                return n;
            }
            ahead.passDay();
        }
        return NONE;
    }

    public int secret(int cloth, int n) {
        if (!isCloth(cloth) || !within(n, 0, THOUGHT_DAYS)) {
            return BAD;
        }
        ahead.begin(cloth);
        ahead.passDays(n);
        int noses = 0;
        for (int nose = 0; nose < NOSES; nose++) {
            if (ahead.saidTo(nose) == NONE) {
                noses |= 1 << nose;
            }
        }
        return noses;
    }

    public int least(int cloth, int scent, int nose, int n) {
        if (!isSpot(cloth, scent) || !isNose(nose) || !within(n, 0, LETTER_DAYS)) {
            return BAD;
        }
        return now.leastLeft(scent, now.warms[cloth], now.fines[nose], n);
    }

    public int letter(int cloth, int word, int nose, int n) {
        if (!isCloth(cloth) || !isWord(word) || !isNose(nose) || !within(n, 0, LETTER_DAYS)) {
            return BAD;
        }
        int sum = 0;
        for (int s = 0; s < now.scents; s++) {
            boolean written = ((now.sets[word] >> s) & 1) == 1;
            fresh[s] = written ? now.leastLeft(s, now.warms[cloth], now.fines[nose], n) : 0;
            if (fresh[s] == NONE) {
                return NO;
            }
            sum += fresh[s];
        }
        System.arraycopy(fresh, 0, now.spots[cloth], 0, now.scents);
        return sum;
    }

    public int dated(int sheet, int cloth, int scent, int what) {
        if (!isSheet(sheet) || !isSpot(cloth, scent) || !within(what, 0, 1)) {
            return BAD;
        }
        if (sheets[sheet].sort == MISSING) {
            return NOTHING;
        }
        followCourse(cloth, scent);
        int best = 0;
        int bestOff = differences(sheets[sheet], 0);
        for (int n = 1; n <= DATED_DAYS; n++) {
            int off = differences(sheets[sheet], n);
            if (off < bestOff) {
                best = n;
                bestOff = off;
            }
        }
        return what == 0 ? best : bestOff;
    }

    public int price(int cloth) {
        if (!isCloth(cloth)) {
            return BAD;
        }
        int sum = now.sumOf(now.spots[cloth]);
        int text = now.counting[PRICE];
        return text == NONE ? sum : library.give(text, sum, now.present(now.spots[cloth]), 0);
    }

    public int lie(int cloth) {
        if (!isCloth(cloth)) {
            return BAD;
        }
        int text = now.counting[LIE];
        return text == NONE ? 0 : library.give(text, now.today, wordOr99(now.said(now.spots[cloth], 0)), 0);
    }

    // ---- texts

    public int feed(int a, int b, int c) {
        if (reader.length + FED_BYTES > TAPE_BYTES) {
            return FULL;
        }
        reader.takeBytes(a);
        reader.takeBytes(b);
        reader.takeBytes(c);
        return reader.length;
    }

    public int trim(int n) {
        if (!within(n, 0, reader.length)) {
            return BAD;
        }
        reader.length = n;
        return n;
    }

    public int text() {
        int fault = reader.readTape();
        reader.length = 0;
        if (fault >= 0) {
            return FAULT_BASE - fault;
        }
        int number = now.texts;
        if (number >= TEXTS) {
            return FULL;
        }
        library.store(number, reader);
        now.counting[reader.key] = number;
        now.texts++;
        return number;
    }

    public int textTold(int text, int what) {
        if (!within(text, 0, now.texts - 1) || !within(what, 0, 1)) {
            return BAD;
        }
        return what == 0 ? library.keys[text] : library.leaves[text];
    }

    public int why(int key) {
        return within(key, 0, KEYS - 1) ? now.counting[key] : BAD;
    }

    // ---- sheets, slots

    public int sheet(int sheet, int sort, int n) {
        if (!isSheet(sheet) || !within(sort, MISSING, FLOATS)) {
            return BAD;
        }
        if (sort == MISSING) {
            sheets[sheet].becomeRow(MISSING, 0);
            return 0;
        }
        if (n > PLACES) {
            return BAD;
        }
        if (n < 0) {
            return SIZE;
        }
        sheets[sheet].becomeRow(sort, n);
        return n;
    }

    public int mark(int sheet, int place, int v) {
        if (!isSheet(sheet)) {
            return BAD;
        }
        Sheet row = sheets[sheet];
        if (row.sort == MISSING) {
            return NOTHING;
        }
        if (!within(place, 0, row.size - 1)) {
            return INDEX;
        }
        if (row.sort == SHORTS) {
            if (v == NONE) {
                return KIND;
            }
            row.places[place] = (short) v;
            return 1;
        }
        if (v != NONE && !within(v, -FLOAT_MOST, FLOAT_MOST)) {
            return BAD;
        }
        row.places[place] = v;
        return 1;
    }

    public int pour(int cloth, int sheet) {
        if (!isCloth(cloth) || !isSheet(sheet)) {
            return BAD;
        }
        Sheet row = sheets[sheet];
        if (row.sort == MISSING) {
            return NOTHING;
        }
        int changed = 0;
        int reach = Math.min(now.scents, row.size);
        for (int s = 0; s < reach; s++) {
            if (row.places[s] != NONE) {
                changed += now.putSpot(cloth, s, held(row.places[s]));
            }
        }
        return changed;
    }

    public int copy(int from, int place, int to, int at, int many) {
        if (!isSheet(from) || !isSheet(to)) {
            return BAD;
        }
        Sheet source = sheets[from];
        Sheet target = sheets[to];
        if (source.sort == MISSING || target.sort == MISSING) {
            return NOTHING;
        }
        if (source.sort != target.sort) {
            return KIND;
        }
        if (!source.hasPlaces(place, many) || !target.hasPlaces(at, many)) {
            return INDEX;
        }
        System.arraycopy(source.places, place, target.places, at, many);
        return many;
    }

    public int lay(int slot, int thing, int k) {
        if (!isSlot(slot) || !within(thing, EMPTY, HOLDS_NUMBER)) {
            return BAD;
        }
        if (thing == HOLDS_SCENT && !isScent(k) || thing == HOLDS_SHEET && !isSheet(k)) {
            return BAD;
        }
        if (thing == HOLDS_SHEET && sheets[k].sort == MISSING) {
            return NOTHING;
        }
        Slot target = slots[slot];
        int was = target.thing;
        target.thing = thing;
        if (thing == HOLDS_SCENT) {
            target.kind = now.kinds[k];
            target.pace = now.paces[k];
        } else if (thing == HOLDS_SHEET) {
            target.row.becomeLike(sheets[k]);
        } else {
            target.number = k;
        }
        return was;
    }

    public int ask(int slot, int kind) {
        if (!isSlot(slot) || !isKind(kind)) {
            return BAD;
        }
        Slot from = slots[slot];
        if (from.thing == EMPTY) {
            return NOTHING;
        }
        if (from.thing != HOLDS_SCENT || !isUnder(from.kind, kind)) {
            return KIND;
        }
        return worth(from.kind, from.pace);
    }

    public int item(int slot, int place) {
        if (!isSlot(slot)) {
            return BAD;
        }
        Slot from = slots[slot];
        if (from.thing == EMPTY) {
            return NOTHING;
        }
        if (from.thing != HOLDS_SHEET) {
            return KIND;
        }
        if (!within(place, 0, from.row.size - 1)) {
            return INDEX;
        }
        int v = from.row.places[place];
        return v == NONE ? KIND : v;
    }

    public int rest(int slot, int n) {
        if (!isSlot(slot)) {
            return BAD;
        }
        Slot from = slots[slot];
        if (from.thing == EMPTY) {
            return NOTHING;
        }
        if (from.thing != HOLDS_NUMBER) {
            return KIND;
        }
        return n == 0 ? NO : from.number % n;
    }

    // ---- rows, images

    public int tell(int v) {
        if (waits >= WAIT_MOST) {
            return FULL;
        }
        waiting[waits] = v;
        waits++;
        return waits;
    }

    public int check(int cloth, int n) {
        int had = waits;
        waits = 0;
        if (!within(n, 1, CHECK_DAYS) || !within(cloth, 0, CLOTHS - 1)) {
            return BAD;
        }
        if (!imageKept || cloth >= image.cloths) {
            return NO;
        }
        int due = 2 * Math.min(n, LAST_DAY - image.today);
        int right = rightAhead(cloth, Math.min(had, due));
        return right == due && had == due ? 0 : 1 + right;
    }

    public int keep() {
        image.becomeLike(now);
        imageKept = true;
        return now.cloths;
    }

    public int back() {
        if (!imageKept) {
            return NO;
        }
        now.becomeLike(image);
        return now.cloths;
    }

    public int count(int what) {
        switch (what) {
            case 0:
                return now.scents;
            case 1:
                return now.cloths;
            case 2:
                return now.words;
            case 3:
                return now.today;
            case 4:
                return now.sumOfAll();
            case 5:
                return now.texts;
            case 6:
                return waits;
            case 7:
                return reader.length;
            case 8:
                return now.z;
            default:
                return BAD;
        }
    }

    // ---- what the calls share

    private static boolean within(int v, int low, int high) {
        return v >= low && v <= high;
    }

    private static int held(int v) {
        return Math.max(0, Math.min(STRONGEST, v));
    }

    private static boolean isKind(int kind) {
        return within(kind, 0, KINDS - 1);
    }

    private static boolean isNose(int nose) {
        return within(nose, 0, NOSES - 1);
    }

    private static boolean isSheet(int sheet) {
        return within(sheet, 0, SHEETS - 1);
    }

    private static boolean isSlot(int slot) {
        return within(slot, 0, SLOTS - 1);
    }

    private boolean isScent(int scent) {
        return within(scent, 0, now.scents - 1);
    }

    private boolean isCloth(int cloth) {
        return within(cloth, 0, now.cloths - 1);
    }

    private boolean isWord(int word) {
        return within(word, 0, now.words - 1);
    }

    private boolean isSpot(int cloth, int scent) {
        return isCloth(cloth) && isScent(scent);
    }

    private static boolean isUnder(int kind, int above) {
        int k = kind;
        for (int i = 0; i < KINDS && isKind(k); i++) {
            if (k == above) {
                return true;
            }
            k = KIND_ABOVE[k];
        }
        return false;
    }

    private static int worth(int kind, int pace) {
        switch (kind) {
            case HEAVY:
                return 60 - pace;
            case AMBER:
                return 2 * (60 - pace);
            case LIGHT:
                return pace + 5;
            case LEMON:
                return pace + 5 - 7;
            case MUSK:
                return 99;
            default:
                return pace;
        }
    }

    private static int wordOr99(int word) {
        return word == NONE ? NO_WORD : word;
    }

    /** Puts into course what is left of one scent behind each day that a dated sheet can reach. */
    private void followCourse(int cloth, int scent) {
        int left = now.spots[cloth][scent];
        for (int day = 0; day < course.length; day++) {
            course[day] = left;
            left -= now.loss(scent, left, now.warms[cloth], now.today + day);
        }
    }

    private int differences(Sheet row, int n) {
        int sum = 0;
        for (int k = 0; k < row.size && n + k < course.length; k++) {
            if (row.places[k] != NONE) {
                sum += Math.abs(course[n + k] - row.places[k]);
            }
        }
        return sum;
    }

    /** How many of the first numbers that waited, up to so many, are as the image's days tell them. */
    private int rightAhead(int cloth, int most) {
        recalled.begin(cloth);
        for (int i = 0; i < most; i++) {
            if (i % 2 == 0) {
                recalled.passDay();
            }
            int want = i % 2 == 0 ? wordOr99(recalled.saidTo(0)) : recalled.sum();
            if (waiting[i] != want) {
                return i;
            }
        }
        return most;
    }

    /** All that an image keeps. */
    private static final class World {
        final Texts library;
        final int[] kinds = new int[SCENTS];
        final int[] paces = new int[SCENTS];
        final int[] hides = new int[SCENTS];
        final int[] fines = new int[NOSES];
        final int[] sets = new int[WORDS];
        final int[] warms = new int[CLOTHS];
        final int[][] spots = new int[CLOTHS][SCENTS];
        final int[] counting = new int[KEYS];
        final int[] stays = new int[STRONGEST + 1];
        int scents;
        int words;
        int cloths;
        int texts;
        int today;
        int z;

        World(Texts library) {
            this.library = library;
            Arrays.fill(fines, 10);
            Arrays.fill(counting, NONE);
            z = 1;
        }

        /** Texts need no copy: those that an image counts are never written over while it is kept. */
        void becomeLike(World other) {
            System.arraycopy(other.kinds, 0, kinds, 0, SCENTS);
            System.arraycopy(other.paces, 0, paces, 0, SCENTS);
            System.arraycopy(other.hides, 0, hides, 0, SCENTS);
            System.arraycopy(other.fines, 0, fines, 0, NOSES);
            System.arraycopy(other.sets, 0, sets, 0, WORDS);
            System.arraycopy(other.warms, 0, warms, 0, CLOTHS);
            System.arraycopy(other.counting, 0, counting, 0, KEYS);
            for (int c = 0; c < CLOTHS; c++) {
                System.arraycopy(other.spots[c], 0, spots[c], 0, SCENTS);
            }
            scents = other.scents;
            words = other.words;
            cloths = other.cloths;
            texts = other.texts;
            today = other.today;
            z = other.z;
        }

        int addScent(int kind, int pace) {
            if (scents >= SCENTS) {
                return FULL;
            }
            kinds[scents] = kind;
            paces[scents] = pace;
            scents++;
            return scents - 1;
        }

        int draw() {
            z = z * 1103515245 + 12345;
            return z >>> 8;
        }

        /** Answers 1 if the strength is otherwise then, else 0. */
        int putSpot(int cloth, int scent, int amount) {
            int was = spots[cloth][scent];
            spots[cloth][scent] = amount;
            return was == amount ? 0 : 1;
        }

        int loss(int scent, int amount, int warm, int day) {
            int pace = paces[scent];
            int text = counting[FADE];
            int fade = text == NONE ? amount * (pace + warm) / 100 + 1 : library.give(text, amount, pace, warm);
            int plain = Math.max(0, Math.min(amount, fade));
            int light = Math.min(amount, plain + pace);
            switch (kinds[scent]) {
                case HEAVY:
                    return plain / 2;
                case AMBER:
                    return Math.max(0, plain / 2 - 1);
                case LIGHT:
                    return light;
                case LEMON:
                    return Math.min(amount, 2 * light);
                case MUSK:
                    return day % 2 == 1 ? plain : 0;
                default:
                    return plain;
            }
        }

        void fadeRow(int[] row, int warm, int day) {
            for (int s = 0; s < scents; s++) {
                row[s] -= loss(s, row[s], warm, day);
            }
        }

        void passDay() {
            for (int c = 0; c < cloths; c++) {
                fadeRow(spots[c], warms[c], today);
            }
            today++;
        }

        boolean isHidden(int[] row, int scent) {
            for (int s = 0; s < scents; s++) {
                if (((hides[s] >> scent) & 1) == 1 && row[s] >= 2 * row[scent]) {
                    return true;
                }
            }
            return false;
        }

        int smelled(int[] row, int nose) {
            int set = 0;
            for (int s = 0; s < scents; s++) {
                if (row[s] >= fines[nose] && !isHidden(row, s)) {
                    set |= 1 << s;
                }
            }
            return set;
        }

        int said(int[] row, int nose) {
            int set = smelled(row, nose);
            for (int w = 0; w < words; w++) {
                if (sets[w] == set) {
                    return w;
                }
            }
            return NONE;
        }

        int sumOf(int[] row) {
            int sum = 0;
            for (int s = 0; s < scents; s++) {
                sum += row[s];
            }
            return sum;
        }

        int present(int[] row) {
            int many = 0;
            for (int s = 0; s < scents; s++) {
                if (row[s] != 0) {
                    many++;
                }
            }
            return many;
        }

        int sumOfAll() {
            int sum = 0;
            for (int c = 0; c < cloths; c++) {
                sum += sumOf(spots[c]);
            }
            return sum;
        }

        /** On how many of the next n days a scent fades at all: musk rests on even ones. */
        int fadings(int scent, int n) {
            return kinds[scent] == MUSK ? (today + n) / 2 - today / 2 : n;
        }

        /**
         * No strength ever grows, so what a strength becomes was looked at before it: stays tells
         * on how many fadings it stands at fine or more, and each strength is faded but once.
         */
        int leastLeft(int scent, int warm, int fine, int n) {
            int forever = LETTER_DAYS;
            int oddDay = 1;
            int due = fadings(scent, n);
            for (int s = fine; s <= STRONGEST; s++) {
                int next = s - loss(scent, s, warm, oddDay);
                if (next == s) {
                    stays[s] = forever;
                } else {
                    stays[s] = next < fine ? 0 : stays[next] + 1;
                }
                if (stays[s] >= due) {
                    return s;
                }
            }
            return NONE;
        }
    }

    /** One cloth of a world, thought on by days; the world stays as it is. */
    private static final class Thought {
        final World world;
        final int[] row = new int[SCENTS];
        int warm;
        int day;

        Thought(World world) {
            this.world = world;
        }

        void begin(int cloth) {
            System.arraycopy(world.spots[cloth], 0, row, 0, SCENTS);
            warm = world.warms[cloth];
            day = world.today;
        }

        void passDay() {
            world.fadeRow(row, warm, day);
            day++;
        }

        void passDays(int n) {
            for (int i = 0; i < n; i++) {
                passDay();
            }
        }

        int smelledBy(int nose) {
            return world.smelled(row, nose);
        }

        int saidTo(int nose) {
            return world.said(row, nose);
        }

        int sum() {
            return world.sumOf(row);
        }
    }

    /** A row of places; one that is no number holds NONE, which no short or float here can be. */
    private static final class Sheet {
        final int[] places = new int[PLACES];
        int sort = MISSING;
        int size;

        void becomeRow(int newSort, int newSize) {
            sort = newSort;
            size = newSize;
            Arrays.fill(places, 0);
        }

        void becomeLike(Sheet other) {
            sort = other.sort;
            size = other.size;
            System.arraycopy(other.places, 0, places, 0, PLACES);
        }

        /** Taken from size, not added to place: the sum could wrap. */
        boolean hasPlaces(int place, int many) {
            return place >= 0 && many >= 0 && place <= size && many <= size - place;
        }
    }

    private static final class Slot {
        final Sheet row = new Sheet();
        int thing = EMPTY;
        int kind;
        int pace;
        int number;
    }

    /** The texts that were read, each as a row of codes in which an act stands behind what it joins. */
    private static final class Texts {
        final int[][] codes = new int[TEXTS][TAPE_BYTES];
        final int[] sizes = new int[TEXTS];
        final int[] keys = new int[TEXTS];
        final int[] leaves = new int[TEXTS];
        final int[] stack = new int[TAPE_BYTES];

        void store(int text, Reader from) {
            System.arraycopy(from.codes, 0, codes[text], 0, from.size);
            sizes[text] = from.size;
            keys[text] = from.key;
            leaves[text] = from.leaves;
        }

        /**
         * What a text gives, with a, b, c for its names, in the order of Reader.names. The stack is
         * as long as a row of codes, and each code puts at most one number on it: it never fills.
         */
        int give(int text, int a, int b, int c) {
            int top = 0;
            for (int i = 0; i < sizes[text]; i++) {
                int code = codes[text][i];
                if (code >= Reader.FIRST_NAME) {
                    stack[top] = code >= 0 ? code : named(code, a, b, c);
                    top++;
                } else if (code == -'!' && top >= 1) {
                    stack[top - 1] = stack[top - 1] == 0 ? 1 : 0;
                } else if (top >= 2) {
                    top--;
                    stack[top - 1] = join(-code, stack[top - 1], stack[top]);
                }
            }
            return stack[0];
        }

        static int named(int code, int a, int b, int c) {
            int place = code - Reader.FIRST_NAME;
            if (place == 0) {
                return a;
            }
            return place == 1 ? b : c;
        }

        static int join(int sign, int a, int b) {
            switch (sign) {
                case '|':
                    return a != 0 || b != 0 ? 1 : 0;
                case '&':
                    return a != 0 && b != 0 ? 1 : 0;
                case '<':
                    return a < b ? 1 : 0;
                case '=':
                    return a == b ? 1 : 0;
                case '>':
                    return a > b ? 1 : 0;
                case '+':
                    return a + b;
                case '-':
                    return a - b;
                case '*':
                    return a * b;
                default:
                    return b == 0 ? 0 : a / b;
            }
        }
    }

    /** The tape, and the reading of it as a text: at .. end is the word or sign that comes next. */
    private static final class Reader {
        static final int FIRST_NAME = -3, TEST_LEVEL = 2, PIECE_LEVEL = 5;

        final int[] tape = new int[TAPE_BYTES];
        final int[] codes = new int[TAPE_BYTES];
        int length;
        int at;
        int end;
        int fault;
        int key;
        int size;
        int leaves;

        void takeBytes(int v) {
            for (int shift = 24; shift >= 0 && length < TAPE_BYTES; shift -= 8) {
                tape[length] = (v >>> shift) & 255;
                length++;
            }
        }

        /** The place of the fault, or -1: then key, codes, size and leaves are the text. */
        int readTape() {
            fault = -1;
            end = 0;
            size = 0;
            leaves = 0;
            moveOn();
            key = keyHere();
            if (key < 0) {
                fail();
                return fault;
            }
            moveOn();
            readLevel(0, 0, 0);
            if (at < length) {
                fail();
            }
            return fault;
        }

        /** Only the first fault counts; behind it nothing is taken any more. */
        private void fail() {
            if (fault < 0) {
                fault = at;
            }
        }

        private void moveOn() {
            at = end;
            while (at < length && tape[at] == ' ') {
                at++;
            }
            end = at;
            while (end < length && isLetter(tape[at]) && isLetter(tape[end])) {
                end++;
            }
            while (end < length && isDigit(tape[at]) && isDigit(tape[end])) {
                end++;
            }
            if (end == at && at < length) {
                end++;
            } else if (at > 0 && at < length && (isLetter(tape[at - 1]) || isDigit(tape[at - 1]))) {
                fail();
            }
        }

        private static boolean isLetter(int b) {
            return b >= 'a' && b <= 'z';
        }

        private static boolean isDigit(int b) {
            return b >= '0' && b <= '9';
        }

        private int keyHere() {
            if (isHere("fade")) {
                return FADE;
            }
            if (isHere("price")) {
                return PRICE;
            }
            return isHere("lie") ? LIE : -1;
        }

        private boolean isHere(String wanted) {
            if (end - at != wanted.length()) {
                return false;
            }
            for (int i = 0; i < wanted.length(); i++) {
                if (tape[at + i] != wanted.charAt(i)) {
                    return false;
                }
            }
            return true;
        }

        private boolean isSignOf(String signs) {
            return fault < 0 && at < length && signs.indexOf((char) tape[at]) >= 0;
        }

        private void put(int code) {
            if (fault < 0 && size < codes.length) {
                codes[size] = code;
                size++;
            }
        }

        /** The signs that join the parts of E: of OR, AND, TEST, SUM, TERM, the loosest first. */
        private static String signsOf(int level) {
            switch (level) {
                case 0:
                    return "|";
                case 1:
                    return "&";
                case TEST_LEVEL:
                    return "<=>";
                case 3:
                    return "+-";
                default:
                    return "*/";
            }
        }

        private void readLevel(int level, int parens, int nots) {
            if (level >= PIECE_LEVEL) {
                readPiece(parens, nots);
                return;
            }
            readLevel(level + 1, parens, nots);
            int most = level == TEST_LEVEL ? 1 : TAPE_BYTES;
            for (int i = 0; i < most && isSignOf(signsOf(level)); i++) {
                int sign = tape[at];
                moveOn();
                readLevel(level + 1, parens, nots);
                put(-sign);
            }
        }

        /** parens and nots count what stands open here, so that the depth has a bound. */
        private void readPiece(int parens, int nots) {
            if (isSignOf("!") && nots < DEEPEST) {
                moveOn();
                readPiece(parens, nots + 1);
                put(-'!');
            } else if (isSignOf("(") && parens < DEEPEST) {
                moveOn();
                readLevel(0, parens + 1, nots);
                if (isSignOf(")")) {
                    moveOn();
                } else {
                    fail();
                }
            } else {
                readLeaf();
            }
        }

        private void readLeaf() {
            int code = leafCode();
            if (code < FIRST_NAME) {
                fail();
                return;
            }
            put(code);
            leaves++;
            moveOn();
        }

        /** A number's or name's code, or one below all of them: there is none here. */
        private int leafCode() {
            int none = FIRST_NAME - 1;
            if (fault >= 0 || at >= length) {
                return none;
            }
            if (isDigit(tape[at])) {
                return end - at <= LONGEST_NUMBER ? numberHere() : none;
            }
            int place = end - at == 1 ? names().indexOf((char) tape[at]) : -1;
            return place < 0 ? none : FIRST_NAME + place;
        }

        private int numberHere() {
            int v = 0;
            for (int i = at; i < end; i++) {
                v = v * 10 + tape[i] - '0';
            }
            return v;
        }

        private String names() {
            if (key == FADE) {
                return "spw";
            }
            return key == PRICE ? "tn" : "dn";
        }
    }
}
