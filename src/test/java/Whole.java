import java.util.ArrayList;
import java.util.HashMap;
import java.util.List;
import java.util.Map;

/**
 * All that an object can tell of itself, so that one can be held against another. Looking changes things (a nose tells
 * what it was by becoming another one), so each look is taken at an object of its own, on which all was called anew.
 */
final class Whole {
    private static final int SCENTS = 9, CLOTHS = 6, NOSES = 4, WORDS = 12, TEXTS = 14, SHEETS = 4, SLOTS = 5, PLACES = 25;
    private static final List<String> WORLD = List.of(things(), laws(), sayings());
    private static final List<String> OTHERS =
        List.of(places(), sorts(), slots(), "count 6; check 0 1", "check 0 2", "check 0 30", tape(""), tape("back;"));
    private static final Map<String, List<List<Integer>>> KNOWN = new HashMap<>();

    private Whole() {
    }

    /** What is otherwise behind some calls than behind others; nothing, if all is the same. */
    static String difference(String calls, String others) {
        return firstDifference(all(), calls, others);
    }

    /** As far as an image keeps it: sheets, slots, numbers that wait and the tape left out. */
    static String worldDifference(String calls, String others) {
        return firstDifference(WORLD, calls, others);
    }

    /** Only what no image keeps. */
    static String restDifference(String calls, String others) {
        return firstDifference(List.of(places(), sorts(), slots(), "count 6", "count 7"), calls, others);
    }

    private static List<String> all() {
        List<String> looks = new ArrayList<>(WORLD);
        looks.addAll(OTHERS);
        for (String look : WORLD) {
            looks.add("back;" + look);
        }
        return looks;
    }

    private static String firstDifference(List<String> looks, String calls, String others) {
        List<List<Integer>> as = KNOWN.computeIfAbsent(others + looks, key -> seen(looks, others));
        for (int i = 0; i < looks.size(); i++) {
            List<Integer> is = seen(looks.get(i), calls);
            for (int k = 0; k < is.size(); k++) {
                if (!is.get(k).equals(as.get(i).get(k))) {
                    return Run.named(looks.get(i), k) + " answers " + is.get(k) + ", not " + as.get(i).get(k);
                }
            }
        }
        return "";
    }

    private static List<List<Integer>> seen(List<String> looks, String calls) {
        List<List<Integer>> all = new ArrayList<>();
        for (String look : looks) {
            all.add(seen(look, calls));
        }
        return all;
    }

    private static List<Integer> seen(String look, String calls) {
        Run run = new Run(new ScentCloth());
        run.answers(calls);
        return run.answers(look);
    }

    private static String things() {
        StringBuilder look = new StringBuilder();
        each(look, "count %d;", 6);
        look.append("count 8;");
        for (int what = 0; what < 4; what++) {
            each(look, "told %d " + what + ";", SCENTS);
        }
        each(look, "wordOf %d;", WORDS);
        for (int scent = 0; scent < SCENTS; scent++) {
            each(look, "strength %d " + scent + ";", CLOTHS);
        }
        each(look, "nose %d 500;", NOSES);
        each(look, "warm %d 25;", CLOTHS);
        return look.toString();
    }

    private static String laws() {
        StringBuilder look = new StringBuilder();
        each(look, "why %d;", 3);
        each(look, "textTold %d 0;", TEXTS);
        each(look, "textTold %d 1;", TEXTS);
        each(look, "price %d;", CLOTHS);
        each(look, "lie %d;", CLOTHS);
        for (int scent = 0; scent < SCENTS; scent++) {
            each(look, "loses %d " + scent + ";", CLOTHS);
        }
        return look.toString();
    }

    private static String sayings() {
        StringBuilder look = new StringBuilder();
        for (int nose = 0; nose < NOSES; nose++) {
            each(look, "smells %d " + nose + ";", CLOTHS);
            each(look, "says %d " + nose + ";", CLOTHS);
            each(look, "behind %d " + nose + " 9;", CLOTHS);
        }
        return look.toString();
    }

    private static String places() {
        StringBuilder look = new StringBuilder();
        for (int sheet = 0; sheet < SHEETS; sheet++) {
            look.append("lay 4 0 0; lay 4 2 ").append(sheet).append(';');
            each(look, "item 4 %d;", PLACES);
        }
        return look.toString();
    }

    /** Only rows of one sort can be copied, be it no place at all: so an empty row tells its sort, too. */
    private static String sorts() {
        return "copy 3 0 3 0 0; copy 3 0 0 0 0; copy 3 0 1 0 0; copy 3 0 2 0 0; sheet 3 0 0;"
            + "copy 0 0 3 0 0; copy 1 0 3 0 0; copy 2 0 3 0 0";
    }

    private static String slots() {
        StringBuilder look = new StringBuilder();
        for (int slot = 0; slot < SLOTS; slot++) {
            each(look, "ask " + slot + " %d;", 6);
            each(look, "item " + slot + " %d;", PLACES);
            look.append("rest ").append(slot).append(" MIN; rest ").append(slot).append(" 1000003;");
            look.append("lay ").append(slot).append(" 0 0;");
        }
        return look.toString();
    }

    /** The tape tells what is on it as a text. */
    private static String tape(String ahead) {
        StringBuilder look = new StringBuilder(ahead).append("count 7; text; count 5;");
        each(look, "textTold %d 0;", TEXTS);
        each(look, "textTold %d 1;", TEXTS);
        each(look, "lie %d;", CLOTHS);
        return look.append("price 0; loses 0 0").toString();
    }

    private static void each(StringBuilder look, String call, int many) {
        for (int i = 0; i < many; i++) {
            look.append(String.format(call, i));
        }
    }
}
