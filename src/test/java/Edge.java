import java.lang.reflect.Method;
import java.util.ArrayList;
import java.util.Comparator;
import java.util.List;
import java.util.NoSuchElementException;
import java.util.function.LongSupplier;

/** What the tests of single sentences share; each such test is a method that is named after its promise. */
final class Edge {
    /**
     * LEADS g 0, k 1, n 2, kk 3. MIDDLES a 0, o 1, ao 2. ENDS none 0, k 1, n 2, t 3, nt 4, kk 5.
     * A CODE is (LEAD * 3 + MIDDLE) * 6 + END; there are 72.
     */
    static final String TEXT = "lead g;both k;both n;final t;vowel a;vowel o;old z;twin k;"
            + "pair a o;pair n t;pair k k";
    /** As many KEYS, twins and pairs as there can be: 13 LEADS, 11 MIDDLES, 10 ENDS. */
    static final String WIDEST = "lead a;lead b;both c;both d;final e;lead f;lead g;lead h;lead i;both j;"
            + "vowel k;vowel l;vowel m;vowel n;vowel o;vowel p;vowel q;vowel r;old s;old t;old u;old v;"
            + "twin a;twin c;twin b;twin d;pair k l;pair l l;pair c d;pair d d;pair e c;pair e e;pair d e;pair q r";
    static final int LOW = Integer.MIN_VALUE;
    static final int HIGH = Integer.MAX_VALUE;

    private Edge() {
    }

    /** Runs every promise.. method of a test; each promise from the first to the last must have one. */
    static void runAll(Class<?> test, int first, int last) throws Exception {
        List<Method> found = new ArrayList<>();
        for (Method method : test.getDeclaredMethods()) {
            if (method.getName().startsWith("promise")) {
                found.add(method);
            }
        }
        found.sort(Comparator.comparing(Method::getName));
        for (int promise = first; promise <= last; promise++) {
            String name = "promise" + promise;
            Check.holds(name + " has a test", found.stream().anyMatch(m -> m.getName().matches(name + "[A-Z].*")));
        }
        for (Method method : found) {
            method.setAccessible(true);
            Check.heading = method.getName() + ": ";
            method.invoke(null);
        }
        Check.heading = "";
        Check.end(test.getSimpleName());
    }

    static StolenFinals scripted() {
        return scripted(TEXT);
    }

    static StolenFinals scripted(String text) {
        StolenFinals x = new StolenFinals();
        Check.holds("the script " + text, Face.script(x, text) > 0);
        return x;
    }

    static StolenFinals typed(String row) {
        StolenFinals x = scripted();
        Face.type(x, row);
        Check.due("the row typed", Face.row(x), row);
        return x;
    }

    static StolenFinals typed(String row, int caret) {
        StolenFinals x = typed(row);
        x.goes(caret);
        return x;
    }

    static void due(String what, long got, long want) {
        Check.due(what, got, want);
    }

    static void due(String what, String got, String want) {
        Check.due(what, got, want);
    }

    /** The call wasn't refused, and answered this. */
    static void answers(String what, StolenFinals x, long got, long want) {
        due(what, got, want);
        due("trouble() of " + what, x.trouble(), 0);
        due("where() of " + what, x.where(), StolenFinals.NONE);
    }

    /** A call that is refused for this reason, and changes nothing; THE TAPE stays, too. */
    static void refuses(String what, StolenFinals x, int why, LongSupplier call) {
        int tape = x.size();
        refusesWithTape(what, x, why, tape, call);
    }

    /** A call that is refused for this reason, and changes nothing but THE TAPE, which is empty then. */
    static void refusesAndEmpties(String what, StolenFinals x, int why, LongSupplier call) {
        Check.holds("the tape isn't empty ahead of " + what, x.size() > 0);
        refusesWithTape(what, x, why, 0, call);
    }

    private static void refusesWithTape(String what, StolenFinals x, int why, int tape, LongSupplier call) {
        String state = state(x);
        int fault = x.fault();
        due(what, call.getAsLong(), StolenFinals.NONE);
        due("trouble() of " + what, x.trouble(), why);
        due("where() of " + what, x.where(), StolenFinals.NONE);
        due("fault() of " + what, x.fault(), fault);
        due("size() of " + what, x.size(), tape);
        due("what there is behind " + what, state(x), state);
    }

    /** A text with a FAULT on an object that has a SCRIPT already, and one on a new object. */
    static void faulty(String text, int fault, int where) {
        for (StolenFinals x : new StolenFinals[] {new StolenFinals(), typed("kan|a", 2)}) {
            String state = state(x);
            due("script(" + text + ")", Face.script(x, text), StolenFinals.NONE);
            due("trouble() of " + text, x.trouble(), 4);
            due("fault() of " + text, x.fault(), fault);
            due("where() of " + text, x.where(), where);
            due("size() of " + text, x.size(), 0);
            due("what there is behind " + text, state(x), state);
        }
    }

    static void sound(String text, int keys) {
        StolenFinals x = new StolenFinals();
        answers("script(" + text + ")", x, Face.script(x, text), keys);
        due("fault() of " + text, x.fault(), 0);
    }

    /**
     * THE SCRIPT's numbers, THE ROW, THE CARET, where the ITEMS begin and how many ACTS can be undone. Of
     * each place and each ITEM one call alone: two states of a full row must go into an object's 512 calls.
     */
    static String state(StolenFinals x) {
        int[] facts = new int[13];
        facts[0] = x.about(0);
        if (facts[0] < 0) {
            return "no script";
        }
        StringBuilder text = new StringBuilder().append(facts[0]);
        for (int what = 1; what < 13; what++) {
            facts[what] = x.about(what);
            text.append(' ').append(facts[what]);
        }
        text.append(' ');
        for (int sort = 0; sort < 3; sort++) {
            for (int k = 0; k < facts[sort]; k++) {
                text.append((char) x.told(sort, k));
            }
        }
        text.append(' ');
        for (int place = 0; place < facts[6]; place++) {
            text.append((char) x.at(place));
        }
        for (int i = 0; i < facts[7]; i++) {
            text.append(' ').append(x.item(i, 5));
        }
        return text.toString();
    }

    /** The ITEMS as texts of their KEYS, with their SORTS. */
    static String items(StolenFinals x) {
        StringBuilder text = new StringBuilder();
        int count = x.about(7);
        for (int i = 0; i < count; i++) {
            text.append(i == 0 ? "" : " ").append(x.item(i, 0));
            int first = x.item(i, 5);
            int behind = first + x.item(i, 6);
            for (int place = first; place < behind; place++) {
                text.append((char) x.at(place));
            }
        }
        return text.toString();
    }

    static void makes(String row, String items, int stolen) {
        StolenFinals x = typed(row);
        due("items of " + row, items(x), items);
        due("stolen keys of " + row, x.about(9), stolen);
    }

    static boolean throwsNone(StolenFinals x, int sort, int k) {
        try {
            x.told(sort, k);
            return false;
        } catch (NoSuchElementException e) {
            return true;
        }
    }
}
