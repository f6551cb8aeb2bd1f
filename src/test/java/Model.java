import java.util.ArrayList;
import java.util.Collections;
import java.util.Comparator;
import java.util.List;
import java.util.NoSuchElementException;

/**
 * The document told a second time, in the plainest way and without a thought for speed, so that
 * StolenFinals can be held against it. Shares no code with it on purpose.
 */
final class Model {
    static final class Told {
        final StringBuilder consonants = new StringBuilder();
        final StringBuilder vowels = new StringBuilder();
        final StringBuilder olds = new StringBuilder();
        final StringBuilder leading = new StringBuilder();
        final StringBuilder closing = new StringBuilder();
        final List<String> twins = new ArrayList<>();
        final List<String> pairs = new ArrayList<>();
        List<String> leads = new ArrayList<>();
        List<String> middles = new ArrayList<>();
        List<String> ends = new ArrayList<>();

        boolean knows(int key) {
            return keys().indexOf(key) >= 0;
        }

        String keys() {
            return "" + consonants + vowels + olds;
        }

        boolean leads(int key) {
            return leading.indexOf("" + (char) key) >= 0;
        }

        boolean closes(int key) {
            return closing.indexOf("" + (char) key) >= 0;
        }

        boolean isVowel(int key) {
            return vowels.indexOf("" + (char) key) >= 0;
        }

        boolean isOld(int key) {
            return olds.indexOf("" + (char) key) >= 0;
        }

        void number() {
            for (char c : leading.toString().toCharArray()) {
                leads.add("" + c);
            }
            leads.addAll(twins);
            for (char c : vowels.toString().toCharArray()) {
                middles.add("" + c);
            }
            ends.add("");
            for (char c : closing.toString().toCharArray()) {
                ends.add("" + c);
            }
            for (String pair : pairs) {
                (isVowel(pair.charAt(0)) ? middles : ends).add(pair);
            }
        }
    }

    /** An ITEM is told by the texts of its parts; null: it has none. */
    static final class Item {
        String lead;
        String middle;
        String end;
        String lone;
        int first;
        boolean stolenLead;

        int sort() {
            return lone != null ? 3 : lead == null ? 2 : middle == null ? 1 : 0;
        }

        String text() {
            return (lead == null ? "" : lead) + (middle == null ? "" : middle)
                    + (end == null ? "" : end) + (lone == null ? "" : lone);
        }

        String likeness() {
            return sort() + ":" + lead + ":" + middle + ":" + end + ":" + lone;
        }
    }

    private record Fault(int place, int number) {
    }

    private record State(String row, int caret) {
    }

    private final List<Integer> tape = new ArrayList<>();
    private Told script = null;
    private String row = "";
    private int caret = 0;
    private final List<State> acts = new ArrayList<>();
    private int fault = 0;
    private int where = -1;
    private int trouble = 0;

    // ---- the text

    private static String tokenAt(String text, int from) {
        int i = from;
        while (i < text.length() && text.charAt(i) >= 'a' && text.charAt(i) <= 'z') {
            i++;
        }
        return i > from ? text.substring(from, i) : text.substring(from, Math.min(from + 1, text.length()));
    }

    private static Fault parse(String text, Told told) {
        List<Integer> places = new ArrayList<>();
        List<String> tokens = new ArrayList<>();
        for (int i = 0; i < text.length(); ) {
            if (text.charAt(i) == ' ') {
                i++;
                continue;
            }
            String token = tokenAt(text, i);
            places.add(i);
            tokens.add(token);
            i += token.length();
        }
        places.add(text.length());
        tokens.add("");
        for (int t = 0; ; ) {
            String word = tokens.get(t);
            int wanted = word.equals("pair") ? 2 : 1;
            if (!List.of("lead", "both", "final", "vowel", "old", "twin", "pair").contains(word)) {
                return new Fault(places.get(t), 1);
            }
            if (tooMany(word, told)) {
                return new Fault(places.get(t), 3);
            }
            t++;
            String named = "";
            for (int k = 0; k < wanted; k++, t++) {
                String key = tokens.get(t);
                if (!key.matches("[a-z]")) {
                    return new Fault(places.get(t), 1);
                }
                named += key;
                if (wrongKey(word, named, told)) {
                    return new Fault(places.get(t), 2);
                }
            }
            tell(word, named, told);
            if (tokens.get(t).isEmpty()) {
                boolean lacks = told.leading.length() == 0 || told.vowels.length() == 0;
                return lacks ? new Fault(text.length(), 4) : null;
            }
            if (!tokens.get(t).equals(";")) {
                return new Fault(places.get(t), 1);
            }
            t++;
        }
    }

    private static boolean tooMany(String word, Told told) {
        switch (word) {
            case "vowel": return told.vowels.length() == 8;
            case "old": return told.olds.length() == 4;
            case "twin": return told.twins.size() == 4;
            case "pair": return told.pairs.size() == 8;
            default: return told.consonants.length() == 10;
        }
    }

    private static boolean wrongKey(String word, String named, Told told) {
        char key = named.charAt(0);
        if (word.equals("twin")) {
            return !told.leads(key) || told.twins.contains(named + named);
        }
        if (!word.equals("pair")) {
            return told.knows(key);
        }
        if (named.length() == 1) {
            return !told.isVowel(key) && !told.closes(key);
        }
        char second = named.charAt(1);
        boolean fits = told.isVowel(key) ? told.isVowel(second) : told.closes(second);
        return !fits || told.pairs.contains(named);
    }

    private static void tell(String word, String named, Told told) {
        switch (word) {
            case "twin": told.twins.add(named + named); return;
            case "pair": told.pairs.add(named); return;
            case "vowel": told.vowels.append(named); return;
            case "old": told.olds.append(named); return;
            default: told.consonants.append(named);
        }
        if (!word.equals("final")) {
            told.leading.append(named);
        }
        if (!word.equals("lead")) {
            told.closing.append(named);
        }
    }

    // ---- the machine

    static List<Item> machine(Told s, String row) {
        List<Item> items = new ArrayList<>();
        Item open = null;
        for (int place = 0; place < row.length(); place++) {
            char c = row.charAt(place);
            String text = "" + c;
            if (c == '|') {
                open = null;
                continue;
            }
            if (open != null && grows(s, open, c)) {
                continue;
            }
            Item item = new Item();
            item.first = place;
            if (open != null && s.isVowel(c) && open.end != null && !open.end.isEmpty()
                    && s.leads(open.end.charAt(open.end.length() - 1))) {
                item.lead = open.end.substring(open.end.length() - 1);
                item.middle = text;
                item.end = "";
                item.first = place - 1;
                item.stolenLead = true;
                open.end = open.end.substring(0, open.end.length() - 1);
            } else if (s.isVowel(c)) {
                item.middle = text;
            } else if (s.leads(c)) {
                item.lead = text;
            } else {
                item.lone = text;
            }
            items.add(item);
            open = item.lone == null ? item : null;
        }
        return items;
    }

    private static boolean grows(Told s, Item open, char c) {
        boolean leadAlone = open.lead != null && open.middle == null;
        boolean block = open.lead != null && open.middle != null;
        if (s.isOld(c)) {
            return false;
        }
        if (s.isVowel(c)) {
            if (leadAlone) {
                open.middle = "" + c;
                open.end = "";
                return true;
            }
            boolean noEnd = open.end == null || open.end.isEmpty();
            if (noEnd && s.pairs.contains(open.middle + c)) {
                open.middle += c;
                return true;
            }
            return false;
        }
        if (leadAlone && open.lead.equals("" + c) && s.twins.contains("" + c + c)) {
            open.lead += c;
            return true;
        }
        if (block && open.end.isEmpty() && s.closes(c)) {
            open.end = "" + c;
            return true;
        }
        if (block && open.end.length() == 1 && s.pairs.contains(open.end + c)) {
            open.end += c;
            return true;
        }
        return false;
    }

    private List<Item> items() {
        return script == null ? new ArrayList<>() : machine(script, row);
    }

    private static List<String> likenesses(List<Item> items) {
        List<String> all = new ArrayList<>();
        for (Item item : items) {
            all.add(item.likeness());
        }
        return all;
    }

    /** BARE, word for word: every ITEM is tried by reading the whole row up to it. */
    private static String bareRow(Told s, List<String> texts, List<String> wanted) {
        String made = "";
        for (int i = 0; i < texts.size(); i++) {
            List<String> got = likenesses(machine(s, made + texts.get(i)));
            boolean like = got.equals(wanted.subList(0, i + 1));
            made += (i > 0 && !like ? "|" : "") + texts.get(i);
        }
        return made;
    }

    private String bareOfItems() {
        List<Item> items = items();
        List<String> texts = new ArrayList<>();
        for (Item item : items) {
            texts.add(item.text());
        }
        return bareRow(script, texts, likenesses(items));
    }

    private static int breaks(String row) {
        return (int) row.chars().filter(c -> c == '|').count();
    }

    private static int stolen(List<Item> items) {
        return (int) items.stream().filter(item -> item.stolenLead).count();
    }

    // ---- answers

    private int yes(int answer) {
        trouble = 0;
        where = -1;
        return answer;
    }

    private int no(int why) {
        trouble = why;
        where = -1;
        return -1;
    }

    private void act(String newRow, int newCaret) {
        acts.add(new State(row, caret));
        if (acts.size() > 30) {
            acts.remove(0);
        }
        row = newRow;
        caret = newCaret;
    }

    private String firstBytes(int n) {
        StringBuilder text = new StringBuilder();
        for (int b : tape.subList(0, n)) {
            text.append((char) b);
        }
        return text.toString();
    }

    /** One call of the face by its name; told() throws as the face does. */
    long call(String name, int... a) {
        switch (name) {
            case "feed": return feed(a);
            case "script": return script(a[0]);
            case "fault": return fault;
            case "where": return where;
            case "about": return about(a[0]);
            case "letter": return letter(a[0], a[1]);
            case "code": return code(a[0], a[1], a[2]);
            case "parts": return parts(a[0], a[1]);
            case "spelt": return spelt(a[0], a[1]);
            case "key": return script == null || !script.knows(a[0]) ? no(1) : put("" + (char) a[0]);
            case "brk": return script == null ? no(1) : put("|");
            case "type": return type(a[0]);
            case "back": return back();
            case "del": return del();
            case "goes": return goes(a[0]);
            case "tidy": return tidy();
            case "codes": return codes(a[0]);
            case "undo": return undo();
            case "at": return a[0] < 0 || a[0] >= row.length() ? no(1) : yes(row.charAt(a[0]));
            case "of": return of(a[0], a[1]);
            case "item": return item(a[0], a[1]);
            case "within": return within();
            case "needed": return needed(a[0]);
            case "bare": return script == null ? no(1) : yes(breaks(bareOfItems()));
            case "would": return would(a[0], a[1]);
            case "seek": return seek(a[0], a[1]);
            case "ranked": return ranked(a[0]);
            case "ways": return ways(a[0], a[1]);
            case "whole": return whole(a[0]);
            case "told": return told(a[0], a[1]);
            case "size": return tape.size();
            case "trouble": return trouble;
            default: throw new IllegalArgumentException(name);
        }
    }

    private int feed(int[] numbers) {
        if (tape.size() + 20 > 300) {
            return -1;
        }
        for (int number : numbers) {
            tape.add(number >>> 24);
            tape.add(number >>> 16 & 255);
            tape.add(number >>> 8 & 255);
            tape.add(number & 255);
        }
        return tape.size();
    }

    private int script(int n) {
        if (n < 0 || n > tape.size()) {
            return no(2);
        }
        Told told = new Told();
        Fault found = parse(firstBytes(n), told);
        tape.clear();
        fault = found == null ? 0 : found.number();
        if (found != null) {
            no(4);
            where = found.place();
            return -1;
        }
        told.number();
        script = told;
        row = "";
        caret = 0;
        acts.clear();
        return yes(told.keys().length());
    }

    private int about(int what) {
        if (script == null || what < 0 || what > 12) {
            return no(1);
        }
        List<Item> items = items();
        int[] facts = {script.consonants.length(), script.vowels.length(), script.olds.length(),
            script.leads.size(), script.middles.size(), script.ends.size(), row.length(), items.size(),
            (int) items.stream().filter(item -> item.sort() == 0).count(), stolen(items), breaks(row),
            caret, acts.size()};
        return yes(facts[what]);
    }

    private static int numberIn(List<String> list, String text) {
        return text == null || list.indexOf(text) < 0 ? -2 : list.indexOf(text);
    }

    private int letter(int key, int what) {
        if (script == null || !script.knows(key) || what < 0 || what > 4) {
            return no(1);
        }
        String c = "" + (char) key;
        int sort = script.isOld(key) ? 4 : script.isVowel(key) ? 3
                : !script.leads(key) ? 2 : script.closes(key) ? 1 : 0;
        int[] facts = {sort, numberIn(script.leads, c), numberIn(script.ends, c),
            numberIn(script.middles, c), numberIn(script.leads, c + c)};
        return yes(facts[what]);
    }

    private boolean isIn(List<String> list, int number) {
        return number >= 0 && number < list.size();
    }

    private int codeOf(Item item) {
        int lead = script.leads.indexOf(item.lead);
        int middle = script.middles.indexOf(item.middle);
        return (lead * script.middles.size() + middle) * script.ends.size() + script.ends.indexOf(item.end);
    }

    private int code(int lead, int middle, int end) {
        if (script == null || !isIn(script.leads, lead) || !isIn(script.middles, middle)
                || !isIn(script.ends, end)) {
            return no(1);
        }
        return yes((lead * script.middles.size() + middle) * script.ends.size() + end);
    }

    /** The BLOCK of a CODE, found by trying all; null: there is no such CODE. */
    private Item blockOf(int code) {
        for (String lead : script.leads) {
            for (String middle : script.middles) {
                for (String end : script.ends) {
                    Item item = new Item();
                    item.lead = lead;
                    item.middle = middle;
                    item.end = end;
                    if (codeOf(item) == code) {
                        return item;
                    }
                }
            }
        }
        return null;
    }

    private int parts(int code, int what) {
        Item block = script == null ? null : blockOf(code);
        if (block == null || what < 0 || what > 2) {
            return no(1);
        }
        return yes(what == 0 ? script.leads.indexOf(block.lead)
                : what == 1 ? script.middles.indexOf(block.middle) : script.ends.indexOf(block.end));
    }

    private int spelt(int code, int k) {
        Item block = script == null ? null : blockOf(code);
        if (block == null || k < 0) {
            return no(1);
        }
        return yes(k < block.text().length() ? block.text().charAt(k) : -2);
    }

    private int put(String signs) {
        if (row.length() + signs.length() > 80) {
            return no(3);
        }
        act(row.substring(0, caret) + signs + row.substring(caret), caret + signs.length());
        return yes(items().size());
    }

    private int type(int n) {
        if (script == null) {
            return no(1);
        }
        if (n < 0 || n > tape.size()) {
            return no(2);
        }
        String signs = firstBytes(n);
        tape.clear();
        for (char c : signs.toCharArray()) {
            if (c != '|' && !script.knows(c)) {
                return no(5);
            }
        }
        return put(signs);
    }

    private int back() {
        if (script == null) {
            return no(1);
        }
        if (caret == 0) {
            return no(5);
        }
        act(row.substring(0, caret - 1) + row.substring(caret), caret - 1);
        return yes(items().size());
    }

    private int del() {
        if (script == null) {
            return no(1);
        }
        if (caret == row.length()) {
            return no(5);
        }
        act(row.substring(0, caret) + row.substring(caret + 1), caret);
        return yes(items().size());
    }

    private int goes(int place) {
        if (script == null) {
            return no(1);
        }
        if (place < 0 || place > row.length()) {
            return no(2);
        }
        int was = caret;
        act(row, place);
        return yes(was);
    }

    private int tidy() {
        if (script == null) {
            return no(1);
        }
        int fewer = breaks(row);
        int keysAhead = caret - breaks(row.substring(0, caret));
        String tidied = bareOfItems();
        int place = 0;
        while (place - breaks(tidied.substring(0, place)) < keysAhead) {
            place++;
        }
        act(tidied, place);
        return yes(fewer - breaks(row));
    }

    private int codes(int n) {
        if (script == null) {
            return no(1);
        }
        if (n <= 0 || n > tape.size() || n % 2 == 1) {
            return no(2);
        }
        List<String> texts = new ArrayList<>();
        List<String> wanted = new ArrayList<>();
        boolean unknown = false;
        for (int i = 0; i < n; i += 2) {
            Item block = blockOf(tape.get(i) * 256 + tape.get(i + 1));
            if (block == null) {
                unknown = true;
            } else {
                texts.add(block.text());
                wanted.add(block.likeness());
            }
        }
        tape.clear();
        if (unknown) {
            return no(5);
        }
        return put((caret > 0 ? "|" : "") + bareRow(script, texts, wanted) + (caret < row.length() ? "|" : ""));
    }

    private int undo() {
        if (script == null) {
            return no(1);
        }
        if (acts.isEmpty()) {
            return no(5);
        }
        State was = acts.remove(acts.size() - 1);
        row = was.row();
        caret = was.caret();
        return yes(acts.size());
    }

    private int itemAt(int place) {
        List<Item> items = items();
        for (int i = 0; i < items.size(); i++) {
            Item item = items.get(i);
            if (place >= item.first && place < item.first + item.text().length()) {
                return i;
            }
        }
        return -2;
    }

    private int of(int place, int what) {
        if (place < 0 || place >= row.length() || what < 0 || what > 2) {
            return no(1);
        }
        int i = itemAt(place);
        if (i < 0) {
            return yes(what == 1 ? 0 : -2);
        }
        Item item = items().get(i);
        int k = place - item.first;
        if (what == 0) {
            return yes(i);
        }
        if (what == 1) {
            return yes(item.stolenLead && k == 0 ? 1 : 0);
        }
        int leadKeys = item.lead == null ? 0 : item.lead.length();
        int middleKeys = item.middle == null ? 0 : item.middle.length();
        return yes(item.lone != null ? 3 : k < leadKeys ? 0 : k < leadKeys + middleKeys ? 1 : 2);
    }

    private int item(int i, int what) {
        List<Item> items = items();
        if (i < 0 || i >= items.size() || what < 0 || what > 6) {
            return no(1);
        }
        Item item = items.get(i);
        int[] facts = {item.sort(), numberIn(script.leads, item.lead), numberIn(script.middles, item.middle),
            numberIn(script.ends, item.end), item.sort() == 0 ? codeOf(item) : -2, item.first,
            item.text().length()};
        return yes(facts[what]);
    }

    private int within() {
        if (script == null) {
            return no(1);
        }
        boolean among = caret > 0 && caret < row.length() && itemAt(caret - 1) == itemAt(caret);
        return yes(among ? itemAt(caret) : -2);
    }

    private int needed(int place) {
        if (place < 0 || place >= row.length()) {
            return no(1);
        }
        if (row.charAt(place) != '|') {
            return no(5);
        }
        List<Item> then = machine(script, row.substring(0, place) + row.substring(place + 1));
        return yes(likenesses(then).equals(likenesses(items())) ? 0 : 1);
    }

    private int would(int key, int what) {
        if (script == null || (key != '|' && !script.knows(key)) || what < 0 || what > 3) {
            return no(1);
        }
        if (row.length() >= 80) {
            return no(3);
        }
        List<Item> changed = machine(script, row.substring(0, caret) + (char) key + row.substring(caret));
        List<String> now = likenesses(items());
        List<String> then = likenesses(changed);
        int first = 0;
        while (!now.isEmpty() && !then.isEmpty() && now.get(0).equals(then.get(0))) {
            now.remove(0);
            then.remove(0);
            first++;
        }
        int last = 0;
        while (!now.isEmpty() && !then.isEmpty()
                && now.get(now.size() - 1).equals(then.get(then.size() - 1))) {
            now.remove(now.size() - 1);
            then.remove(then.size() - 1);
            last++;
        }
        int[] facts = {changed.size(), first, last, stolen(changed)};
        return yes(facts[what]);
    }

    private int seek(int n, int from) {
        List<Item> items = items();
        if (from < 0 || from >= items.size()) {
            return no(1);
        }
        if (n < 1 || n > 20 || n > tape.size()) {
            return no(2);
        }
        String wanted = firstBytes(n);
        tape.clear();
        for (char c : wanted.toCharArray()) {
            if (!script.knows(c)) {
                return no(5);
            }
        }
        StringBuilder led = new StringBuilder();
        for (Item item : items) {
            led.append(item.sort() == 0 ? item.lead.charAt(0) : '-');
        }
        int found = led.indexOf(wanted, from);
        return yes(found < 0 ? -2 : found);
    }

    private int ranked(int i) {
        List<Item> items = items();
        if (i < 0 || i >= items.size()) {
            return no(1);
        }
        List<Integer> order = new ArrayList<>();
        for (int k = 0; k < items.size(); k++) {
            order.add(k);
        }
        Comparator<Integer> bySort = Comparator.comparing(k -> items.get(k).sort());
        Collections.sort(order, bySort.thenComparing(k -> {
            Item item = items.get(k);
            switch (item.sort()) {
                case 0: return codeOf(item);
                case 1: return script.leads.indexOf(item.lead);
                case 2: return script.middles.indexOf(item.middle);
                default: return (int) item.lone.charAt(0);
            }
        }));
        return yes(order.get(i));
    }

    /** All rows of n KEYS, one after the other. */
    private long count(int n, java.util.function.Predicate<List<Item>> wanted) {
        String keys = script.keys();
        long rows = 1;
        for (int i = 0; i < n; i++) {
            rows *= keys.length();
        }
        long found = 0;
        for (long r = 0; r < rows; r++) {
            StringBuilder text = new StringBuilder();
            long left = r;
            for (int i = 0; i < n; i++) {
                text.append(keys.charAt((int) (left % keys.length())));
                left /= keys.length();
            }
            found += wanted.test(machine(script, text.toString())) ? 1 : 0;
        }
        return found;
    }

    private long ways(int n, int items) {
        if (script == null) {
            return no(1);
        }
        if (n < 0 || n > 8 || items < 0 || items > 8) {
            return no(2);
        }
        yes(0);
        return count(n, made -> made.size() == items);
    }

    private long whole(int n) {
        if (script == null) {
            return no(1);
        }
        if (n < 0 || n > 8) {
            return no(2);
        }
        yes(0);
        return count(n, made -> made.stream().allMatch(item -> item.sort() == 0));
    }

    private int told(int sort, int k) {
        CharSequence keys = script == null || sort < 0 || sort > 2 ? ""
                : sort == 0 ? script.consonants : sort == 1 ? script.vowels : script.olds;
        if (k < 0 || k >= keys.length()) {
            throw new NoSuchElementException();
        }
        return keys.charAt(k);
    }

    // ---- what the random runs look at

    boolean hasScript() {
        return script != null;
    }

    Told script() {
        return script;
    }

    String row() {
        return row;
    }

    int rowLength() {
        return row.length();
    }

    int itemCount() {
        return items().size();
    }

    int tapeSize() {
        return tape.size();
    }
}
