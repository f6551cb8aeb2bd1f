import java.nio.charset.StandardCharsets;
import java.util.ArrayList;
import java.util.Arrays;
import java.util.Collections;
import java.util.List;
import java.util.NoSuchElementException;
import java.util.Random;

/** Long runs of calls, drawn from fixed seeds, on StolenFinals and on the Model: every answer must agree. */
public final class ModelTest {
    private static final int RUNS = 1500;
    private static final int CALLS = 500;
    private static final int THROWN = Integer.MIN_VALUE;

    private final Random random;
    private final long seed;
    private final StolenFinals face = new StolenFinals();
    private final Model model = new Model();
    private final List<String> log = new ArrayList<>();
    private int calls = 0;
    private boolean wrong = false;

    private ModelTest(long seed) {
        this.seed = seed;
        this.random = new Random(seed);
    }

    public static void main(String[] args) {
        int failed = 0;
        for (long seed = 1; seed <= RUNS && failed < 3; seed++) {
            ModelTest run = new ModelTest(seed);
            run.go();
            failed += run.wrong ? 1 : 0;
        }
        System.out.println(failed == 0 ? RUNS + " random runs agree with the model" : "random runs do not agree");
        if (failed != 0) {
            System.exit(1);
        }
    }

    private void go() {
        if (random.nextInt(4) == 0) {
            someCalls(random.nextInt(10));
        }
        newScript(random.nextInt(20) == 0);
        while (calls < CALLS && !wrong) {
            someCalls(20 + random.nextInt(20));
            lookAtAll();
            if (random.nextInt(25) == 0) {
                newScript(random.nextInt(3) != 0);
            }
        }
    }

    private void call(String name, int... a) {
        if (wrong || calls >= CALLS) {
            return;
        }
        calls++;
        long want;
        long got;
        try {
            want = model.call(name, a);
        } catch (NoSuchElementException e) {
            want = THROWN;
        }
        try {
            got = Face.call(face, name, a);
        } catch (NoSuchElementException e) {
            got = THROWN;
        }
        log.add(name + Arrays.toString(a) + " " + got);
        if (got != want) {
            wrong = true;
            int from = Math.max(0, log.size() - 60);
            System.out.println("seed " + seed + ": " + log.subList(from, log.size()) + ", the model says " + want);
        }
    }

    private int pick(int... choices) {
        return choices[random.nextInt(choices.length)];
    }

    /** Mostly 0 .. below, now and then just outside. */
    private int about(int below) {
        return random.nextInt(12) == 0 ? pick(-1, below, below + 1, Integer.MIN_VALUE, Integer.MAX_VALUE)
                : random.nextInt(Math.max(1, below));
    }

    private void feed(byte[] bytes) {
        for (int[] f : Face.feedsOf(bytes)) {
            call("feed", f);
        }
    }

    // ---- texts

    private String shuffled(String text) {
        List<Character> all = new ArrayList<>();
        for (char c : text.toCharArray()) {
            all.add(c);
        }
        Collections.shuffle(all, random);
        StringBuilder made = new StringBuilder();
        all.forEach(made::append);
        return made.toString();
    }

    private String anyOf(String text) {
        return text.isEmpty() ? "a" : "" + text.charAt(random.nextInt(text.length()));
    }

    /** LINES with each name told ahead of its use; over a limit, or alike, now and then if faults may be. */
    private List<String> lines(boolean faulty) {
        String letters = shuffled("abcdefghijklmnopqrstuvwxyz");
        int over = faulty && random.nextInt(3) == 0 ? 1 : 0;
        int consonants = 1 + random.nextInt(random.nextInt(3) == 0 ? 10 + over : 5);
        int vowels = 1 + random.nextInt(random.nextInt(3) == 0 ? 8 + over : 3);
        int olds = random.nextInt(random.nextInt(3) == 0 ? 5 + over : 3);
        List<String> lines = new ArrayList<>();
        String leads = "";
        String finals = "";
        String vowelKeys = letters.substring(20, 20 + Math.min(6, vowels)) + letters.substring(16, 16 + Math.max(0, vowels - 6));
        for (int i = 0; i < consonants; i++) {
            String key = letters.substring(i, i + 1);
            String sort = i == 0 ? anyOf("lb") : anyOf("lbbbf");
            lines.add((sort.equals("l") ? "lead " : sort.equals("b") ? "both " : "final ") + key);
            leads += sort.equals("f") ? "" : key;
            finals += sort.equals("l") ? "" : key;
        }
        for (char c : vowelKeys.toCharArray()) {
            lines.add("vowel " + c);
        }
        for (int i = 0; i < olds; i++) {
            lines.add("old " + letters.charAt(11 + i));
        }
        if (random.nextBoolean()) {
            Collections.shuffle(lines, random);
        }
        String twins = shuffled(leads);
        int twinCount = Math.min(twins.length(), random.nextInt(5 + over));
        for (int i = 0; i < twinCount; i++) {
            putBehind(lines, "twin " + twins.charAt(i));
        }
        int pairs = random.nextInt(random.nextInt(3) == 0 ? 9 + over : 5);
        for (int i = 0; i < pairs; i++) {
            String from = random.nextBoolean() && !finals.isEmpty() ? finals : vowelKeys;
            String line = "pair " + anyOf(from) + " " + anyOf(from);
            if (faulty || !lines.contains(line)) {
                putBehind(lines, line);
            }
        }
        return lines;
    }

    /** Somewhere behind the LINES that tell its KEYS. */
    private void putBehind(List<String> lines, String line) {
        int least = 0;
        for (int i = 0; i < lines.size(); i++) {
            String told = lines.get(i);
            boolean tells = !told.startsWith("twin") && !told.startsWith("pair");
            if (tells && line.substring(4).contains(" " + told.charAt(told.length() - 1))) {
                least = i + 1;
            }
        }
        lines.add(least + random.nextInt(lines.size() - least + 1), line);
    }

    private void newScript(boolean faulty) {
        List<String> lines = lines(faulty);
        String text = String.join(random.nextBoolean() ? ";" : " ; ", lines);
        if (text.length() > 300) {
            text = String.join(";", lines);
        }
        byte[] bytes = Face.bytesOf(text);
        int changes = faulty ? random.nextInt(3) : 0;
        for (int i = 0; i < changes; i++) {
            bytes[random.nextInt(bytes.length)] = (byte) pick(' ', ';', 'a', 'k', 'x', '|', 'A', 200, random.nextInt(256));
        }
        if (model.tapeSize() > 0) {
            call("script", model.tapeSize());
        }
        if (bytes.length > 300) {
            return;
        }
        boolean letterBehind = random.nextBoolean() && bytes.length < 300;
        feed(letterBehind ? Face.bytesOf(new String(bytes, StandardCharsets.ISO_8859_1) + "a") : bytes);
        call("script", faulty && random.nextInt(3) == 0 ? random.nextInt(bytes.length + 1) : bytes.length);
        call("trouble");
        call("fault");
        call("where");
    }

    // ---- calls

    private int someKey() {
        if (!model.hasScript() || random.nextInt(25) == 0) {
            return pick(97 + random.nextInt(26), 96, 123, 124, -1, 0, 256 + 97);
        }
        Model.Told told = model.script();
        int sort = random.nextInt(20);
        String keys = sort < 8 ? told.vowels.toString() : sort < 19 ? told.consonants.toString() : told.keys();
        return keys.charAt(random.nextInt(keys.length()));
    }

    private byte[] someSigns(int most, boolean breaks) {
        byte[] signs = new byte[1 + random.nextInt(most)];
        for (int i = 0; i < signs.length; i++) {
            int key = someKey();
            boolean odd = key < 97 || key > 124;
            signs[i] = (byte) (breaks && random.nextInt(7) == 0 ? 124 : odd && random.nextInt(3) != 0 ? 'a' : key);
        }
        return signs;
    }

    private byte[] someCodes() {
        int blocks = 1 + random.nextInt(random.nextInt(4) == 0 ? 25 : 4);
        byte[] bytes = new byte[2 * blocks];
        int all = 1;
        if (model.hasScript()) {
            Model.Told told = model.script();
            all = told.leads.size() * told.middles.size() * told.ends.size();
        }
        for (int i = 0; i < blocks; i++) {
            int code = random.nextInt(80) == 0 ? all + random.nextInt(2) : random.nextInt(all);
            bytes[2 * i] = (byte) (code >> 8);
            bytes[2 * i + 1] = (byte) code;
        }
        return bytes;
    }

    private void someCalls(int count) {
        for (int i = 0; i < count; i++) {
            int sort = random.nextInt(100);
            if (sort < 35) {
                call("key", someKey());
            } else if (sort < 55) {
                act();
            } else if (sort < 75) {
                look();
            } else if (sort < 85) {
                withTape();
            } else {
                paper();
            }
            if (random.nextInt(4) == 0) {
                call(random.nextInt(3) == 0 ? "where" : "trouble");
            }
        }
    }

    private void act() {
        switch (random.nextInt(7)) {
            case 0: call("brk"); break;
            case 1: call("back"); break;
            case 2: call("del"); break;
            case 3: call("goes", about(model.rowLength() + 1)); break;
            case 4: call("tidy"); break;
            case 5: call("undo"); break;
            default: call("brk"); break;
        }
    }

    private void withTape() {
        int odd = random.nextInt(10) == 0 ? pick(-1, 1, 300) : 0;
        switch (random.nextInt(4)) {
            case 0: {
                byte[] signs = someSigns(random.nextInt(5) == 0 ? 70 : 8, true);
                feed(signs);
                call("type", signs.length + odd);
                break;
            }
            case 1: {
                byte[] codes = someCodes();
                feed(codes);
                call("codes", codes.length + odd);
                break;
            }
            case 2: {
                byte[] keys = someSigns(random.nextInt(8) == 0 ? 21 : 2, random.nextInt(10) == 0);
                feed(keys);
                call("seek", keys.length + odd, about(model.itemCount()));
                break;
            }
            default:
                call("feed", random.nextInt(), random.nextInt(), random.nextInt(), random.nextInt(), random.nextInt());
                call(pick(0, 1) == 0 ? "type" : "script", about(model.tapeSize() + 1));
                break;
        }
        call("size");
    }

    private void look() {
        switch (random.nextInt(10)) {
            case 0: call("about", about(13)); break;
            case 1: call("at", about(model.rowLength())); break;
            case 2: call("of", about(model.rowLength()), about(3)); break;
            case 3: call("item", about(model.itemCount()), about(7)); break;
            case 4: call("within"); break;
            case 5: call("needed", random.nextInt(4) == 0 ? about(model.rowLength()) : someBreak()); break;
            case 6: call("bare"); break;
            case 7: call("letter", someKey(), about(5)); break;
            case 8: call("told", about(3), about(10)); break;
            default: codeCalls(); break;
        }
    }

    private int someBreak() {
        int place = model.row().indexOf('|', random.nextInt(model.rowLength() + 1));
        return place < 0 ? model.row().indexOf('|') : place;
    }

    private void codeCalls() {
        int leads = model.hasScript() ? model.script().leads.size() : 1;
        int middles = model.hasScript() ? model.script().middles.size() : 1;
        int ends = model.hasScript() ? model.script().ends.size() : 1;
        switch (random.nextInt(3)) {
            case 0: call("code", about(leads), about(middles), about(ends)); break;
            case 1: call("parts", about(leads * middles * ends), about(3)); break;
            default: call("spelt", about(leads * middles * ends), about(7)); break;
        }
    }

    private void paper() {
        switch (random.nextInt(5)) {
            case 0:
            case 1: call("would", random.nextInt(5) == 0 ? 124 : someKey(), about(4)); break;
            case 2:
            case 3: call("ranked", about(model.itemCount())); break;
            default: counts(); break;
        }
    }

    private void counts() {
        int keys = model.hasScript() ? model.script().keys().length() : 1;
        int most = 0;
        for (int rows = keys; rows < 3000 && most < 8; rows *= keys) {
            most++;
        }
        int n = random.nextInt(6) == 0 ? pick(-1, 9) : random.nextInt(most + 1);
        if (random.nextBoolean()) {
            call("whole", n);
        } else {
            call("ways", n, about(n + 2));
        }
    }

    /** Everything that the face tells of THE ROW. */
    private void lookAtAll() {
        for (int what = 6; what < 13; what++) {
            call("about", what);
        }
        int places = Math.min(12, model.rowLength());
        int from = random.nextInt(model.rowLength() - places + 1);
        for (int place = from; place < from + places; place++) {
            call("at", place);
            call("of", place, random.nextInt(3));
        }
        for (int i = 0; i < Math.min(3, model.itemCount()); i++) {
            int item = random.nextInt(model.itemCount());
            for (int what = 0; what < 7; what++) {
                call("item", item, what);
            }
            call("ranked", item);
        }
    }
}
