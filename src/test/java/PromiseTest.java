import java.util.NoSuchElementException;

/** Each promise of the document by its number: ordinary inputs, the edges it names, wrong inputs. */
public final class PromiseTest {
    /**
     * LEADS g 0, k 1, n 2, kk 3. MIDDLES a 0, o 1, ao 2. ENDS none 0, k 1, n 2, t 3, nt 4, kk 5.
     * A CODE is (LEAD * 3 + MIDDLE) * 6 + END; there are 72.
     */
    private static final String TEXT = "lead g;both k;both n;final t;vowel a;vowel o;old z;twin k;"
            + "pair a o;pair n t;pair k k";
    /** As many of each as there can be. */
    private static final String WIDEST = "lead a;lead b;both c;both d;final e;lead f;lead g;lead h;lead i;both j;"
            + "vowel k;vowel l;vowel m;vowel n;vowel o;vowel p;vowel q;vowel r;old s;old t;old u;old v;"
            + "twin a;twin c;twin b;twin d;pair k l;pair l l;pair c d;pair d d;pair e c;pair e e;pair d e;pair q r";
    private static final int LOW = Integer.MIN_VALUE;
    private static final int HIGH = Integer.MAX_VALUE;

    private PromiseTest() {
    }

    public static void main(String[] args) {
        promise1NewObject();
        promise2Feed();
        promise3Script();
        promise3Faults();
        promise3TooMany();
        promise4And5FaultAndWhere();
        promise6About();
        promise7Letter();
        promise8Code();
        promise9Parts();
        promise10Spelt();
        promise11Key();
        promise11MachineOfConsonants();
        promise11MachineOfVowels();
        promise12Brk();
        promise13Type();
        promise14Back();
        promise15Del();
        promise16Goes();
        promise17Tidy();
        promise18Codes();
        promise18CodesRefused();
        promise19Undo();
        promise19UndoOfEachAct();
        promise20At();
        promise21Of();
        promise22Item();
        promise23Within();
        promise24Needed();
        promise25Bare();
        promise26Would();
        promise27Seek();
        promise28Ranked();
        promise29Ways();
        promise30Whole();
        promise31Told();
        promise32Size();
        promise33Trouble();
        Check.end("PromiseTest");
    }

    private static StolenFinals scripted() {
        StolenFinals x = new StolenFinals();
        Check.due("script(TEXT)", Face.script(x, TEXT), 7);
        return x;
    }

    private static StolenFinals typed(String row) {
        StolenFinals x = scripted();
        Face.type(x, row);
        Check.due("the row typed", Face.row(x), row);
        return x;
    }

    private static void due(String what, long got, long want) {
        Check.due(what, got, want);
    }

    /** The call just made was refused for this reason. */
    private static void refused(String what, StolenFinals x, long got, int why) {
        due(what, got, StolenFinals.NONE);
        due("trouble() of " + what, x.trouble(), why);
        due("where() of " + what, x.where(), StolenFinals.NONE);
    }

    /** The ITEMS as texts of their KEYS, with their SORTS. */
    private static String items(StolenFinals x) {
        StringBuilder text = new StringBuilder();
        int count = x.about(7);
        for (int i = 0; i < count; i++) {
            text.append(i == 0 ? "" : " ").append(x.item(i, 0));
            int first = x.item(i, 5);
            int behind = first + x.item(i, 6);
            for (int place = first; place < behind; place++) {
                text.append((char) x.at(place));
            }
        }
        return text.toString();
    }

    private static void makes(String row, String items, int stolen) {
        StolenFinals x = typed(row);
        Check.due("items of " + row, items(x), items);
        due("stolen of " + row, x.about(9), stolen);
    }

    // ---- scripts

    private static void promise1NewObject() {
        StolenFinals x = new StolenFinals();
        due("NONE", StolenFinals.NONE, -1);
        due("new: trouble()", x.trouble(), 0);
        due("new: fault()", x.fault(), 0);
        due("new: where()", x.where(), -1);
        due("new: size()", x.size(), 0);
        for (int what = 0; what < 13; what++) {
            refused("new: about", x, x.about(what), 1);
        }
        refused("new: letter", x, x.letter('a', 0), 1);
        refused("new: code", x, x.code(0, 0, 0), 1);
        refused("new: parts", x, x.parts(0, 0), 1);
        refused("new: spelt", x, x.spelt(0, 0), 1);
        refused("new: key", x, x.key('a'), 1);
        refused("new: brk", x, x.brk(), 1);
        refused("new: type", x, x.type(0), 1);
        refused("new: type of too many", x, x.type(5), 1);
        refused("new: back", x, x.back(), 1);
        refused("new: del", x, x.del(), 1);
        refused("new: goes", x, x.goes(0), 1);
        refused("new: goes beyond", x, x.goes(7), 1);
        refused("new: tidy", x, x.tidy(), 1);
        refused("new: codes", x, x.codes(0), 1);
        refused("new: undo", x, x.undo(), 1);
        refused("new: at", x, x.at(0), 1);
        refused("new: of", x, x.of(0, 0), 1);
        refused("new: item", x, x.item(0, 0), 1);
        refused("new: within", x, x.within(), 1);
        refused("new: needed", x, x.needed(0), 1);
        refused("new: bare", x, x.bare(), 1);
        refused("new: would", x, x.would(124, 0), 1);
        refused("new: seek", x, x.seek(0, 0), 1);
        refused("new: ranked", x, x.ranked(0), 1);
        refused("new: ways", x, x.ways(9, 9), 1);
        refused("new: whole", x, x.whole(9), 1);
    }

    private static void promise2Feed() {
        StolenFinals x = new StolenFinals();
        x.key(1);
        for (int bytes = 20; bytes <= 300; bytes += 20) {
            due("feed up to " + bytes, x.feed(1, 2, 3, 4, 5), bytes);
        }
        due("feed beyond 300", x.feed(1, 2, 3, 4, 5), -1);
        due("size behind it", x.size(), 300);
        due("trouble stays", x.trouble(), 1);
        StolenFinals y = new StolenFinals();
        // "both k;vowel a" with the highest byte of each number first, and one above 127 behind it
        y.feed(0x626f7468, 0x206b3b76, 0x6f77656c, 0x2061ff80, -1);
        due("bytes in their order", y.script(14), 2);
        y.feed(0x626f7468, 0x206b3b76, 0x6f77656c, 0x2061ff80, -1);
        due("a byte of 255", y.script(15), -1);
        due("its fault", y.fault(), 1);
        due("its place", y.where(), 14);
        due("feed leaves where()", y.feed(0, 0, 0, 0, 0), 20);
        due("where() behind feed()", y.where(), 14);
        due("trouble() behind feed()", y.trouble(), 4);
    }

    private static void promise3Script() {
        StolenFinals x = new StolenFinals();
        refused("script of more than there is", x, x.script(1), 2);
        int n = Face.feed(x, TEXT);
        int size = x.size();
        refused("script(-1)", x, x.script(-1), 2);
        refused("script(LOW)", x, x.script(LOW), 2);
        refused("script(size + 1)", x, x.script(size + 1), 2);
        due("2 leaves the tape", x.size(), size);
        due("script", x.script(n), 7);
        due("trouble", x.trouble(), 0);
        due("all of the tape is gone", x.size(), 0);
        Face.type(x, "kan|a");
        x.goes(1);
        due("a script with a fault", Face.script(x, "lead k;vowel k"), -1);
        Check.due("the row stays by 4", Face.row(x), "kan|a");
        due("the caret stays by 4", x.about(11), 1);
        due("the acts stay by 4", x.about(12), 2);
        due("the old script stays by 4", x.letter('g', 1), 0);
        Face.feed(x, "lead k;vowel a");
        x.script(-5);
        due("the row stays by 2", x.about(6), 5);
        due("a script more", x.script(14), 2);
        due("its row is empty", x.about(6), 0);
        due("its caret", x.about(11), 0);
        due("its items", x.about(7), 0);
        due("its stolen", x.about(9), 0);
        due("its acts", x.about(12), 0);
        refused("nothing to undo", x, x.undo(), 5);
        refused("a key of the old one", x, x.key('g'), 1);
        due("its leads", x.about(3), 1);
        due("its ends", x.about(5), 1);
        numbersAreGivenAtTheEnd();
    }

    private static void numbersAreGivenAtTheEnd() {
        StolenFinals x = new StolenFinals();
        due("twins and pairs told early",
                Face.script(x, "  both k;twin k;vowel a;pair a a;pair k k ; lead g;vowel o;final t;twin g  "), 5);
        due("k as a lead", x.letter('k', 1), 0);
        due("g as a lead", x.letter('g', 1), 1);
        due("kk as a lead", x.letter('k', 4), 2);
        due("gg as a lead", x.letter('g', 4), 3);
        due("o as a middle", x.letter('o', 3), 1);
        due("t as an end", x.letter('t', 2), 2);
        due("leads", x.about(3), 4);
        due("middles", x.about(4), 3);
        due("ends", x.about(5), 4);
        Face.type(x, "kaakk");
        due("aa is the third middle", x.item(0, 2), 2);
        due("kk is the fourth end", x.item(0, 3), 3);
        scriptsLeaveNothingBehind(x);
    }

    private static void scriptsLeaveNothingBehind(StolenFinals x) {
        for (int i = 0; i < 3; i++) {
            due("a script without twins and pairs", Face.script(x, "both k;vowel a"), 2);
            due("its leads", x.about(3), 1);
            due("its middles", x.about(4), 1);
            due("its ends", x.about(5), 2);
            due("a script with one of each", Face.script(x, "both k;vowel a;twin k;pair a a;pair k k"), 2);
            due("its leads, too", x.about(3), 2);
            due("its middles, too", x.about(4), 2);
            due("its ends, too", x.about(5), 3);
            due("a fault behind twins and pairs", Face.script(x, "both k;twin k;pair k k;lead"), -1);
        }
    }

    private static void faulty(String text, int fault, int where) {
        StolenFinals x = new StolenFinals();
        due("script(" + text + ")", Face.script(x, text), -1);
        due("trouble of " + text, x.trouble(), 4);
        due("fault of " + text, x.fault(), fault);
        due("where of " + text, x.where(), where);
        due("tape of " + text, x.size(), 0);
        due("no script by " + text, x.about(0), -1);
    }

    private static void promise3Faults() {
        faulty("", 1, 0);
        for (String word : new String[] {"mead", "goth", "pinal", "towel", "ild", "swin", "hair", "leed", "lean"}) {
            faulty("lead k;vowel a; " + word + " b", 1, 16);
        }
        faulty("   ", 1, 3);
        faulty(";", 1, 0);
        faulty("lead", 1, 4);
        faulty("lead ", 1, 5);
        faulty("lead ;", 1, 5);
        faulty("lead kk", 1, 5);
        faulty("lead K", 1, 5);
        faulty("lead k K", 1, 7);
        faulty("lead k l", 1, 7);
        faulty("lead k lead l", 1, 7);
        faulty("lead k;", 1, 7);
        faulty("lead k; ", 1, 8);
        faulty("lead k;;vowel a", 1, 7);
        faulty("leads k", 1, 0);
        faulty("lea k", 1, 0);
        faulty("k", 1, 0);
        faulty("Lead k", 1, 0);
        faulty("  leadkv k", 1, 2);
        faulty("vowela", 1, 0);
        faulty("lead abcdefgh", 1, 5);
        faulty("lead k{", 1, 6);
        faulty("lead `", 1, 5);
        faulty("lead k\t;vowel a", 1, 6);
        faulty("lead k,vowel a", 1, 6);
        faulty("vowel a;lead k;pair a", 1, 21);
        faulty("vowel a;lead k;pair a;", 1, 21);
        faulty("vowel a;lead k;pair a aa", 1, 22);
        faulty("vowel a;lead k;pair a a a", 1, 24);
        faulty("vowel a;lead k;twin k k", 1, 22);
        faulty("lead k;vowel k", 2, 13);
        faulty("lead k;lead k", 2, 12);
        faulty("old k;both k", 2, 11);
        faulty("lead k;old k", 2, 11);
        faulty("vowel a;final a", 2, 14);
        faulty("twin k", 2, 5);
        faulty("vowel a;twin a", 2, 13);
        faulty("final t;twin t", 2, 13);
        faulty("old z;twin z", 2, 11);
        faulty("lead k;twin k;twin k", 2, 19);
        faulty("pair a a;vowel a", 2, 5);
        faulty("lead g;pair g g", 2, 12);
        faulty("old z;pair z z", 2, 11);
        faulty("vowel a;pair a o", 2, 15);
        faulty("vowel a;both k;pair a k", 2, 22);
        faulty("vowel a;both k;pair k a", 2, 22);
        faulty("lead g;both k;pair k g", 2, 21);
        faulty("old z;both k;pair k z", 2, 20);
        faulty("vowel a;pair a a;pair a a", 2, 24);
        faulty("both k;both n;pair k n;pair k n", 2, 30);
        faulty("lead k;lead k;lead", 2, 12);
        faulty("lead k;twin l{", 2, 12);
        faulty("lead k", 4, 6);
        faulty("lead k  ", 4, 8);
        faulty("vowel a", 4, 7);
        faulty("vowel a;final t", 4, 15);
        faulty("old z", 4, 5);
        StolenFinals x = new StolenFinals();
        due("pairs in the other order, a twin, no final",
                Face.script(x, "both k;both n;pair k n;pair n k;vowel a;vowel o;pair a o;pair o a;twin n;pair o o"), 4);
        due("no fault", x.fault(), 0);
        due("only n bytes are the text", Face.feed(x, "both k;vowel a;;;"), 17);
        due("script of 14", x.script(14), 2);
        Face.feed(x, "both k;vowel abcdef");
        due("letters behind the text are none of its last word", x.script(14), 2);
        Face.feed(x, "both k;vowel a;old ;");
        due("a text that ends where a key must be", x.script(19), -1);
        due("its end", x.where(), 19);
    }

    private static void promise3TooMany() {
        String ten = "lead a;lead b;both c;both d;final e;lead f;lead g;lead h;lead i;both j";
        StolenFinals x = new StolenFinals();
        due("ten consonants", Face.script(x, ten + ";vowel v"), 11);
        faulty(ten + ";lead k", 3, ten.length() + 1);
        faulty(ten + "; both a", 3, ten.length() + 2);
        faulty(ten + ";final", 3, ten.length() + 1);
        faulty(ten + ";final ;", 3, ten.length() + 1);
        String eight = "vowel a;vowel b;vowel c;vowel d;vowel e;vowel f;vowel g;vowel h";
        due("eight vowels", Face.script(x, eight + ";lead v"), 9);
        faulty(eight + ";vowel i", 3, eight.length() + 1);
        String four = "old a;old b;old c;old d";
        due("four old ones", Face.script(x, four + ";lead v;vowel w"), 6);
        faulty(four + ";old e", 3, four.length() + 1);
        String twins = ten + ";twin a;twin b;twin c;twin d";
        due("four twins", Face.script(x, twins + ";vowel v"), 11);
        due("leads", x.about(3), 13);
        faulty(twins + ";twin f", 3, twins.length() + 1);
        String pairs = ten + ";vowel v;vowel w;pair v v;pair v w;pair w v;pair w w;pair c c;pair c d;pair d c;pair d e";
        due("eight pairs", Face.script(x, pairs), 12);
        due("middles", x.about(4), 6);
        due("ends", x.about(5), 9);
        faulty(pairs + ";pair d d", 3, pairs.length() + 1);
        faulty(pairs + ";pair v v", 3, pairs.length() + 1);
    }

    private static void promise4And5FaultAndWhere() {
        StolenFinals x = new StolenFinals();
        due("fault ahead of any", x.fault(), 0);
        Face.script(x, "lead k;;");
        due("fault", x.fault(), 1);
        due("where", x.where(), 7);
        due("size leaves where", x.size(), 0);
        x.trouble();
        x.fault();
        x.where();
        thrown(x, 0, 0);
        due("where stays by calls that can't be refused", x.where(), 7);
        due("trouble stays, too", x.trouble(), 4);
        x.about(0);
        due("where behind another call", x.where(), -1);
        due("fault stays", x.fault(), 1);
        x.script(500);
        due("fault stays by 2", x.fault(), 1);
        due("where by 2", x.where(), -1);
        Face.script(x, "lead k");
        due("fault of the latest", x.fault(), 4);
        due("where of the latest", x.where(), 6);
        Face.script(x, "lead k;vowel a");
        due("fault without one", x.fault(), 0);
        due("where without one", x.where(), -1);
        Face.script(x, "lead");
        due("where again", x.where(), 4);
        x.about(3);
        due("where behind a call that wasn't refused", x.where(), -1);
    }

    private static void promise6About() {
        StolenFinals x = scripted();
        int[] fresh = {4, 2, 1, 4, 3, 6, 0, 0, 0, 0, 0, 0, 0};
        for (int what = 0; what < fresh.length; what++) {
            due("about(" + what + ")", x.about(what), fresh[what]);
        }
        Face.type(x, "kana|kak|z");
        x.goes(3);
        int[] typed = {4, 2, 1, 4, 3, 6, 10, 4, 3, 1, 2, 3, 2};
        for (int what = 0; what < typed.length; what++) {
            due("about(" + what + ") behind typing", x.about(what), typed[what]);
        }
        for (int what : new int[] {-1, 13, LOW, HIGH}) {
            refused("about(" + what + ")", x, x.about(what), 1);
        }
        due("about(0) again", x.about(0), 4);
        due("trouble is 0 again", x.trouble(), 0);
    }

    private static void promise7Letter() {
        StolenFinals x = scripted();
        String keys = "gkntaoz";
        int[][] facts = {{0, 0, -2, -2, -2}, {1, 1, 1, -2, 3}, {1, 2, 2, -2, -2}, {2, -2, 3, -2, -2},
            {3, -2, -2, 0, -2}, {3, -2, -2, 1, -2}, {4, -2, -2, -2, -2}};
        for (int k = 0; k < keys.length(); k++) {
            for (int what = 0; what < 5; what++) {
                due("letter " + keys.charAt(k) + ", " + what, x.letter(keys.charAt(k), what), facts[k][what]);
                due("trouble", x.trouble(), 0);
            }
            refused("letter, 5", x, x.letter(keys.charAt(k), 5), 1);
            refused("letter, -1", x, x.letter(keys.charAt(k), -1), 1);
        }
        for (int key : new int[] {'b', 'y', 96, 123, 124, 0, -1, 97 + 256, LOW, HIGH}) {
            refused("letter(" + key + ")", x, x.letter(key, 0), 1);
        }
    }

    private static void promise8Code() {
        StolenFinals x = scripted();
        due("code(0, 0, 0)", x.code(0, 0, 0), 0);
        due("code(1, 0, 2)", x.code(1, 0, 2), 20);
        due("code(2, 1, 3)", x.code(2, 1, 3), 45);
        due("code(3, 2, 5)", x.code(3, 2, 5), 71);
        due("trouble", x.trouble(), 0);
        int[][] wrong = {{-1, 0, 0}, {4, 0, 0}, {0, -1, 0}, {0, 3, 0}, {0, 0, -1}, {0, 0, 6}, {HIGH, 0, 0},
            {0, LOW, 0}, {0, 0, HIGH}};
        for (int[] w : wrong) {
            refused("code", x, x.code(w[0], w[1], w[2]), 1);
        }
    }

    private static void promise9Parts() {
        StolenFinals x = scripted();
        for (int lead = 0; lead < 4; lead++) {
            for (int middle = 0; middle < 3; middle++) {
                for (int end = 0; end < 6; end++) {
                    int code = x.code(lead, middle, end);
                    due("lead of " + code, x.parts(code, 0), lead);
                    due("middle of " + code, x.parts(code, 1), middle);
                    due("end of " + code, x.parts(code, 2), end);
                }
            }
        }
        refused("parts(72, 0)", x, x.parts(72, 0), 1);
        refused("parts(-1, 0)", x, x.parts(-1, 0), 1);
        refused("parts(HIGH, 0)", x, x.parts(HIGH, 0), 1);
        refused("parts(LOW, 2)", x, x.parts(LOW, 2), 1);
        refused("parts(0, 3)", x, x.parts(0, 3), 1);
        refused("parts(0, -1)", x, x.parts(0, -1), 1);
    }

    private static void spells(StolenFinals x, int code, String keys) {
        for (int k = 0; k < keys.length(); k++) {
            due("spelt(" + code + ", " + k + ")", x.spelt(code, k), keys.charAt(k));
        }
        due("spelt beyond", x.spelt(code, keys.length()), -2);
        due("spelt far beyond", x.spelt(code, HIGH), -2);
        due("trouble of spelt beyond", x.trouble(), 0);
        refused("spelt, -1", x, x.spelt(code, -1), 1);
    }

    private static void promise10Spelt() {
        StolenFinals x = scripted();
        spells(x, x.code(0, 0, 0), "ga");
        spells(x, x.code(1, 1, 2), "kon");
        spells(x, x.code(2, 2, 0), "nao");
        spells(x, x.code(2, 0, 4), "nant");
        spells(x, x.code(3, 0, 0), "kka");
        spells(x, x.code(3, 2, 5), "kkaokk");
        refused("spelt(72, 0)", x, x.spelt(72, 0), 1);
        refused("spelt(-1, 0)", x, x.spelt(-1, 0), 1);
        refused("spelt(0, LOW)", x, x.spelt(0, LOW), 1);
    }

    // ---- acts

    private static void promise11Key() {
        StolenFinals x = scripted();
        due("k", x.key('k'), 1);
        due("a", x.key('a'), 1);
        due("z", x.key('z'), 2);
        due("trouble", x.trouble(), 0);
        x.goes(1);
        due("o at the caret", x.key('o'), 3);
        Check.due("the row", Face.row(x), "koaz");
        due("the caret behind it", x.about(11), 2);
        due("acts", x.about(12), 5);
        for (int key : new int[] {'b', '|', ' ', 0, -1, 97 + 256, LOW, HIGH}) {
            refused("key(" + key + ")", x, x.key(key), 1);
        }
        Check.due("the row stays", Face.row(x), "koaz");
        due("acts stay", x.about(12), 5);
        while (x.about(6) < 80) {
            x.key('k');
        }
        refused("the 81st", x, x.key('k'), 3);
        refused("of two troubles the first", x, x.key('b'), 1);
        due("80 stay", x.about(6), 80);
        due("the caret stays", x.about(11), 78);
    }

    private static void promise11MachineOfConsonants() {
        makes("kk", "1kk", 0);
        makes("kkk", "1kk 1k", 0);
        makes("kkkk", "1kk 1kk", 0);
        makes("gg", "1g 1g", 0);
        makes("gk", "1g 1k", 0);
        makes("k|k", "1k 1k", 0);
        makes("kkan", "0kkan", 0);
        makes("gat", "0gat", 0);
        makes("gag", "0ga 1g", 0);
        makes("gant", "0gant", 0);
        makes("gatn", "0gat 1n", 0);
        makes("gantt", "0gant 3t", 0);
        makes("gakk", "0gakk", 0);
        makes("gakkk", "0gakk 1k", 0);
        makes("gakkkk", "0gakk 1kk", 0);
        makes("gakn", "0gak 1n", 0);
        makes("t", "3t", 0);
        makes("ta", "3t 2a", 0);
        makes("gt", "1g 3t", 0);
        makes("tt", "3t 3t", 0);
        makes("an", "2a 1n", 0);
        makes("at", "2a 3t", 0);
        makes("zka", "3z 0ka", 0);
        makes("kz", "1k 3z", 0);
        makes("kzk", "1k 3z 1k", 0);
        makes("kaz", "0ka 3z", 0);
        makes("zz", "3z 3z", 0);
    }

    private static void promise11MachineOfVowels() {
        makes("a", "2a", 0);
        makes("ao", "2ao", 0);
        makes("aoa", "2ao 2a", 0);
        makes("oa", "2o 2a", 0);
        makes("aa", "2a 2a", 0);
        makes("kao", "0kao", 0);
        makes("koa", "0ko 2a", 0);
        makes("koao", "0ko 2ao", 0);
        makes("kaoo", "0kao 2o", 0);
        makes("kkao", "0kkao", 0);
        makes("ga|o", "0ga 2o", 0);
        makes("kana", "0ka 0na", 1);
        makes("kanao", "0ka 0nao", 1);
        makes("kananant", "0ka 0na 0nant", 2);
        makes("kaonto", "0kaont 2o", 0);
        makes("kata", "0kat 2a", 0);
        makes("kakka", "0kak 0ka", 1);
        makes("kakkkka", "0kakk 0kka", 0);
        makes("kan|a", "0kan 2a", 0);
        makes("kanza", "0kan 3z 2a", 0);
        makes("ana", "2a 0na", 0);
        makes("gaka", "0ga 0ka", 1);
        makes("gagaga", "0ga 0ga 0ga", 0);
        makes("kakao", "0ka 0kao", 1);
        makes("|a||o|", "2a 2o", 0);
        makes("", "", 0);
        StolenFinals x = new StolenFinals();
        Face.script(x, "both k;final t;vowel a;pair t k;pair k t;twin k");
        Face.type(x, "katka");
        Check.due("the first of a pair is left", items(x), "0kat 0ka");
        due("as the single end t", x.item(0, 3), 2);
        due("stolen", x.about(9), 1);
        Face.type(x, "kt");
        x.key('a');
        Check.due("the latest of that can't lead", items(x), "0kat 0kakt 2a");
    }

    private static void promise12Brk() {
        StolenFinals x = scripted();
        due("brk in an empty row", x.brk(), 0);
        x.key('k');
        x.key('a');
        x.key('o');
        due("brk at the end", x.brk(), 1);
        x.goes(3);
        due("brk within a block", x.brk(), 2);
        Check.due("the row", Face.row(x), "|ka|o|");
        due("the caret", x.about(11), 4);
        due("breaks", x.about(10), 3);
        due("acts", x.about(12), 7);
        while (x.about(6) < 80) {
            x.brk();
        }
        due("trouble", x.trouble(), 0);
        refused("the 81st", x, x.brk(), 3);
        due("80 stay", x.about(6), 80);
    }

    private static void promise13Type() {
        StolenFinals x = scripted();
        int n = Face.feed(x, "kao|n");
        due("type", x.type(n), 2);
        due("trouble", x.trouble(), 0);
        due("the tape is empty", x.size(), 0);
        due("one act", x.about(12), 1);
        x.goes(1);
        due("in the middle", Face.type(x, "a|"), 3);
        Check.due("the row", Face.row(x), "ka|ao|n");
        due("the caret", x.about(11), 3);
        Face.feed(x, "kan");
        refused("type(-1)", x, x.type(-1), 2);
        refused("type(21)", x, x.type(21), 2);
        due("the tape stays by 2", x.size(), 20);
        due("type(0)", x.type(0), 3);
        due("the tape is empty by 0", x.size(), 0);
        due("it is an act", x.about(12), 4);
        for (String odd : new String[] {"kab", "k ", "k}", "{a", "K", "\u00ff", "kak\u0000"}) {
            refused("type " + odd, x, Face.type(x, odd), 5);
            due("the tape is empty by 5", x.size(), 0);
        }
        Check.due("the row stays", Face.row(x), "ka|ao|n");
        due("the acts stay", x.about(12), 4);
        String many = "kakakakakakakakakaka".repeat(4);
        refused("74 more", x, Face.type(x, many.substring(0, 74)), 3);
        due("the tape is empty by 3", x.size(), 0);
        due("the row stays by 3", x.about(6), 7);
        refused("5 is told ahead of 3", x, Face.type(x, many + "b"), 5);
        due("73 more", Face.type(x, many.substring(0, 73)), 39);
        due("80", x.about(6), 80);
        due("none more", Face.type(x, ""), 39);
        refused("one more", x, Face.type(x, "|"), 3);
        StolenFinals y = new StolenFinals();
        y.feed(0, 0, 0, 0, 0);
        refused("1 ahead of 2", y, y.type(-1), 1);
        due("the tape stays by 1", y.size(), 20);
    }

    private static void promise14Back() {
        StolenFinals x = typed("kan|a");
        due("a goes", x.back(), 1);
        due("the break goes", x.back(), 1);
        x.goes(2);
        due("a goes from the middle", x.back(), 2);
        Check.due("the row", Face.row(x), "kn");
        due("the caret", x.about(11), 1);
        due("acts", x.about(12), 5);
        due("k goes", x.back(), 1);
        refused("none ahead", x, x.back(), 5);
        due("acts stay", x.about(12), 6);
        Check.due("the row stays", Face.row(x), "n");
        StolenFinals y = typed("kana");
        y.back();
        due("what was stolen is an end again", y.item(0, 3), 2);
    }

    private static void promise15Del() {
        StolenFinals x = typed("kan|a");
        refused("none at the end", x, x.del(), 5);
        due("acts stay", x.about(12), 1);
        x.goes(3);
        due("the break goes", x.del(), 2);
        Check.due("the row", Face.row(x), "kana");
        due("n is stolen then", x.of(2, 1), 1);
        due("the caret stays", x.about(11), 3);
        x.goes(0);
        due("k goes", x.del(), 2);
        Check.due("the row without k", Face.row(x), "ana");
        due("the caret at 0", x.about(11), 0);
        due("acts", x.about(12), 5);
        x.del();
        x.del();
        due("the last goes", x.del(), 0);
        refused("none in an empty row", x, x.del(), 5);
    }

    private static void promise16Goes() {
        StolenFinals x = typed("kan");
        due("to 1", x.goes(1), 3);
        due("to 0", x.goes(0), 1);
        due("to the end", x.goes(3), 0);
        due("where it is", x.goes(3), 3);
        due("trouble", x.trouble(), 0);
        due("acts", x.about(12), 5);
        for (int place : new int[] {-1, 4, LOW, HIGH}) {
            refused("goes(" + place + ")", x, x.goes(place), 2);
        }
        due("the caret stays", x.about(11), 3);
        due("the acts stay", x.about(12), 5);
    }

    private static void tidies(String row, int caret, String tidied, int newCaret) {
        StolenFinals x = typed(row);
        String items = likeness(x);
        x.goes(caret);
        due("bare of " + row, x.bare(), breaksOf(tidied));
        Check.due("bare() changes nothing", Face.row(x), row);
        due("tidy of " + row, x.tidy(), breaksOf(row) - breaksOf(tidied));
        due("trouble", x.trouble(), 0);
        Check.due("tidied " + row, Face.row(x), tidied);
        due("the caret of tidied " + row, x.about(11), newCaret);
        Check.due("the items of " + row, likeness(x), items);
        due("an act", x.about(12), 3);
        due("undone", x.undo(), 2);
        Check.due("the row again", Face.row(x), row);
        due("the caret again", x.about(11), caret);
    }

    private static int breaksOf(String row) {
        return row.length() - row.replace("|", "").length();
    }

    private static String likeness(StolenFinals x) {
        StringBuilder text = new StringBuilder();
        int count = x.about(7);
        for (int i = 0; i < count; i++) {
            for (int what = 0; what < 4; what++) {
                text.append(x.item(i, what)).append(',');
            }
        }
        return text.toString();
    }

    private static void promise17Tidy() {
        tidies("", 0, "", 0);
        tidies("|||", 2, "", 0);
        tidies("|ka|", 0, "ka", 0);
        tidies("|ka|", 1, "ka", 0);
        tidies("|ka|", 4, "ka", 2);
        tidies("ka||na", 2, "kana", 2);
        tidies("ka||na", 3, "kana", 2);
        tidies("ka||na", 5, "kana", 3);
        tidies("kan||a", 3, "kan|a", 3);
        tidies("kan||a", 4, "kan|a", 3);
        tidies("kan||a", 5, "kan|a", 3);
        tidies("kan||a", 6, "kan|a", 5);
        tidies("ka|n", 3, "ka|n", 2);
        tidies("ka|t", 4, "ka|t", 4);
        tidies("ka|g", 4, "kag", 3);
        tidies("k|k", 2, "k|k", 1);
        tidies("kk|k", 3, "kkk", 2);
        tidies("k|kk", 2, "k|kk", 1);
        tidies("g|g|g", 3, "ggg", 2);
        tidies("k|a", 2, "k|a", 1);
        tidies("a|o", 2, "a|o", 1);
        tidies("o|a", 2, "oa", 1);
        tidies("ka|o", 2, "ka|o", 2);
        tidies("ka|a", 3, "kaa", 2);
        tidies("ka|ka", 3, "kaka", 2);
        tidies("ka|kka", 3, "ka|kka", 2);
        tidies("kak|a", 4, "kak|a", 3);
        tidies("kat|a|z|k", 9, "katazk", 6);
        tidies("kan|t", 5, "kan|t", 5);
        tidies("kan|n|a", 7, "kann|a", 6);
        tidies("kana|na", 7, "kanana", 6);
        StolenFinals x = typed("ka|na|");
        due("tidy alone", x.tidy(), 2);
        Check.due("the row", Face.row(x), "kana");
        due("trouble", x.trouble(), 0);
    }

    private static void promise18Codes() {
        StolenFinals x = scripted();
        due("two blocks in an empty row", Face.codes(x, x.code(1, 0, 2), x.code(2, 0, 0)), 2);
        due("trouble", x.trouble(), 0);
        Check.due("no break is needed", Face.row(x), "kanna");
        due("the caret", x.about(11), 5);
        due("one act", x.about(12), 1);
        due("the tape is empty", x.size(), 0);
        due("at the end", Face.codes(x, 0), 3);
        Check.due("a break ahead", Face.row(x), "kanna|ga");
        x.goes(0);
        due("at place 0", Face.codes(x, 71), 4);
        Check.due("a break behind", Face.row(x), "kkaokk|kanna|ga");
        due("the caret behind the break", x.about(11), 7);
        x.goes(8);
        due("within a block", Face.codes(x, 0, 0), 8);
        Check.due("breaks on both sides", Face.row(x), "kkaokk|k|gaga|anna|ga");
        due("the caret behind all", x.about(11), 14);
        StolenFinals y = scripted();
        Face.codes(y, y.code(0, 0, 0), y.code(3, 0, 0), y.code(1, 0, 2), y.code(0, 1, 0), y.code(2, 1, 0));
        Check.due("ga kka kan go no", Face.row(y), "ga|kkakangono");
        due("five blocks", y.about(8), 5);
        StolenFinals z = scripted();
        Face.codes(z, 0, 0);
        z.goes(2);
        z.brk();
        due("between breaks, too", Face.codes(z, 6), 3);
        Check.due("breaks beside breaks", Face.row(z), "ga||go|ga");
        z.goes(1);
        Face.codes(z, 6);
        Check.due("behind the first key", Face.row(z), "g|go|a||go|ga");
        StolenFinals w = new StolenFinals();
        due("many codes", Face.script(w, WIDEST), 22);
        due("a code of two bytes", Face.codes(w, w.code(12, 5, 6)), 1);
        due("is that block", w.item(0, 4), w.code(12, 5, 6));
        Check.holds("above 256", w.code(12, 5, 6) > 256);
    }

    private static void promise18CodesRefused() {
        StolenFinals x = scripted();
        x.feed(0, 0, 0, 0, 0);
        for (int n : new int[] {0, 1, 3, 19, 21, 22, -1, -2, LOW, HIGH}) {
            refused("codes(" + n + ")", x, x.codes(n), 2);
        }
        due("the tape stays by 2", x.size(), 20);
        due("codes(20)", x.codes(20), 10);
        due("only the first n", Face.feed(x, "\u0000\u0000\u0000\u0048"), 4);
        due("codes(2)", x.codes(2), 11);
        due("acts", x.about(12), 2);
        refused("no such code", x, Face.codes(x, 72), 5);
        due("the tape is empty by 5", x.size(), 0);
        refused("the second one", x, Face.codes(x, 0, 256), 5);
        refused("high bytes", x, Face.codes(x, 65535), 5);
        int[] many = new int[140];
        refused("too many", x, Face.codes(x, many), 3);
        due("the tape is empty by 3", x.size(), 0);
        many[139] = 72;
        refused("5 is told ahead of 3", x, Face.codes(x, many), 5);
        Check.due("the row stays", Face.row(x), "ga".repeat(10) + "|ga");
        due("the acts stay", x.about(12), 2);
        refused("57 + 1 more", x, Face.codes(x, new int[29]), 3);
        due("56 + 1 more", Face.codes(x, new int[28]), 39);
        due("80", x.about(6), 80);
        StolenFinals y = scripted();
        due("80 at once", Face.codes(y, new int[40]), 40);
        y.undo();
        refused("82 at once", y, Face.codes(y, new int[41]), 3);
        y.key('g');
        y.goes(0);
        refused("80 and a break", y, Face.codes(y, new int[40]), 3);
        int[] needy = new int[39];
        needy[38] = y.code(3, 0, 0);
        refused("1, 79 and two breaks", y, Face.codes(y, needy), 3);
        due("1, 78 and a break fit", Face.codes(y, new int[39]), 40);
        StolenFinals z = new StolenFinals();
        z.feed(0, 0, 0, 0, 0);
        refused("1 ahead of 2", z, z.codes(1), 1);
        due("the tape stays by 1", z.size(), 20);
    }

    private static void promise19Undo() {
        StolenFinals x = scripted();
        refused("none yet", x, x.undo(), 5);
        for (int i = 0; i < 35; i++) {
            x.key('g');
        }
        due("30 can be", x.about(12), 30);
        for (int left = 29; left >= 0; left--) {
            due("undo", x.undo(), left);
        }
        due("trouble", x.trouble(), 0);
        due("five stay", x.about(6), 5);
        due("the caret", x.about(11), 5);
        due("the items", x.about(7), 5);
        refused("none more", x, x.undo(), 5);
        due("five stay by 5", x.about(6), 5);
        x.key('a');
        x.undo();
        x.key('o');
        due("one act", x.about(12), 1);
        Check.due("the row", Face.row(x), "gggggo");
    }

    private static void promise19UndoOfEachAct() {
        StolenFinals x = typed("kan||at");
        x.goes(4);
        String[] acts = {"key", "brk", "type", "back", "del", "goes", "tidy", "codes"};
        for (String act : acts) {
            int kept = x.about(12);
            int arg = act.equals("key") ? 'o' : 2;
            if (act.equals("type")) {
                Face.feed(x, "|k");
            }
            if (act.equals("codes")) {
                x.feed(0, 0, 0, 0, 0);
            }
            boolean bare = act.equals("brk") || act.equals("back") || act.equals("del") || act.equals("tidy");
            Face.call(x, act, bare ? new int[0] : new int[] {arg});
            due(act + " wasn't refused", x.trouble(), 0);
            due(act + " is an act", x.about(12), kept + 1);
            Check.holds(act + " changed something", !Face.row(x).equals("kan||at") || x.about(11) != 4);
            due(act + " undone", x.undo(), kept);
            Check.due("the row behind " + act, Face.row(x), "kan||at");
            due("the caret behind " + act, x.about(11), 4);
            Check.due("the items behind " + act, items(x), "0kan 2a 3t");
            refused("a refused " + act, x, act.equals("goes") ? x.goes(99) : x.key(1), act.equals("goes") ? 2 : 1);
            due("no act by a refused call", x.about(12), kept);
        }
        due("undo leaves the tape", x.feed(0, 0, 0, 0, 0), 20);
        x.undo();
        due("as it is", x.size(), 20);
    }

    // ---- what there is

    private static void promise20At() {
        StolenFinals x = typed("ka|z");
        due("at(0)", x.at(0), 'k');
        due("at(1)", x.at(1), 'a');
        due("at(2)", x.at(2), 124);
        due("at(3)", x.at(3), 'z');
        due("trouble", x.trouble(), 0);
        for (int place : new int[] {-1, 4, LOW, HIGH}) {
            refused("at(" + place + ")", x, x.at(place), 1);
        }
    }

    private static void ofs(StolenFinals x, int what, int... want) {
        for (int place = 0; place < want.length; place++) {
            due("of(" + place + ", " + what + ")", x.of(place, what), want[place]);
            due("trouble of of()", x.trouble(), 0);
        }
        refused("of beyond", x, x.of(want.length, what), 1);
    }

    private static void promise21Of() {
        StolenFinals x = typed("kkaonna|ztan");
        ofs(x, 0, 0, 0, 0, 0, 0, 1, 1, -2, 2, 3, 4, 5);
        ofs(x, 1, 0, 0, 0, 0, 0, 0, 0, 0, 0, 0, 0, 0);
        ofs(x, 2, 0, 0, 1, 1, 2, 0, 1, -2, 3, 3, 1, 0);
        StolenFinals y = typed("gaka|gakkat");
        ofs(y, 0, 0, 0, 1, 1, -2, 2, 2, 2, 3, 3, 3);
        ofs(y, 1, 0, 0, 1, 0, 0, 0, 0, 0, 1, 0, 0);
        ofs(y, 2, 0, 1, 0, 1, -2, 0, 1, 2, 0, 1, 2);
        y.back();
        y.back();
        ofs(y, 1, 0, 0, 1, 0, 0, 0, 0, 0, 0);
        refused("of(-1, 0)", y, y.of(-1, 0), 1);
        refused("of(0, 3)", y, y.of(0, 3), 1);
        refused("of(0, -1)", y, y.of(0, -1), 1);
        refused("of(HIGH, 0)", y, y.of(HIGH, 0), 1);
    }

    private static void itemIs(StolenFinals x, int i, int... want) {
        for (int what = 0; what < want.length; what++) {
            due("item(" + i + ", " + what + ")", x.item(i, what), want[what]);
            due("trouble of item()", x.trouble(), 0);
        }
    }

    private static void promise22Item() {
        StolenFinals x = typed("|kkaokk|kananta|z|tk|kk");
        itemIs(x, 0, 0, 3, 2, 5, 71, 1, 6);
        itemIs(x, 1, 0, 1, 0, 0, 18, 8, 2);
        itemIs(x, 2, 0, 2, 0, 4, 40, 10, 4);
        itemIs(x, 3, 2, -2, 0, -2, -2, 14, 1);
        itemIs(x, 4, 3, -2, -2, -2, -2, 16, 1);
        itemIs(x, 5, 3, -2, -2, -2, -2, 18, 1);
        itemIs(x, 6, 1, 1, -2, -2, -2, 19, 1);
        itemIs(x, 7, 1, 3, -2, -2, -2, 21, 2);
        for (int i : new int[] {-1, 8, LOW, HIGH}) {
            refused("item(" + i + ", 0)", x, x.item(i, 0), 1);
        }
        refused("item(0, 7)", x, x.item(0, 7), 1);
        refused("item(0, -1)", x, x.item(0, -1), 1);
        StolenFinals y = typed("ao");
        itemIs(y, 0, 2, -2, 2, -2, -2, 0, 2);
    }

    private static void promise23Within() {
        StolenFinals x = typed("|kkana|az");
        int[] want = {-2, -2, 0, 0, -2, 1, -2, -2, -2, -2};
        for (int place = 0; place < want.length; place++) {
            x.goes(place);
            due("within() at " + place, x.within(), want[place]);
            due("trouble", x.trouble(), 0);
        }
        StolenFinals z = typed("ga");
        z.goes(1);
        due("within() at 1", z.within(), 0);
        StolenFinals y = scripted();
        due("within() an empty row", y.within(), -2);
        Face.type(y, "||");
        y.goes(1);
        due("within() between breaks", y.within(), -2);
    }

    private static void needs(String row, int place, int want) {
        StolenFinals x = typed(row);
        due("needed(" + place + ") in " + row, x.needed(place), want);
        due("trouble", x.trouble(), 0);
        Check.due("needed() changes nothing", Face.row(x), row);
    }

    private static void promise24Needed() {
        needs("|ka", 0, 0);
        needs("ka|", 2, 0);
        needs("ka|na", 2, 0);
        needs("kan|a", 3, 1);
        needs("kan||a", 3, 0);
        needs("kan||a", 4, 0);
        needs("k|k", 1, 1);
        needs("g|g", 1, 0);
        needs("k|a", 1, 1);
        needs("a|o", 1, 1);
        needs("o|a", 1, 0);
        needs("ka|n", 2, 1);
        needs("ka|g", 2, 0);
        needs("kan|t|a", 3, 1);
        needs("kan|t|a", 5, 0);
        needs("ka|kka", 2, 1);
        needs("k|kk", 1, 1);
        needs("|", 0, 0);
        StolenFinals x = typed("ka|");
        due("needed", x.needed(2), 0);
        due("needed again", x.needed(2), 0);
        refused("needed of a key", x, x.needed(0), 5);
        refused("needed(3)", x, x.needed(3), 1);
        refused("needed(-1)", x, x.needed(-1), 1);
        refused("needed(HIGH)", x, x.needed(HIGH), 1);
    }

    private static void promise25Bare() {
        StolenFinals x = typed("|kan|a||o|ka|na|k|k|");
        due("bare", x.bare(), 4);
        due("trouble", x.trouble(), 0);
        due("no act", x.about(12), 1);
        due("tidy", x.tidy(), 5);
        Check.due("so it is", Face.row(x), "kan|a|okana|k|k");
        due("bare of bare", x.bare(), x.about(10));
        StolenFinals y = scripted();
        due("bare of none", y.bare(), 0);
    }

    private static void wouldBe(StolenFinals x, int key, int... want) {
        String row = Face.row(x);
        for (int what = 0; what < 4; what++) {
            due("would(" + (char) key + ", " + what + ") in " + row, x.would(key, what), want[what]);
            due("trouble of would()", x.trouble(), 0);
        }
        Check.due("would() changes nothing", Face.row(x), row);
    }

    private static void promise26Would() {
        StolenFinals x = scripted();
        wouldBe(x, 'k', 1, 0, 0, 0);
        wouldBe(x, '|', 0, 0, 0, 0);
        Face.type(x, "kanagan");
        wouldBe(x, 'a', 4, 2, 0, 2);
        wouldBe(x, 't', 3, 2, 0, 1);
        wouldBe(x, '|', 3, 3, 0, 1);
        wouldBe(x, 'z', 4, 3, 0, 1);
        x.goes(3);
        wouldBe(x, '|', 3, 0, 1, 0);
        wouldBe(x, 'k', 3, 0, 1, 0);
        wouldBe(x, 'n', 3, 0, 2, 0);
        x.goes(0);
        wouldBe(x, 'z', 4, 0, 3, 1);
        wouldBe(x, 'k', 3, 0, 2, 1);
        StolenFinals y = typed("gagaga");
        y.goes(2);
        Face.codes(y, 0);
        y.goes(2);
        Check.due("four alike", items(y), "0ga 0ga 0ga 0ga");
        wouldBe(y, '|', 4, 4, 0, 0);
        wouldBe(y, 'o', 4, 0, 3, 0);
        wouldBe(y, 'g', 5, 1, 3, 0);
        wouldBe(y, 'a', 5, 1, 3, 0);
        refused("would(b, 0)", y, y.would('b', 0), 1);
        refused("would(125, 0)", y, y.would(125, 0), 1);
        refused("would(a, 4)", y, y.would('a', 4), 1);
        refused("would(a, -1)", y, y.would('a', -1), 1);
        due("no act", y.about(12), 4);
        Face.type(y, "g".repeat(80 - y.about(6)));
        refused("would in a full row", y, y.would('a', 0), 3);
        refused("a full row, a break", y, y.would('|', 3), 3);
        refused("1 ahead of 3", y, y.would('a', 4), 1);
    }

    private static void promise27Seek() {
        StolenFinals x = typed("kana|kkakka|zgan|k|ga");
        Check.due("the items", items(x), "0ka 0na 0kkak 0ka 3z 0gan 1k 0ga");
        due("k", Face.seek(x, "k", 0), 0);
        due("the tape is empty", x.size(), 0);
        due("k from 1", Face.seek(x, "k", 1), 2);
        due("k from 3", Face.seek(x, "k", 3), 3);
        due("k from 4: a lead alone is no block", Face.seek(x, "k", 4), -2);
        due("trouble of -2", x.trouble(), 0);
        due("the tape is empty by -2", x.size(), 0);
        due("knk", Face.seek(x, "knk", 0), 0);
        due("kk", Face.seek(x, "kk", 0), 2);
        due("kg: z stands between", Face.seek(x, "kg", 0), -2);
        due("g from 5", Face.seek(x, "g", 5), 5);
        due("g from 6", Face.seek(x, "g", 6), 7);
        due("g from 7", Face.seek(x, "g", 7), 7);
        due("gg beyond the end", Face.seek(x, "gg", 7), -2);
        due("a vowel leads none", Face.seek(x, "a", 0), -2);
        due("an old one leads none", Face.seek(x, "z", 0), -2);
        refused("no such item", x, Face.seek(x, "k", 8), 1);
        due("the tape stays by 1", x.size(), 20);
        refused("from -1", x, x.seek(1, -1), 1);
        refused("seek(0, 0)", x, x.seek(0, 0), 2);
        refused("seek(-1, 0)", x, x.seek(-1, 0), 2);
        x.feed(0, 0, 0, 0, 0);
        refused("seek(21, 0)", x, x.seek(21, 0), 2);
        due("the tape stays by 2", x.size(), 40);
        refused("1 ahead of 2", x, x.seek(0, 9), 1);
        refused("another byte", x, x.seek(2, 0), 5);
        due("the tape is empty by 5", x.size(), 0);
        refused("no tape", x, x.seek(1, 0), 2);
        refused("a break is no key", x, Face.seek(x, "k|", 0), 5);
        refused("b is no key", x, Face.seek(x, "b", 7), 5);
        due("no act", x.about(12), 1);
        StolenFinals y = typed("ga".repeat(21));
        due("twenty", Face.seek(y, "g".repeat(20), 1), 1);
        due("twenty from 2", Face.seek(y, "g".repeat(20), 2), -2);
        StolenFinals z = scripted();
        refused("in an empty row", z, Face.seek(z, "k", 0), 1);
    }

    private static void promise28Ranked() {
        StolenFinals x = typed("z|t|o|ao|a|kk|n|k|g|kka|ga|gan|ga|z|k");
        // items: 0 z, 1 t, 2 o, 3 ao, 4 a, 5 kk, 6 n, 7 k, 8 g, 9 kka, 10 ga, 11 gan, 12 ga, 13 z, 14 k
        int[] want = {10, 12, 11, 9, 8, 7, 14, 6, 5, 4, 2, 3, 1, 0, 13};
        for (int i = 0; i < want.length; i++) {
            due("ranked(" + i + ")", x.ranked(i), want[i]);
            due("trouble", x.trouble(), 0);
        }
        refused("ranked(15)", x, x.ranked(15), 1);
        refused("ranked(-1)", x, x.ranked(-1), 1);
        refused("ranked(HIGH)", x, x.ranked(HIGH), 1);
        StolenFinals full = typed("g".repeat(79) + "z");
        due("eighty items", full.about(7), 80);
        due("no blocks", full.about(8), 0);
        due("the last", full.ranked(79), 79);
        due("its place", full.item(79, 5), 79);
        due("its item", full.of(79, 0), 79);
        refused("ranked(80)", full, full.ranked(80), 1);
        refused("item(80, 0)", full, full.item(80, 0), 1);
        due("bare", full.bare(), 0);
        due("tidy", full.tidy(), 0);
        full.back();
        wouldBe(full, 'a', 79, 78, 0, 0);
        wouldBe(full, 'k', 80, 79, 0, 0);
        StolenFinals y = scripted();
        refused("ranked in an empty row", y, y.ranked(0), 1);
        StolenFinals z = new StolenFinals();
        Face.script(z, "final t;final b;old c;lead d;vowel a;old e");
        Face.type(z, "tbce");
        int[] byKeys = {1, 2, 3, 0};
        for (int i = 0; i < 4; i++) {
            due("alone ones by keys, " + i, z.ranked(i), byKeys[i]);
        }
    }

    private static void promise29Ways() {
        StolenFinals x = new StolenFinals();
        Face.script(x, "both k;vowel a");
        due("of no keys", x.ways(0, 0), 1);
        due("of no keys one item", x.ways(0, 1), 0);
        due("of one key none", x.ways(1, 0), 0);
        due("of one key", x.ways(1, 1), 2);
        // kk 2, ka 1, ak 2, aa 2
        due("of two keys one", x.ways(2, 1), 1);
        due("of two keys two", x.ways(2, 2), 3);
        // kak 1; kkk 3, kka 2, kaa 2, akk 3, aka 2, aak 3, aaa 3
        due("of three keys one", x.ways(3, 1), 1);
        due("of three keys two", x.ways(3, 2), 3);
        due("of three keys three", x.ways(3, 3), 4);
        due("trouble", x.trouble(), 0);
        long all = 0;
        for (int items = 0; items <= 8; items++) {
            all += x.ways(8, items);
        }
        due("all of eight keys", all, 256);
        refused("ways(9, 0)", x, x.ways(9, 0), 2);
        refused("ways(-1, 0)", x, x.ways(-1, 0), 2);
        refused("ways(0, 9)", x, x.ways(0, 9), 2);
        refused("ways(0, -1)", x, x.ways(0, -1), 2);
        refused("ways(LOW, HIGH)", x, x.ways(LOW, HIGH), 2);
        Face.script(x, "both k;vowel a;twin k;pair a a;pair k k");
        // kk, ka, aa; ak 2
        due("with twins and pairs", x.ways(2, 1), 3);
        due("the rest", x.ways(2, 2), 1);
        countsOfTheWidestScript();
    }

    private static void countsOfTheWidestScript() {
        StolenFinals x = new StolenFinals();
        due("22 keys", Face.script(x, WIDEST), 22);
        Face.type(x, "kan");
        long all = 0;
        for (int items = 0; items <= 8; items++) {
            all += x.ways(8, items);
        }
        due("all of eight keys", all, 54875873536L);
        due("8 keys are never no item", x.ways(8, 0), 0);
        due("one item of six keys: a twin, a pair, a pair", x.ways(6, 1), 4 * 3 * 5);
        due("no item of seven keys", x.ways(7, 1), 0);
        Check.due("nothing changes", Face.row(x), "kan");
        Face.script(x, "both k;vowel a;vowel o;final t;pair a o");
        all = 0;
        for (int items = 0; items <= 8; items++) {
            all += x.ways(8, items);
        }
        due("all of eight keys of another script", all, 65536);
        due("of five keys one item: none", x.ways(5, 1), 0);
        due("of four keys one item: kaok, kaot", x.ways(4, 1), 2);
    }

    private static void promise30Whole() {
        StolenFinals x = new StolenFinals();
        Face.script(x, "both k;vowel a");
        due("of 0", x.whole(0), 1);
        due("of 1", x.whole(1), 0);
        due("ka", x.whole(2), 1);
        due("kak", x.whole(3), 1);
        due("kaka", x.whole(4), 1);
        // kakak, kakka
        due("of 5", x.whole(5), 2);
        due("trouble", x.trouble(), 0);
        refused("whole(9)", x, x.whole(9), 2);
        refused("whole(-1)", x, x.whole(-1), 2);
        refused("whole(LOW)", x, x.whole(LOW), 2);
        Face.script(x, "lead k;vowel a;final t;old z");
        due("none of 1", x.whole(1), 0);
        due("one of 2", x.whole(2), 1);
        due("kat", x.whole(3), 1);
        due("kaka", x.whole(4), 1);
        due("katka, kakat", x.whole(5), 2);
        // eight: four of two; ka, kat, kat in three orders
        due("of 8", x.whole(8), 1 + 3);
        Face.script(x, "both k;vowel a;twin k;pair a a;pair k k");
        due("ka", x.whole(2), 1);
        due("kka, kaa, kak", x.whole(3), 3);
        // kaka, kkaa, kkak, kaak, kakk
        due("of 4", x.whole(4), 5);
    }

    // ---- what is told

    private static boolean thrown(StolenFinals x, int sort, int k) {
        try {
            x.told(sort, k);
            return false;
        } catch (NoSuchElementException e) {
            return true;
        }
    }

    private static void promise31Told() {
        StolenFinals x = scripted();
        String[] keys = {"gknt", "ao", "z"};
        x.about(99);
        for (int sort = 0; sort < 3; sort++) {
            for (int k = 0; k < keys[sort].length(); k++) {
                due("told(" + sort + ", " + k + ")", x.told(sort, k), keys[sort].charAt(k));
            }
            Check.holds("told beyond throws", thrown(x, sort, keys[sort].length()));
            Check.holds("told, -1 throws", thrown(x, sort, -1));
            Check.holds("told, HIGH throws", thrown(x, sort, HIGH));
        }
        Check.holds("told(3, 0) throws", thrown(x, 3, 0));
        Check.holds("told(-1, 0) throws", thrown(x, -1, 0));
        due("trouble stays", x.trouble(), 1);
        StolenFinals y = new StolenFinals();
        Check.holds("told without a script throws", thrown(y, 0, 0));
        Face.script(y, "lead k");
        Check.holds("told behind a fault throws", thrown(y, 0, 0));
        due("trouble stays 4", y.trouble(), 4);
    }

    private static void promise32Size() {
        StolenFinals x = new StolenFinals();
        due("none", x.size(), 0);
        x.feed(1, 2, 3, 4, 5);
        due("twenty", x.size(), 20);
        x.feed(1, 2, 3, 4, 5);
        due("forty", x.size(), 40);
        x.about(0);
        due("trouble stays by size()", x.trouble(), 1);
        x.script(1);
        due("none again", x.size(), 0);
        due("where stays by size()", x.where(), 0);
    }

    private static void promise33Trouble() {
        StolenFinals x = scripted();
        x.key('b');
        due("1", x.trouble(), 1);
        due("trouble() itself changes nothing", x.trouble(), 1);
        x.script(1);
        due("2", x.trouble(), 2);
        Face.type(x, "g".repeat(80));
        due("0", x.trouble(), 0);
        x.brk();
        due("3", x.trouble(), 3);
        Face.script(x, "x");
        due("4", x.trouble(), 4);
        x.del();
        due("5", x.trouble(), 5);
        String[] quiet = {"about", "letter", "code", "parts", "spelt", "at", "of", "item", "within", "needed", "bare",
            "ranked", "ways", "whole", "key", "brk", "type", "back", "del", "goes", "tidy", "undo"};
        int[][] args = {{0}, {'k', 0}, {0, 0, 0}, {0, 0}, {0, 0}, {0}, {0, 0}, {0, 0}, {}, {3}, {}, {0}, {1, 1}, {1},
            {'k'}, {}, {0}, {}, {}, {0}, {}, {}};
        for (int i = 0; i < quiet.length; i++) {
            StolenFinals y = typed("kan|ga");
            y.goes(1);
            y.del();
            y.undo();
            y.key(0);
            due("1 ahead of " + quiet[i], y.trouble(), 1);
            Face.call(y, quiet[i], args[i]);
            due("0 behind " + quiet[i], y.trouble(), 0);
        }
    }
}
