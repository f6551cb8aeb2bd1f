/** Promises 1 to 10, and what the Terms say of THE TEXT: a test of its own for each sentence that names an edge. */
public final class ScriptEdgeTest {
    private static final String TEN = "lead a;both b;final c;lead d;both e;final f;lead g;both h;final i;both j";
    private static final String EIGHT = "vowel k;vowel l;vowel m;vowel n;vowel o;vowel p;vowel q;vowel r";
    private static final String FOUR = "old s;old t;old u;old v";

    private ScriptEdgeTest() {
    }

    public static void main(String[] args) throws Exception {
        Edge.runAll(ScriptEdgeTest.class, 1, 10);
    }

    // ---- 1: "No SCRIPT."

    static void promise1NoScriptAtFirst() {
        StolenFinals x = new StolenFinals();
        for (int what = 0; what < 13; what++) {
            int asked = what;
            Edge.refuses("about(" + what + ")", x, 1, () -> x.about(asked));
        }
        Edge.due("trouble() of a new one", new StolenFinals().trouble(), 0);
    }

    static void promise1AnEmptyTapeAtFirst() {
        StolenFinals x = new StolenFinals();
        Edge.due("size()", x.size(), 0);
        Edge.due("the first feed", x.feed(0, 0, 0, 0, 0), 20);
    }

    static void promise1ObjectsShareNothing() {
        StolenFinals x = Edge.typed("kan|a");
        StolenFinals y = new StolenFinals();
        Edge.refuses("a new one beside", y, 1, () -> y.about(6));
        Face.feed(y, "kan");
        Edge.due("the tape of the first", x.size(), 0);
        Edge.due("the row of the first", Face.row(x), "kan|a");
    }

    static void promise1AllOf512CallsAreAnswered() {
        StolenFinals x = Edge.scripted("lead g;vowel a");
        // two feeds and script() were three calls at most
        for (int call = 4; call < 512; call += 4) {
            x.key('g');
            x.key('a');
            x.undo();
            Edge.due("call " + (call + 3), x.back(), 0);
        }
    }

    // ---- 2: feed

    static void promise2FeedTellsHowManyThereAre() {
        StolenFinals x = new StolenFinals();
        Edge.due("one feed", x.feed(1, 2, 3, 4, 5), 20);
        Edge.due("two feeds", x.feed(1, 2, 3, 4, 5), 40);
    }

    static void promise2FeedTakesTheHighestByteFirst() {
        StolenFinals x = Edge.scripted();
        x.feed(0x6b616e7c, 0x676f747a, 0x7c6b6b61, 0x6f6b6b7c, 0x7c61616f);
        x.type(20);
        Edge.due("the row", Face.row(x), "kan|gotz|kkaokk||aao");
    }

    static void promise2FeedComesBehindTheTape() {
        StolenFinals x = Edge.scripted();
        Face.feed(x, "gagagagagagagagagaga");
        Face.feed(x, "kok");
        x.type(23);
        Edge.due("the row", Face.row(x), "gagagagagagagagagagakok");
    }

    static void promise2FeedKeepsBytesOf128AndMore() {
        StolenFinals x = Edge.scripted(Edge.WIDEST);
        // 0x0080, 0x00ff, 0x01ff, 0x0595: 1429 is the greatest CODE
        x.feed(0x008000ff, 0x01ff0595, -1, -1, -1);
        Edge.due("codes(8)", x.codes(8), 4);
        int[] want = {128, 255, 511, 1429};
        for (int i = 0; i < want.length; i++) {
            Edge.due("code of item " + i, x.item(i, 4), want[i]);
        }
    }

    static void promise2FeedUpTo300() {
        StolenFinals x = new StolenFinals();
        for (int bytes = 20; bytes <= 300; bytes += 20) {
            Edge.due("feed", x.feed(-1, -1, -1, -1, -1), bytes);
        }
        Edge.due("size()", x.size(), 300);
    }

    static void promise2FeedBeyond300BringsNone() {
        StolenFinals x = new StolenFinals();
        String text = "lead k;vowel a" + " ".repeat(286);
        Face.feed(x, text);
        Edge.due("size()", x.size(), 300);
        Edge.due("feed of a full tape", x.feed(-1, -1, -1, -1, -1), StolenFinals.NONE);
        Edge.due("feed once more", x.feed(-1, -1, -1, -1, -1), StolenFinals.NONE);
        Edge.due("size() behind them", x.size(), 300);
        Edge.due("what it had", x.script(300), 2);
    }

    static void promise2FeedRefusedLeavesTrouble() {
        StolenFinals x = new StolenFinals();
        Face.feed(x, " ".repeat(300));
        Edge.due("no trouble yet", x.trouble(), 0);
        Edge.due("feed", x.feed(0, 0, 0, 0, 0), StolenFinals.NONE);
        Edge.due("trouble() stays 0", x.trouble(), 0);
        x.script(301);
        x.feed(0, 0, 0, 0, 0);
        Edge.due("trouble() stays 2", x.trouble(), 2);
    }

    static void promise2FeedLeavesTroubleAndWhere() {
        StolenFinals x = new StolenFinals();
        Face.script(x, "lead k");
        x.feed(0, 0, 0, 0, 0);
        Edge.due("trouble()", x.trouble(), 4);
        Edge.due("where()", x.where(), 6);
        Edge.due("fault()", x.fault(), 4);
    }

    static void promise2FeedAgainWhenTheTapeIsEmptied() {
        StolenFinals x = Edge.scripted();
        Face.feed(x, "k".repeat(300));
        x.type(1);
        Edge.due("feed", x.feed(0, 0, 0, 0, 0), 20);
        Edge.due("the row", Face.row(x), "k");
    }

    // ---- 3: script

    static void promise3ScriptTellsHowManyKeys() {
        Edge.sound("lead k;vowel a", 2);
        Edge.sound("both k;final t;vowel a;vowel o;old z", 5);
        Edge.sound(Edge.WIDEST, 22);
    }

    static void promise3ScriptBelow0IsRefusedBy2() {
        StolenFinals x = Edge.typed("kan", 1);
        Face.feed(x, "lead k;vowel a");
        Edge.refuses("script(-1)", x, 2, () -> x.script(-1));
        Edge.refuses("script(LOW)", x, 2, () -> x.script(Edge.LOW));
    }

    static void promise3ScriptOfMoreThanThereIsIsRefusedBy2() {
        StolenFinals x = Edge.typed("kan", 1);
        Edge.refuses("script(1) of none", x, 2, () -> x.script(1));
        Face.feed(x, "lead k;vowel a");
        Edge.refuses("script(21) of 20", x, 2, () -> x.script(21));
        Edge.refuses("script(HIGH)", x, 2, () -> x.script(Edge.HIGH));
        Edge.due("script(20) of 20", x.script(20), 2);
    }

    static void promise3ScriptOf0IsAFault() {
        StolenFinals x = new StolenFinals();
        x.feed(0, 0, 0, 0, 0);
        Edge.due("script(0)", x.script(0), StolenFinals.NONE);
        Edge.due("trouble()", x.trouble(), 4);
        Edge.due("fault()", x.fault(), 1);
        Edge.due("where()", x.where(), 0);
        Edge.due("size()", x.size(), 0);
        Edge.faulty("", 1, 0);
    }

    static void promise3ScriptOf300() {
        String end = "vowel a";
        Edge.sound("lead k;" + " ".repeat(300 - 7 - end.length()) + end, 2);
        Edge.faulty("lead k;" + " ".repeat(300 - 8) + "v", 1, 299);
        Edge.faulty("lead k" + " ".repeat(300 - 6), 4, 300);
    }

    static void promise3ScriptTakesTheFirstNBytesAlone() {
        StolenFinals x = new StolenFinals();
        Face.feed(x, "lead k;vowel abcdefgh;;");
        Edge.answers("script(14)", x, x.script(14), 2);
        Edge.due("a is a vowel", x.letter('a', 0), 3);
    }

    static void promise3ScriptEmptiesTheTape() {
        StolenFinals x = new StolenFinals();
        Face.feed(x, "lead k;vowel a;old z;lead g;lead h");
        x.script(14);
        Edge.due("size()", x.size(), 0);
    }

    static void promise3AFaultEmptiesTheTapeAndChangesNothingElse() {
        Edge.faulty("lead k;vowel a;old", 1, 18);
        StolenFinals x = Edge.typed("kan|a", 1);
        Face.script(x, "both x;vowel y;twin z");
        Edge.due("undo() behind a fault", x.undo(), 1);
        Edge.due("the caret again", x.about(11), 5);
        Edge.due("k is a key still", x.key('k'), 3);
        Edge.due("its twin is there still", x.letter('k', 4), 3);
        Edge.due("counts are the old script's", x.ways(1, 1), 7);
    }

    static void promise3AScriptEmptiesTheRow() {
        StolenFinals x = Edge.typed("kan|a", 2);
        Face.script(x, Edge.TEXT);
        Edge.due("the row", x.about(6), 0);
        Edge.due("the items", x.about(7), 0);
        Edge.due("the blocks", x.about(8), 0);
        Edge.due("stolen keys", x.about(9), 0);
        Edge.due("the breaks", x.about(10), 0);
        Edge.due("the caret", x.about(11), 0);
        Edge.refuses("at(0)", x, 1, () -> x.at(0));
        Edge.refuses("item(0, 0)", x, 1, () -> x.item(0, 0));
        Edge.due("the first key", x.key('a'), 1);
        Edge.due("the row then", Face.row(x), "a");
    }

    static void promise3AScriptLeavesNoAct() {
        StolenFinals x = Edge.typed("kan|a", 2);
        Face.script(x, Edge.TEXT);
        Edge.due("acts", x.about(12), 0);
        Edge.refuses("undo()", x, 5, x::undo);
    }

    static void promise3AScriptTakesThePlaceOfTheOneAhead() {
        StolenFinals x = Edge.scripted(Edge.WIDEST);
        x.ways(8, 8);
        Face.script(x, "lead w;vowel x");
        Edge.refuses("a key of the one ahead", x, 1, () -> x.key('a'));
        int[] want = {1, 1, 0, 1, 1, 1};
        for (int what = 0; what < want.length; what++) {
            Edge.due("about(" + what + ")", x.about(what), want[what]);
        }
        Edge.due("ways(2, 1)", x.ways(2, 1), 1);
        Edge.due("ways(2, 2)", x.ways(2, 2), 3);
        Edge.due("letter", x.letter('w', 4), -2);
    }

    static void promise3ScriptsLeaveNothingToTheNext() {
        StolenFinals x = new StolenFinals();
        for (int i = 0; i < 4; i++) {
            Edge.due("the widest", Face.script(x, Edge.WIDEST), 22);
            Edge.due("a fault behind all that", Face.script(x, Edge.WIDEST + ";pair q q"), StolenFinals.NONE);
            Edge.due("its number", x.fault(), 3);
            Edge.due("a small one", Face.script(x, "both a;vowel k;old s;twin a;pair k k;pair a a"), 3);
            int[] want = {1, 1, 1, 2, 2, 3};
            for (int what = 0; what < want.length; what++) {
                Edge.due("about(" + what + ")", x.about(what), want[what]);
            }
        }
    }

    static void promise3PairsAreThoseOfTheScriptThatIs() {
        StolenFinals x = new StolenFinals();
        for (String pair : new String[] {"ao", "oo", "aa", "oa", "ao"}) {
            Face.script(x, "lead g;vowel a;vowel o;pair " + pair.charAt(0) + " " + pair.charAt(1));
            Edge.due("spelt by its second key", x.spelt(2, 2), pair.charAt(1));
            Edge.due("one item", Face.type(x, pair), 1);
            Edge.due("its middle", x.item(0, 2), 2);
        }
    }

    /** Several of each, since an object may keep more than one SCRIPT's room and use it again. */
    static void promise3TwinsAndPairsOfAnEarlierScriptAreGone() {
        StolenFinals x = new StolenFinals();
        for (int i = 0; i < 3; i++) {
            Face.script(x, "both k;vowel a;twin k;pair a a;pair k k");
            Edge.due("kk, aa, kk is one item", Face.type(x, "kkaakk"), 1);
        }
        for (int i = 0; i < 3; i++) {
            Face.script(x, "both k;vowel a");
            Edge.answers("k has no twin", x, x.letter('k', 4), -2);
            Edge.due("nothing joins", Face.type(x, "kkaakk"), 5);
            Edge.due("the items", Edge.items(x), "1k 0ka 2a 1k 1k");
            x.undo();
            Edge.due("no pair of ends", Face.type(x, "kakk"), 2);
        }
    }

    // ---- 3: the TEXT's TOKENS

    static void promise3BlanksPartTokensAndMeanNothingElse() {
        Edge.sound("    lead    k   ;   vowel    a    ", 2);
        Edge.sound("lead k;vowel a;pair a a;twin k", 2);
        Edge.sound("lead k ;vowel a; pair a  a ; twin   k ", 2);
        Edge.faulty("leadk;vowel a", 1, 0);
        Edge.faulty("le ad k;vowel a", 1, 0);
        Edge.faulty("lead k;vowel a;pair aa", 1, 20);
    }

    static void promise3AByteThatBeginsNoToken() {
        int[] odd = {0, 1, 9, 10, 13, 31, 33, 44, 47, 48, 57, 58, 60, 64, 65, 75, 90, 91, 95, 96, 123, 124, 126, 127,
            128, 155, 160, 187, 225, 255};
        for (int b : odd) {
            String sign = "" + (char) b;
            Edge.faulty(sign + "lead k;vowel a", 1, 0);
            Edge.faulty("lead " + sign + "k;vowel a", 1, 5);
            Edge.faulty("lead k" + sign + ";vowel a", 1, 6);
            Edge.faulty("lead k;" + sign + "vowel a", 1, 7);
            Edge.faulty("lead k;vowel a" + sign, 1, 14);
        }
    }

    static void promise3MoreThanFiveLettersTogether() {
        Edge.faulty("vowels a;lead k", 1, 0);
        Edge.faulty("  finall t", 1, 2);
        Edge.faulty("lead k;vowel abcdef", 1, 13);
        Edge.faulty("lead k vowela", 1, 7);
        Edge.faulty("lead k;vowela", 1, 7);
        Edge.faulty("a".repeat(300), 1, 0);
    }

    static void promise3AWordOfMoreLettersWhereAKeyMustBe() {
        Edge.faulty("lead kk;vowel a", 1, 5);
        Edge.faulty("lead lead;vowel a", 1, 5);
        Edge.faulty("lead k;vowel a;twin kk", 1, 20);
        Edge.faulty("lead k;vowel a;pair aa a", 1, 20);
        Edge.faulty("lead k;vowel a;pair a aa", 1, 22);
        Edge.faulty("lead k;vowel abcde", 1, 13);
    }

    static void promise3ATokenWithWhichNoTextGoesOn() {
        Edge.faulty("k", 1, 0);
        Edge.faulty(";lead k", 1, 0);
        Edge.faulty("lead;", 1, 4);
        Edge.faulty("lead k l", 1, 7);
        Edge.faulty("lead k vowel a", 1, 7);
        Edge.faulty("lead k;;vowel a", 1, 7);
        Edge.faulty("lead k;k", 1, 7);
        Edge.faulty("vowel a;pair a;lead k", 1, 14);
        Edge.faulty("vowel a;pair a a a", 1, 17);
        Edge.faulty("lead k;twin k k", 1, 14);
    }

    static void promise3WordsNextToTheTrueOnes() {
        String[] odd = {"lea", "leads", "dead", "bot", "boths", "fina", "vowe", "ol", "olds", "twi", "twins", "pai",
            "pairs", "l", "twix", "finan"};
        for (String word : odd) {
            Edge.faulty("both k;vowel a; " + word + " b", 1, 16);
        }
    }

    static void promise3TheEndOfTheTextIsAtHowManyBytesItHas() {
        Edge.faulty("    ", 1, 4);
        Edge.faulty("lead", 1, 4);
        Edge.faulty("lead   ", 1, 7);
        Edge.faulty("lead k;vowel a;", 1, 15);
        Edge.faulty("lead k;vowel a;  ", 1, 17);
        Edge.faulty("vowel a;lead k;pair", 1, 19);
        Edge.faulty("vowel a;lead k;pair a ", 1, 22);
    }

    static void promise3TheEndCutByNBytes() {
        StolenFinals x = new StolenFinals();
        Face.feed(x, "lead k;vowel a;old z");
        x.script(15);
        Edge.due("fault()", x.fault(), 1);
        Edge.due("where()", x.where(), 15);
        Face.feed(x, "lead k;vowel a");
        x.script(10);
        Edge.due("fault() within a word", x.fault(), 1);
        Edge.due("where() within a word", x.where(), 7);
    }

    // ---- 3: FAULT 2

    static void promise3AKeyToldAgain() {
        String[] sorts = {"lead", "both", "final", "vowel", "old"};
        for (String first : sorts) {
            for (String second : sorts) {
                String text = first + " x;" + second + " x";
                Edge.faulty(text, 2, text.length() - 1);
            }
        }
    }

    static void promise3ATwinOfWhatIsNotToldAhead() {
        Edge.faulty("twin k;both k;vowel a", 2, 5);
        Edge.faulty("both k;vowel a;twin g", 2, 20);
    }

    static void promise3ATwinOfWhatCantLead() {
        Edge.faulty("lead g;final t;vowel a;old z;twin t", 2, 34);
        Edge.faulty("lead g;final t;vowel a;old z;twin a", 2, 34);
        Edge.faulty("lead g;final t;vowel a;old z;twin z", 2, 34);
        Edge.sound("lead g;vowel a;twin g", 2);
        Edge.sound("both g;vowel a;twin g", 2);
    }

    static void promise3ATwinToldAgain() {
        Edge.faulty("lead g;vowel a;twin g;twin g", 2, 27);
        Edge.sound("lead g;lead h;vowel a;twin g;twin h", 3);
    }

    static void promise3APairOfWhatIsNotToldAhead() {
        Edge.faulty("both k;pair a a;vowel a", 2, 12);
        Edge.faulty("both k;vowel a;pair a o;vowel o", 2, 22);
        Edge.faulty("both k;vowel a;pair k n;both n", 2, 22);
    }

    static void promise3APairWhoseFirstIsOfAnotherSort() {
        Edge.faulty("lead g;both k;vowel a;old z;pair g k", 2, 33);
        Edge.faulty("lead g;both k;vowel a;old z;pair z z", 2, 33);
    }

    static void promise3APairWhoseSecondIsOfAnotherSort() {
        String start = "lead g;both k;vowel a;old z;pair ";
        for (String pair : new String[] {"a g", "a k", "a z", "k g", "k a", "k z"}) {
            Edge.faulty(start + pair, 2, 35);
        }
    }

    static void promise3APairToldAgain() {
        Edge.faulty("both k;vowel a;vowel o;pair a o;pair a o", 2, 39);
        Edge.faulty("both k;vowel a;pair k k;pair k k", 2, 31);
        Edge.faulty("both k;vowel a;pair a a;pair k k;pair a a", 2, 40);
    }

    static void promise3PairsOfLikeOnesAndInTheOtherOrder() {
        Edge.sound("both k;both n;vowel a;vowel o;pair a a;pair a o;pair o a;pair k k;pair k n;pair n k", 4);
        Edge.sound("final k;final n;lead g;vowel a;pair n k;pair k n", 4);
    }

    // ---- 3: FAULT 3

    static void promise3UpTo10ConsonantsTogether() {
        Edge.sound(TEN + ";vowel k", 11);
        for (String sort : new String[] {"lead", "both", "final"}) {
            Edge.faulty(TEN + ";" + sort + " k", 3, TEN.length() + 1);
        }
    }

    static void promise3UpTo8Vowels() {
        Edge.sound(EIGHT + ";lead a", 9);
        Edge.faulty(EIGHT + ";vowel a", 3, EIGHT.length() + 1);
    }

    static void promise3UpTo4OldOnes() {
        Edge.sound(FOUR + ";lead a;vowel k", 6);
        Edge.faulty(FOUR + ";old a", 3, FOUR.length() + 1);
    }

    static void promise3UpTo4Twins() {
        String text = "lead a;lead b;both c;both d;lead e;twin a;twin b;twin c;twin d";
        Edge.sound(text + ";vowel k", 6);
        Edge.faulty(text + ";twin e", 3, text.length() + 1);
    }

    static void promise3UpTo8PairsTogether() {
        String vowels = "both a;both b;vowel k;vowel l;vowel m;pair k k;pair k l;pair k m;pair l k;pair l l;pair l m;"
                + "pair m k;pair m l";
        Edge.sound(vowels, 5);
        Edge.faulty(vowels + ";pair m m", 3, vowels.length() + 1);
        Edge.faulty(vowels + ";pair a b", 3, vowels.length() + 1);
        String mixed = "both a;both b;vowel k;vowel l;pair k k;pair a b;pair k l;pair b a;pair l k;pair l l;pair a a;"
                + "pair b b";
        Edge.sound(mixed, 4);
        Edge.faulty(mixed + ";pair a b", 3, mixed.length() + 1);
    }

    static void promise3AllLimitsAtOnce() {
        String most = TEN.replace("lead", "both").replace("final", "both") + ";" + EIGHT + ";" + FOUR
                + ";twin a;twin b;twin c;twin d;pair k k;pair l l;pair m m;pair n n;pair o o;pair p p;pair q q;pair r r";
        StolenFinals x = new StolenFinals();
        Edge.answers("script", x, Face.script(x, most), 22);
        Edge.due("leads", x.about(3), 14);
        Edge.due("middles", x.about(4), 16);
        Edge.due("ends", x.about(5), 11);
        Edge.due("the greatest code", x.code(13, 15, 10), 14 * 16 * 11 - 1);
    }

    static void promise3AllPairsOfConsonants() {
        String most = TEN.replace("lead", "both").replace("final", "both") + ";vowel k;pair a a;pair b b;pair c c;"
                + "pair d d;pair e e;pair f f;pair g g;pair h h";
        StolenFinals x = new StolenFinals();
        Edge.answers("script", x, Face.script(x, most), 11);
        Edge.due("ends", x.about(5), 19);
        Edge.due("the last end", x.code(9, 0, 18), 189);
        Edge.due("its second key", x.spelt(189, 3), 'h');
    }

    static void promise3TooManyIsToldAtTheLinesFirstWord() {
        Edge.faulty(FOUR + ";   old   a", 3, FOUR.length() + 4);
    }

    // ---- 3: FAULT 4, and which FAULT is told

    static void promise3NoConsonantThatCanLead() {
        Edge.faulty("vowel a", 4, 7);
        Edge.faulty("vowel a;final t", 4, 15);
        Edge.faulty("vowel a;final t;old z  ", 4, 23);
    }

    static void promise3NoVowel() {
        Edge.faulty("lead k", 4, 6);
        Edge.faulty("both k;twin k;pair k k", 4, 22);
        Edge.faulty("old z", 4, 5);
    }

    static void promise3OneLeadAndOneVowelAreEnough() {
        Edge.sound("lead k;vowel a", 2);
        Edge.sound("vowel a;both k", 2);
        Edge.sound("final t;final s;vowel a;old z;lead k", 5);
    }

    static void promise3TheFirstTokenFromTheLeftIsTold() {
        Edge.faulty("lead k;lead k;;", 2, 12);
        Edge.faulty("lead k;twin g;LEAD", 2, 12);
        Edge.faulty("lead k;; lead k", 1, 7);
        Edge.faulty(FOUR + ";old a;old a", 3, FOUR.length() + 1);
        Edge.faulty("old z;old z;" + FOUR, 2, 10);
        Edge.faulty("vowel a;pair x y", 2, 13);
    }

    static void promise3TooManyStandsLeftOfItsLinesKeys() {
        Edge.faulty(FOUR + ";old s", 3, FOUR.length() + 1);
        Edge.faulty(FOUR + ";old ;", 3, FOUR.length() + 1);
        Edge.faulty(FOUR + ";old", 3, FOUR.length() + 1);
    }

    static void promise3OfOneTokenTheLeastNumberIsTold() {
        // at the end: no TEXT goes on so, and a VOWEL lacks, too
        Edge.faulty("lead k;", 1, 7);
        Edge.faulty("lead", 1, 4);
        Edge.faulty("vowel a;pair a", 1, 14);
    }

    // ---- 4: fault

    static void promise4FaultIs0AheadOfAny() {
        StolenFinals x = new StolenFinals();
        Edge.due("fault()", x.fault(), 0);
        x.script(7);
        Edge.due("fault() behind a 2", x.fault(), 0);
    }

    static void promise4FaultOfEachNumber() {
        StolenFinals x = new StolenFinals();
        String[] texts = {"lead", "lead k;lead k", FOUR + ";old a", "lead k", "lead k;vowel a"};
        int[] want = {1, 2, 3, 4, 0};
        for (int i = 0; i < texts.length; i++) {
            Face.script(x, texts[i]);
            Edge.due("fault() of " + texts[i], x.fault(), want[i]);
        }
    }

    static void promise4FaultStaysWhenScriptIsRefusedBy2() {
        StolenFinals x = new StolenFinals();
        Face.script(x, "lead k");
        x.script(-1);
        Edge.due("fault() below 0", x.fault(), 4);
        x.script(1);
        Edge.due("fault() beyond", x.fault(), 4);
    }

    static void promise4FaultStaysByOtherCalls() {
        StolenFinals x = Edge.scripted();
        Face.script(x, "lead k");
        x.key('k');
        x.key('x');
        x.undo();
        x.feed(0, 0, 0, 0, 0);
        x.type(1);
        Edge.due("fault()", x.fault(), 4);
    }

    static void promise4FaultIs0AgainBehindASoundScript() {
        StolenFinals x = new StolenFinals();
        Face.script(x, "lead k");
        Face.script(x, "lead k;vowel a");
        Edge.due("fault()", x.fault(), 0);
    }

    // ---- 5: where

    static void promise5WhereIsNoneAtFirst() {
        Edge.due("where()", new StolenFinals().where(), StolenFinals.NONE);
    }

    static void promise5WhereCanBe0And300() {
        StolenFinals x = new StolenFinals();
        Face.script(x, ";");
        Edge.due("where() at 0", x.where(), 0);
        Face.script(x, " ".repeat(300));
        Edge.due("where() at 300", x.where(), 300);
    }

    static void promise5WhereIsNoneBehindACallThatIsntRefused() {
        StolenFinals x = Edge.scripted();
        Face.script(x, "lead");
        x.about(0);
        Edge.due("where()", x.where(), StolenFinals.NONE);
        Edge.due("fault()", x.fault(), 1);
    }

    static void promise5WhereIsNoneBehindACallRefusedByAnother() {
        String[] names = {"script", "about", "letter", "code", "parts", "spelt", "key", "type", "back", "del", "goes",
            "codes", "undo", "at", "of", "item", "needed", "would", "seek", "ranked", "ways", "whole"};
        for (String name : names) {
            StolenFinals x = Edge.scripted();
            Face.script(x, "lead");
            Edge.due("where() ahead of " + name, x.where(), 4);
            Edge.due(name, Face.call(x, name, 1000, 1000, 1000), StolenFinals.NONE);
            Edge.due("where() behind " + name, x.where(), StolenFinals.NONE);
        }
    }

    static void promise5WhereStaysByCallsThatCantBeRefused() {
        StolenFinals x = Edge.scripted();
        Face.script(x, "lead");
        x.feed(0, 0, 0, 0, 0);
        x.size();
        x.fault();
        x.trouble();
        x.told(0, 0);
        Edge.throwsNone(x, 0, 99);
        x.where();
        Edge.due("where()", x.where(), 4);
    }

    static void promise5WhereOfTheLatestFault() {
        StolenFinals x = new StolenFinals();
        Face.script(x, "lead");
        Face.script(x, "lead k;vowel k");
        Edge.due("where()", x.where(), 13);
        Face.script(x, "lead k;vowel a");
        Edge.due("where() of a sound one", x.where(), StolenFinals.NONE);
    }

    // ---- 6: about

    static void promise6AboutTheScript() {
        StolenFinals x = Edge.scripted();
        int[] want = {4, 2, 1, 4, 3, 6};
        for (int what = 0; what < want.length; what++) {
            Edge.answers("about(" + what + ")", x, x.about(what), want[what]);
        }
    }

    static void promise6AboutTheSmallestScript() {
        StolenFinals x = Edge.scripted("lead k;vowel a");
        int[] want = {1, 1, 0, 1, 1, 1, 0, 0, 0, 0, 0, 0, 0};
        for (int what = 0; what < want.length; what++) {
            Edge.answers("about(" + what + ")", x, x.about(what), want[what]);
        }
    }

    static void promise6AboutTheRow() {
        StolenFinals x = Edge.typed("|kanan|ta|zgo|", 5);
        int[] want = {14, 6, 3, 1, 4, 5, 2};
        for (int what = 6; what < 13; what++) {
            Edge.answers("about(" + what + ")", x, x.about(what), want[what - 6]);
        }
    }

    static void promise6AboutBlocksAlone() {
        String[] rows = {"", "|", "z", "k|a|z", "ka", "kaga", "kazga|n", "gana"};
        int[] want = {0, 0, 0, 0, 1, 2, 2, 2};
        for (int i = 0; i < rows.length; i++) {
            StolenFinals x = Edge.typed(rows[i]);
            Edge.answers("blocks of " + rows[i], x, x.about(8), want[i]);
        }
    }

    static void promise6AboutAFullRow() {
        StolenFinals x = Edge.typed("kakak".repeat(16));
        Edge.due("keys and breaks", x.about(6), 80);
        Edge.due("the caret", x.about(11), 80);
        StolenFinals y = Edge.typed("|".repeat(80), 0);
        Edge.due("breaks", y.about(10), 80);
        Edge.due("items", y.about(7), 0);
        Edge.due("the caret at 0", y.about(11), 0);
    }

    static void promise6AboutSomethingElseIsRefusedBy1() {
        for (int what : new int[] {-1, 13, -2, 14, Edge.LOW, Edge.HIGH}) {
            StolenFinals x = Edge.typed("kan", 1);
            Edge.refuses("about(" + what + ")", x, 1, () -> x.about(what));
        }
    }

    static void promise6AboutActsUpTo30() {
        StolenFinals x = Edge.scripted();
        for (int act = 1; act <= 33; act++) {
            x.brk();
            Edge.due("acts behind " + act, x.about(12), Math.min(act, 30));
        }
    }

    // ---- 7: letter

    static void promise7LetterOfEachSort() {
        StolenFinals x = Edge.scripted();
        String keys = "gkntaoz";
        int[] sorts = {0, 1, 1, 2, 3, 3, 4};
        for (int k = 0; k < keys.length(); k++) {
            Edge.answers("letter " + keys.charAt(k), x, x.letter(keys.charAt(k), 0), sorts[k]);
        }
    }

    static void promise7LetterHasNoSuchNumber() {
        StolenFinals x = Edge.scripted();
        Edge.answers("g as an end", x, x.letter('g', 2), -2);
        Edge.answers("g as a middle", x, x.letter('g', 3), -2);
        Edge.answers("g has no twin", x, x.letter('g', 4), -2);
        Edge.answers("t as a lead", x, x.letter('t', 1), -2);
        Edge.answers("t has no twin", x, x.letter('t', 4), -2);
        Edge.answers("a as a lead", x, x.letter('a', 1), -2);
        Edge.answers("a as an end", x, x.letter('a', 2), -2);
        Edge.answers("a has no twin", x, x.letter('a', 4), -2);
        for (int what = 1; what < 5; what++) {
            Edge.answers("z, " + what, x, x.letter('z', what), -2);
        }
    }

    static void promise7LetterNumbers() {
        StolenFinals x = Edge.scripted();
        Edge.answers("g as a lead: 0", x, x.letter('g', 1), 0);
        Edge.answers("k as an end: from 1 on", x, x.letter('k', 2), 1);
        Edge.answers("t as an end", x, x.letter('t', 2), 3);
        Edge.answers("a as a middle: 0", x, x.letter('a', 3), 0);
        Edge.answers("k's twin behind all leads", x, x.letter('k', 4), 3);
    }

    static void promise7LetterNumbersOfTwinsAsToldBehindAllLeads() {
        StolenFinals x = Edge.scripted("lead b;lead c;twin c;lead a;twin a;twin b;vowel o");
        Edge.due("a as a lead", x.letter('a', 1), 2);
        Edge.due("cc", x.letter('c', 4), 3);
        Edge.due("aa", x.letter('a', 4), 4);
        Edge.due("bb", x.letter('b', 4), 5);
    }

    static void promise7LetterNumbersOfFinalsAsTold() {
        StolenFinals x = Edge.scripted("final y;lead b;both c;pair y c;final a;vowel o");
        Edge.due("y", x.letter('y', 2), 1);
        Edge.due("c", x.letter('c', 2), 2);
        Edge.due("a", x.letter('a', 2), 3);
        Edge.due("b as a lead", x.letter('b', 1), 0);
        Edge.due("c as a lead", x.letter('c', 1), 1);
        Edge.due("yc behind them", x.code(0, 0, 4), 4);
    }

    static void promise7LetterFrom97To122() {
        StolenFinals x = Edge.scripted("lead a;vowel z");
        Edge.answers("letter(97, 0)", x, x.letter(97, 0), 0);
        Edge.answers("letter(122, 0)", x, x.letter(122, 0), 3);
        for (int key : new int[] {96, 123, 98, 121, 124, 0, -1, 97 + 256, 97 - 256, 65, Edge.LOW, Edge.HIGH}) {
            StolenFinals y = Edge.scripted("lead a;vowel z");
            Edge.refuses("letter(" + key + ", 0)", y, 1, () -> y.letter(key, 0));
        }
    }

    static void promise7LetterOfSomethingElseIsRefusedBy1() {
        StolenFinals x = Edge.scripted();
        for (int what : new int[] {-1, 5, Edge.LOW, Edge.HIGH}) {
            Edge.refuses("letter(k, " + what + ")", x, 1, () -> x.letter('k', what));
        }
    }

    static void promise7LetterWithoutAScriptIsRefusedBy1() {
        StolenFinals x = new StolenFinals();
        for (int key = 97; key <= 122; key++) {
            int asked = key;
            Edge.refuses("letter(" + key + ", 0)", x, 1, () -> x.letter(asked, 0));
        }
    }

    // ---- 8: code

    static void promise8CodeOfTheLeastAndTheGreatest() {
        StolenFinals x = Edge.scripted();
        Edge.answers("code(0, 0, 0)", x, x.code(0, 0, 0), 0);
        Edge.answers("code(0, 0, 5)", x, x.code(0, 0, 5), 5);
        Edge.answers("code(0, 1, 0)", x, x.code(0, 1, 0), 6);
        Edge.answers("code(1, 0, 0)", x, x.code(1, 0, 0), 18);
        Edge.answers("code(3, 2, 5)", x, x.code(3, 2, 5), 71);
    }

    static void promise8CodeOfTheSmallestScript() {
        StolenFinals x = Edge.scripted("lead k;vowel a");
        Edge.answers("code(0, 0, 0)", x, x.code(0, 0, 0), 0);
        Edge.refuses("code(0, 0, 1)", x, 1, () -> x.code(0, 0, 1));
    }

    static void promise8CodeOfNumbersOutsideIsRefusedBy1() {
        int[] most = {3, 2, 5};
        for (int part = 0; part < 3; part++) {
            StolenFinals x = Edge.scripted();
            for (int odd : new int[] {-1, most[part] + 1, Edge.LOW, Edge.HIGH}) {
                int[] a = new int[3];
                a[part] = odd;
                Edge.refuses("code of part " + part + ", " + odd, x, 1, () -> x.code(a[0], a[1], a[2]));
            }
        }
    }

    static void promise8CodeWithoutAScriptIsRefusedBy1() {
        StolenFinals x = new StolenFinals();
        Edge.refuses("code(0, 0, 0)", x, 1, () -> x.code(0, 0, 0));
    }

    // ---- 9: parts

    static void promise9PartsOfEveryCode() {
        StolenFinals x = Edge.scripted();
        for (int code = 0; code < 72; code++) {
            Edge.due("the parts of " + code, x.code(x.parts(code, 0), x.parts(code, 1), x.parts(code, 2)), code);
        }
        Edge.answers("the lead of 71", x, x.parts(71, 0), 3);
        Edge.answers("the middle of 71", x, x.parts(71, 1), 2);
        Edge.answers("the end of 71", x, x.parts(71, 2), 5);
    }

    static void promise9PartsOfTheSmallestScript() {
        StolenFinals x = Edge.scripted("lead k;vowel a");
        for (int what = 0; what < 3; what++) {
            Edge.answers("parts(0, " + what + ")", x, x.parts(0, what), 0);
        }
        Edge.refuses("parts(1, 0)", x, 1, () -> x.parts(1, 0));
        StolenFinals y = Edge.scripted("lead k;lead g;vowel a;vowel o");
        Edge.answers("the lead of 2", y, y.parts(2, 0), 1);
        Edge.answers("the middle of 3", y, y.parts(3, 1), 1);
        Edge.refuses("parts(4, 0)", y, 1, () -> y.parts(4, 0));
    }

    static void promise9PartsOfNoSuchCodeIsRefusedBy1() {
        StolenFinals x = Edge.scripted();
        for (int code : new int[] {-1, 72, 73, Edge.LOW, Edge.HIGH}) {
            Edge.refuses("parts(" + code + ", 0)", x, 1, () -> x.parts(code, 0));
        }
    }

    static void promise9PartsOfSomethingElseIsRefusedBy1() {
        StolenFinals x = Edge.scripted();
        for (int what : new int[] {-1, 3, Edge.LOW, Edge.HIGH}) {
            Edge.refuses("parts(0, " + what + ")", x, 1, () -> x.parts(0, what));
        }
    }

    static void promise9PartsWithoutAScriptIsRefusedBy1() {
        StolenFinals x = new StolenFinals();
        Edge.refuses("parts(0, 0)", x, 1, () -> x.parts(0, 0));
    }

    // ---- 10: spelt

    private static void spells(int code, String keys) {
        StolenFinals x = Edge.scripted();
        for (int k = 0; k < keys.length(); k++) {
            Edge.answers("spelt(" + code + ", " + k + ")", x, x.spelt(code, k), keys.charAt(k));
        }
        Edge.answers("spelt(" + code + ") beyond", x, x.spelt(code, keys.length()), -2);
    }

    static void promise10SpeltOfTwoKeysAtLeast() {
        spells(0, "ga");
    }

    static void promise10SpeltOfSixKeysAtMost() {
        spells(71, "kkaokk");
    }

    static void promise10SpeltOfATwinTwice() {
        spells(54, "kka");
    }

    static void promise10SpeltOfPairsBoth() {
        spells(12, "gao");
        spells(4, "gant");
        spells(16, "gaont");
    }

    static void promise10SpeltOfASingleEnd() {
        spells(3, "gat");
    }

    static void promise10SpeltOfEveryCodeOfTheWidestScript() {
        String[] leads = "a b c d f g h i j aa cc bb dd".split(" ");
        String[] middles = "k l m n o p q r kl ll qr".split(" ");
        String[] ends = {"", "c", "d", "e", "j", "cd", "dd", "ec", "ee", "de"};
        int code = 0;
        for (String lead : leads) {
            for (String middle : middles) {
                StolenFinals x = Edge.scripted(Edge.WIDEST);
                for (String end : ends) {
                    StringBuilder got = new StringBuilder();
                    for (int k = 0; k < 7 && x.spelt(code, k) != -2; k++) {
                        got.append((char) x.spelt(code, k));
                    }
                    Edge.due("code " + code, got.toString(), lead + middle + end);
                    code++;
                }
            }
        }
    }

    static void promise10SpeltOfTheSmallestScript() {
        StolenFinals x = Edge.scripted("lead k;vowel a");
        Edge.answers("spelt(0, 0)", x, x.spelt(0, 0), 'k');
        Edge.answers("spelt(0, 1)", x, x.spelt(0, 1), 'a');
        Edge.answers("spelt(0, 2)", x, x.spelt(0, 2), -2);
    }

    static void promise10SpeltFarBeyondIsMinus2() {
        StolenFinals x = Edge.scripted();
        Edge.answers("spelt(0, 6)", x, x.spelt(0, 6), -2);
        Edge.answers("spelt(71, 7)", x, x.spelt(71, 7), -2);
        Edge.answers("spelt(0, HIGH)", x, x.spelt(0, Edge.HIGH), -2);
    }

    static void promise10SpeltBelow0IsRefusedBy1() {
        StolenFinals x = Edge.scripted();
        Edge.refuses("spelt(0, -1)", x, 1, () -> x.spelt(0, -1));
        Edge.refuses("spelt(0, LOW)", x, 1, () -> x.spelt(0, Edge.LOW));
    }

    static void promise10SpeltOfNoSuchCodeIsRefusedBy1() {
        StolenFinals x = Edge.scripted();
        for (int code : new int[] {-1, 72, Edge.LOW, Edge.HIGH}) {
            Edge.refuses("spelt(" + code + ", 0)", x, 1, () -> x.spelt(code, 0));
        }
    }

    static void promise10SpeltWithoutAScriptIsRefusedBy1() {
        StolenFinals x = new StolenFinals();
        Edge.refuses("spelt(0, 0)", x, 1, () -> x.spelt(0, 0));
    }
}
