/** Promises 11 to 19, THE MACHINE, BARE and the ACTS: a test of its own for each sentence that names an edge. */
public final class ActEdgeTest {
    private ActEdgeTest() {
    }

    public static void main(String[] args) throws Exception {
        Edge.runAll(ActEdgeTest.class, 11, 19);
    }

    /** An ACT on a row answers so, and leaves this row and this caret. */
    private static void leaves(StolenFinals x, long got, long want, String row, int caret) {
        Edge.answers("the act", x, got, want);
        Edge.due("the row", Face.row(x), row);
        Edge.due("the caret", x.about(11), caret);
    }

    private static String ga(int blocks) {
        return "ga".repeat(blocks);
    }

    // ---- 11: key

    static void promise11KeyInAnEmptyRow() {
        StolenFinals x = Edge.scripted();
        leaves(x, x.key('k'), 1, "k", 1);
    }

    static void promise11KeyAtPlace0() {
        StolenFinals x = Edge.typed("ka", 0);
        leaves(x, x.key('z'), 2, "zka", 1);
    }

    static void promise11KeyAtTheEnd() {
        StolenFinals x = Edge.typed("ka");
        leaves(x, x.key('z'), 2, "kaz", 3);
    }

    static void promise11KeyWithinABlock() {
        StolenFinals x = Edge.typed("kan", 2);
        leaves(x, x.key('z'), 3, "kazn", 3);
    }

    static void promise11KeyOfEachSort() {
        for (String key : new String[] {"g", "k", "t", "a", "z"}) {
            StolenFinals x = Edge.scripted();
            leaves(x, x.key(key.charAt(0)), 1, key, 1);
        }
    }

    static void promise11KeyThatIsntToldIsRefusedBy1() {
        for (int key : new int[] {'b', 'y', 96, 123, 124, 32, 59, 0, -1, 97 + 256, 97 - 256, Edge.LOW, Edge.HIGH}) {
            StolenFinals x = Edge.typed("kan", 1);
            Edge.refuses("key(" + key + ")", x, 1, () -> x.key(key));
        }
    }

    static void promise11KeyWithoutAScriptIsRefusedBy1() {
        StolenFinals x = new StolenFinals();
        Edge.refuses("key(a)", x, 1, () -> x.key('a'));
        Face.script(x, "lead k");
        Edge.due("key(k) behind a fault", x.key('k'), StolenFinals.NONE);
        Edge.due("trouble()", x.trouble(), 1);
    }

    static void promise11KeyIsThe80th() {
        StolenFinals x = Edge.typed(ga(39) + "g");
        leaves(x, x.key('a'), 40, ga(40), 80);
    }

    static void promise11KeyInAFullRowIsRefusedBy3() {
        for (int caret : new int[] {80, 0, 41}) {
            StolenFinals x = Edge.typed(ga(40), caret);
            Edge.refuses("at " + caret, x, 3, () -> x.key('k'));
        }
    }

    static void promise11KeyOf1IsToldAhead() {
        StolenFinals x = Edge.typed(ga(40));
        Edge.refuses("no key in a full row", x, 1, () -> x.key('b'));
    }

    // ---- 11: THE MACHINE

    static void promise11NothingIsOpenAtFirst() {
        Edge.makes("", "", 0);
        Edge.makes("a", "2a", 0);
        Edge.makes("k", "1k", 0);
        Edge.makes("t", "3t", 0);
        Edge.makes("z", "3z", 0);
    }

    static void promise11ABreakCloses() {
        Edge.makes("k|a", "1k 2a", 0);
        Edge.makes("k|k", "1k 1k", 0);
        Edge.makes("ka|n", "0ka 1n", 0);
        Edge.makes("ka|t", "0ka 3t", 0);
        Edge.makes("ka|o", "0ka 2o", 0);
        Edge.makes("kan|t", "0kan 3t", 0);
        Edge.makes("kan|a", "0kan 2a", 0);
        Edge.makes("a|o", "2a 2o", 0);
    }

    static void promise11ManyBreaksAreLikeOne() {
        Edge.makes("||k|||a||", "1k 2a", 0);
        Edge.makes("|||", "", 0);
    }

    static void promise11AnOldOneClosesAndIsAloneAndClosed() {
        Edge.makes("kza", "1k 3z 2a", 0);
        Edge.makes("kazn", "0ka 3z 1n", 0);
        Edge.makes("zz", "3z 3z", 0);
        Edge.makes("za", "3z 2a", 0);
        Edge.makes("zka", "3z 0ka", 0);
    }

    static void promise11ATwinOfALeadAlone() {
        Edge.makes("kk", "1kk", 0);
        Edge.makes("kka", "0kka", 0);
        StolenFinals x = Edge.typed("kk");
        Edge.due("its lead", x.item(0, 1), 3);
    }

    static void promise11ATwinTakesNoThird() {
        Edge.makes("kkk", "1kk 1k", 0);
        Edge.makes("kkkka", "1kk 0kka", 0);
    }

    static void promise11NoTwinWithoutOneTold() {
        Edge.makes("gg", "1g 1g", 0);
        Edge.makes("nn", "1n 1n", 0);
        Edge.makes("gk", "1g 1k", 0);
        Edge.makes("kn", "1k 1n", 0);
    }

    static void promise11AFinalIsTheEndOfALeadAndAMiddle() {
        Edge.makes("gan", "0gan", 0);
        Edge.makes("gat", "0gat", 0);
        Edge.makes("gaot", "0gaot", 0);
        Edge.makes("kkaot", "0kkaot", 0);
    }

    static void promise11WhatCantBeAFinalIsNoEnd() {
        Edge.makes("gag", "0ga 1g", 0);
        Edge.makes("gaga", "0ga 0ga", 0);
    }

    static void promise11AMiddleAloneTakesNoEnd() {
        Edge.makes("an", "2a 1n", 0);
        Edge.makes("at", "2a 3t", 0);
        Edge.makes("aon", "2ao 1n", 0);
        Edge.makes("ana", "2a 0na", 0);
    }

    static void promise11APairOfFinalsIsAnEnd() {
        Edge.makes("gant", "0gant", 0);
        Edge.makes("gakk", "0gakk", 0);
        StolenFinals x = Edge.typed("gant");
        Edge.due("its end", x.item(0, 3), 4);
    }

    static void promise11NoPairOfFinalsInTheOtherOrder() {
        Edge.makes("gatn", "0gat 1n", 0);
        Edge.makes("gakn", "0gak 1n", 0);
        Edge.makes("gatt", "0gat 3t", 0);
    }

    static void promise11APairTakesNoThird() {
        Edge.makes("gakkk", "0gakk 1k", 0);
        Edge.makes("gantt", "0gant 3t", 0);
        Edge.makes("gaoa", "0gao 2a", 0);
        Edge.makes("aoo", "2ao 2o", 0);
    }

    static void promise11WhatCantLeadIsAloneAndClosed() {
        Edge.makes("ta", "3t 2a", 0);
        Edge.makes("tt", "3t 3t", 0);
        Edge.makes("gt", "1g 3t", 0);
        Edge.makes("gta", "1g 3t 2a", 0);
        Edge.makes("tn", "3t 1n", 0);
    }

    static void promise11AVowelBehindALeadAloneIsItsMiddle() {
        Edge.makes("ga", "0ga", 0);
        Edge.makes("kka", "0kka", 0);
    }

    static void promise11APairOfVowelsWithALeadOrWithout() {
        Edge.makes("gao", "0gao", 0);
        Edge.makes("ao", "2ao", 0);
        StolenFinals x = Edge.typed("ao|gao");
        Edge.due("without a lead", x.item(0, 2), 2);
        Edge.due("with a lead", x.item(1, 2), 2);
    }

    static void promise11NoPairOfVowelsInTheOtherOrder() {
        Edge.makes("goa", "0go 2a", 0);
        Edge.makes("oa", "2o 2a", 0);
        Edge.makes("aa", "2a 2a", 0);
        Edge.makes("goao", "0go 2ao", 0);
    }

    static void promise11NoPairOfVowelsBehindAnEnd() {
        Edge.makes("gato", "0gat 2o", 0);
        Edge.makes("gano", "0ga 0no", 1);
    }

    static void promise11TheEndIsStolen() {
        Edge.makes("gana", "0ga 0na", 1);
        Edge.makes("gaka", "0ga 0ka", 1);
        StolenFinals x = Edge.typed("gana");
        Edge.due("no end is left", x.item(0, 3), 0);
    }

    static void promise11TheFirstOfAPairIsLeft() {
        Edge.makes("gakka", "0gak 0ka", 1);
        StolenFinals x = Edge.typed("gakka");
        Edge.due("its end is k alone", x.item(0, 3), 1);
        Edge.due("the thief leads with k alone", x.item(1, 1), 1);
    }

    static void promise11WhatCantLeadIsNotStolen() {
        Edge.makes("gata", "0gat 2a", 0);
        Edge.makes("ganta", "0gant 2a", 0);
    }

    static void promise11AFirstOfAPairThatCantLeadIsLeft() {
        StolenFinals x = Edge.scripted("lead g;both k;final t;vowel a;pair t k");
        Face.type(x, "gatka");
        Edge.due("the items", Edge.items(x), "0gat 0ka");
        Edge.due("its end is t alone", x.item(0, 3), 2);
        Edge.due("stolen", x.about(9), 1);
    }

    static void promise11TheLatestOfAPairThatCantLeadIsNotStolen() {
        StolenFinals x = Edge.scripted("lead g;both k;final t;vowel a;pair k t");
        Face.type(x, "gakta");
        Edge.due("the items", Edge.items(x), "0gakt 2a");
        Edge.due("stolen", x.about(9), 0);
    }

    static void promise11TheThiefGoesOnLikeOthers() {
        Edge.makes("ganao", "0ga 0nao", 1);
        Edge.makes("ganant", "0ga 0nant", 1);
        Edge.makes("ganana", "0ga 0na 0na", 2);
        Edge.makes("gakkaka", "0gak 0ka 0ka", 2);
    }

    static void promise11AStolenLeadIsNoTwin() {
        // the second k comes behind an END, so it is the pair kk, of which one is stolen
        Edge.makes("gakka", "0gak 0ka", 1);
        StolenFinals x = Edge.scripted("both k;vowel a;twin k");
        Face.type(x, "kakka");
        Edge.due("without the pair", Edge.items(x), "0kak 0ka");
        Edge.due("nothing is stolen", x.about(9), 0);
    }

    static void promise11ItemsUpTo80() {
        StolenFinals x = Edge.typed("g".repeat(80));
        Edge.due("items", x.about(7), 80);
        StolenFinals y = Edge.typed("kan" + "an".repeat(38) + "a");
        Edge.due("80 keys", y.about(6), 80);
        Edge.due("stolen", y.about(9), 39);
        Edge.due("items of stolen ones", y.about(7), 40);
    }

    // ---- 12: brk

    static void promise12BrkInAnEmptyRow() {
        StolenFinals x = Edge.scripted();
        leaves(x, x.brk(), 0, "|", 1);
    }

    static void promise12BrkAtPlace0AtTheEndAndWithin() {
        StolenFinals x = Edge.typed("kan", 0);
        leaves(x, x.brk(), 1, "|kan", 1);
        x.goes(4);
        leaves(x, x.brk(), 1, "|kan|", 5);
        x.goes(3);
        leaves(x, x.brk(), 2, "|ka|n|", 4);
    }

    static void promise12BrkBesideABreak() {
        StolenFinals x = Edge.typed("ka|na", 3);
        leaves(x, x.brk(), 2, "ka||na", 4);
    }

    static void promise12BrkWithoutAScriptIsRefusedBy1() {
        StolenFinals x = new StolenFinals();
        Edge.refuses("brk()", x, 1, x::brk);
    }

    static void promise12BrkIsThe80th() {
        StolenFinals x = Edge.typed(ga(39) + "g");
        leaves(x, x.brk(), 40, ga(39) + "g|", 80);
    }

    static void promise12BrkInAFullRowIsRefusedBy3() {
        StolenFinals x = Edge.typed(ga(40), 3);
        Edge.refuses("brk()", x, 3, x::brk);
    }

    // ---- 13: type

    static void promise13TypeKeysAndBreaks() {
        StolenFinals x = Edge.scripted();
        leaves(x, Face.type(x, "ka|kan|z"), 3, "ka|kan|z", 8);
        Edge.due("one act", x.about(12), 1);
    }

    static void promise13TypeAtTheCaret() {
        StolenFinals x = Edge.typed("kan", 2);
        leaves(x, Face.type(x, "o|"), 2, "kao|n", 4);
        x.goes(0);
        leaves(x, Face.type(x, "zz"), 4, "zzkao|n", 2);
    }

    static void promise13TypeTakesTheFirstNBytesAlone() {
        StolenFinals x = Edge.scripted();
        Face.feed(x, "kan{{{");
        leaves(x, x.type(3), 1, "kan", 3);
        Edge.due("the tape is empty", x.size(), 0);
    }

    static void promise13TypeOf0BringsNone() {
        StolenFinals x = Edge.typed("kan", 1);
        Face.feed(x, "kan");
        leaves(x, x.type(0), 1, "kan", 1);
        Edge.due("the tape is empty", x.size(), 0);
        Edge.due("it is an act", x.about(12), 3);
    }

    static void promise13TypeWithoutAScriptIsRefusedBy1() {
        StolenFinals x = new StolenFinals();
        Face.feed(x, "kan");
        Edge.refuses("type(3)", x, 1, () -> x.type(3));
        Edge.refuses("type(0)", x, 1, () -> x.type(0));
    }

    static void promise13TypeBelow0IsRefusedBy2() {
        StolenFinals x = Edge.typed("kan", 1);
        Face.feed(x, "kan");
        Edge.refuses("type(-1)", x, 2, () -> x.type(-1));
        Edge.refuses("type(LOW)", x, 2, () -> x.type(Edge.LOW));
    }

    static void promise13TypeOfMoreThanThereIsIsRefusedBy2() {
        StolenFinals x = Edge.typed("kan", 1);
        Edge.refuses("type(1) of none", x, 2, () -> x.type(1));
        Face.feed(x, "kan");
        Edge.refuses("type(21) of 20", x, 2, () -> x.type(21));
        Edge.refuses("type(HIGH)", x, 2, () -> x.type(Edge.HIGH));
    }

    static void promise13TypeOfAnotherByteIsRefusedBy5() {
        for (int b : new int[] {0, 32, 59, 'b', 'y', 'K', 96, 123, 125, 128, 252, 255}) {
            for (String text : new String[] {"" + (char) b, (char) b + "ka", "k" + (char) b + "a", "ka" + (char) b}) {
                StolenFinals x = Edge.typed("kan", 1);
                int n = Face.feed(x, text);
                Edge.refusesAndEmpties("type with " + b, x, 5, () -> x.type(n));
            }
        }
    }

    static void promise13TypeUpTo80() {
        StolenFinals x = Edge.scripted();
        leaves(x, Face.type(x, ga(40)), 40, ga(40), 80);
        StolenFinals y = Edge.typed("kan", 1);
        leaves(y, Face.type(y, "|".repeat(77)), 3, "k" + "|".repeat(77) + "an", 78);
    }

    static void promise13TypeBeyond80IsRefusedBy3() {
        StolenFinals x = Edge.scripted();
        Face.feed(x, ga(40) + "g");
        Edge.refusesAndEmpties("type(81)", x, 3, () -> x.type(81));
        StolenFinals y = Edge.typed("kan", 1);
        Face.feed(y, ga(150));
        Edge.refusesAndEmpties("type(78) behind 3", y, 3, () -> y.type(78));
        Face.feed(y, ga(150));
        Edge.refusesAndEmpties("type(300)", y, 3, () -> y.type(300));
    }

    static void promise13TypeOf0InAFullRow() {
        StolenFinals x = Edge.typed(ga(40));
        leaves(x, x.type(0), 40, ga(40), 80);
    }

    static void promise13TypeTellsTheFirstTrouble() {
        StolenFinals x = new StolenFinals();
        Edge.refuses("1 ahead of 2", x, 1, () -> x.type(-1));
        StolenFinals y = Edge.typed(ga(40));
        Face.feed(y, "bad");
        Edge.refuses("2 ahead of 5 and 3", y, 2, () -> y.type(21));
        StolenFinals z = Edge.typed(ga(40));
        Face.feed(z, "bad");
        Edge.refusesAndEmpties("5 ahead of 3", z, 5, () -> z.type(3));
    }

    // ---- 14: back

    static void promise14BackOfAKeyAndOfABreak() {
        StolenFinals x = Edge.typed("kan|a");
        leaves(x, x.back(), 1, "kan|", 4);
        leaves(x, x.back(), 1, "kan", 3);
        leaves(x, x.back(), 1, "ka", 2);
    }

    static void promise14BackWithin() {
        StolenFinals x = Edge.typed("kan|a", 4);
        leaves(x, x.back(), 2, "kana", 3);
        Edge.due("n is stolen now", x.about(9), 1);
    }

    static void promise14BackOfTheOnlyOne() {
        StolenFinals x = Edge.typed("k");
        leaves(x, x.back(), 0, "", 0);
    }

    static void promise14BackAtPlace0IsRefusedBy5() {
        StolenFinals x = Edge.typed("kan", 0);
        Edge.refuses("back()", x, 5, x::back);
    }

    static void promise14BackInAnEmptyRowIsRefusedBy5() {
        StolenFinals x = Edge.scripted();
        Edge.refuses("back()", x, 5, x::back);
    }

    static void promise14BackWithoutAScriptIsRefusedBy1() {
        StolenFinals x = new StolenFinals();
        Edge.refuses("back()", x, 1, x::back);
    }

    static void promise14BackInAFullRow() {
        StolenFinals x = Edge.typed(ga(40));
        leaves(x, x.back(), 40, ga(39) + "g", 79);
        StolenFinals y = Edge.typed(ga(40), 1);
        leaves(y, y.back(), 40, "a" + ga(39), 0);
    }

    // ---- 15: del

    static void promise15DelOfAKeyAndOfABreak() {
        StolenFinals x = Edge.typed("kan|a", 2);
        leaves(x, x.del(), 2, "ka|a", 2);
        leaves(x, x.del(), 2, "kaa", 2);
        leaves(x, x.del(), 1, "ka", 2);
    }

    static void promise15DelAtPlace0() {
        StolenFinals x = Edge.typed("kan", 0);
        leaves(x, x.del(), 2, "an", 0);
    }

    static void promise15DelOfTheOnlyOne() {
        StolenFinals x = Edge.typed("k", 0);
        leaves(x, x.del(), 0, "", 0);
    }

    static void promise15DelAtTheEndIsRefusedBy5() {
        StolenFinals x = Edge.typed("kan");
        Edge.refuses("del()", x, 5, x::del);
        StolenFinals y = Edge.typed(ga(40));
        Edge.refuses("del() in a full row", y, 5, y::del);
    }

    static void promise15DelInAnEmptyRowIsRefusedBy5() {
        StolenFinals x = Edge.scripted();
        Edge.refuses("del()", x, 5, x::del);
    }

    static void promise15DelWithoutAScriptIsRefusedBy1() {
        StolenFinals x = new StolenFinals();
        Edge.refuses("del()", x, 1, x::del);
    }

    static void promise15DelInAFullRow() {
        StolenFinals x = Edge.typed(ga(40), 79);
        leaves(x, x.del(), 40, ga(39) + "g", 79);
        StolenFinals y = Edge.typed(ga(40), 0);
        leaves(y, y.del(), 40, "a" + ga(39), 0);
    }

    // ---- 16: goes

    static void promise16GoesFrom0UpToHowManyThereAre() {
        StolenFinals x = Edge.typed("kan");
        leaves(x, x.goes(0), 3, "kan", 0);
        leaves(x, x.goes(3), 0, "kan", 3);
        leaves(x, x.goes(1), 3, "kan", 1);
    }

    static void promise16GoesWhereItIsIsAnAct() {
        StolenFinals x = Edge.typed("kan");
        leaves(x, x.goes(3), 3, "kan", 3);
        Edge.due("acts", x.about(12), 2);
    }

    static void promise16GoesInAnEmptyRow() {
        StolenFinals x = Edge.scripted();
        leaves(x, x.goes(0), 0, "", 0);
        Edge.refuses("goes(1)", x, 2, () -> x.goes(1));
    }

    static void promise16GoesInAFullRow() {
        StolenFinals x = Edge.typed(ga(40), 0);
        leaves(x, x.goes(80), 0, ga(40), 80);
        Edge.refuses("goes(81)", x, 2, () -> x.goes(81));
    }

    static void promise16GoesOutsideIsRefusedBy2() {
        StolenFinals x = Edge.typed("kan", 1);
        for (int place : new int[] {-1, 4, Edge.LOW, Edge.HIGH}) {
            Edge.refuses("goes(" + place + ")", x, 2, () -> x.goes(place));
        }
    }

    static void promise16GoesWithoutAScriptIsRefusedBy1() {
        StolenFinals x = new StolenFinals();
        Edge.refuses("goes(0)", x, 1, () -> x.goes(0));
        Edge.refuses("goes(-1): 1 ahead of 2", x, 1, () -> x.goes(-1));
    }

    // ---- 17: tidy

    private static void tidies(String row, int caret, String tidied, int newCaret) {
        StolenFinals x = Edge.typed(row, caret);
        String items = Edge.items(x);
        leaves(x, x.tidy(), row.length() - tidied.length(), tidied, newCaret);
        Edge.due("the items", Edge.items(x), items);
    }

    static void promise17TidyOfAnEmptyRow() {
        tidies("", 0, "", 0);
    }

    static void promise17TidyOfBreaksAlone() {
        tidies("|", 0, "", 0);
        tidies("|||", 3, "", 0);
        tidies("|".repeat(80), 40, "", 0);
    }

    static void promise17TidyTakesBreaksAtBothEnds() {
        tidies("||ka||", 3, "ka", 1);
    }

    static void promise17TidyKeepsOneOfSeveralBreaks() {
        tidies("k|||a", 5, "k|a", 3);
    }

    static void promise17TidyWithoutABreakChangesNothing() {
        tidies("kanant", 3, "kanant", 3);
    }

    static void promise17TidyThatChangesNothingIsAnAct() {
        StolenFinals x = Edge.typed("k|a", 1);
        leaves(x, x.tidy(), 0, "k|a", 1);
        Edge.due("acts", x.about(12), 3);
        Edge.due("undo()", x.undo(), 2);
    }

    static void promise17TidyLeavesTheCaretBehindAsManyKeys() {
        tidies("ka|ga|ka", 0, "kagaka", 0);
        tidies("ka|ga|ka", 4, "kagaka", 3);
        tidies("ka|ga|ka", 8, "kagaka", 6);
    }

    static void promise17TidyLeavesTheCaretAheadOfABreakThatStandsThere() {
        tidies("k|a", 1, "k|a", 1);
        tidies("k|a", 2, "k|a", 1);
        tidies("k||a", 3, "k|a", 1);
        tidies("k|a", 3, "k|a", 3);
        tidies("|k|a", 1, "k|a", 0);
    }

    static void promise17TidyKeepsABreakAheadOfATwin() {
        tidies("k|k", 3, "k|k", 3);
        tidies("kk|k", 4, "kkk", 3);
        tidies("k|kk", 4, "k|kk", 4);
    }

    static void promise17TidyKeepsABreakAheadOfAMiddleThatWouldJoin() {
        tidies("k|a", 3, "k|a", 3);
        tidies("a|o", 3, "a|o", 3);
        tidies("ka|o", 4, "ka|o", 4);
        tidies("o|a", 3, "oa", 2);
    }

    static void promise17TidyKeepsABreakThatGuardsAnEnd() {
        tidies("kan|a", 5, "kan|a", 5);
        tidies("kat|a", 5, "kata", 4);
        tidies("ka|n", 4, "ka|n", 4);
        tidies("ka|t", 4, "ka|t", 4);
        tidies("kan|t", 5, "kan|t", 5);
    }

    static void promise17TidyTakesABreakWhereTheftMakesTheSame() {
        tidies("ka|na", 5, "kana", 4);
        tidies("kak|ka", 6, "kakka", 5);
        tidies("kan|na", 6, "kanna", 5);
    }

    static void promise17TidyKeepsABreakAheadOfALeadingTwin() {
        tidies("ka|kka", 6, "ka|kka", 6);
        tidies("kak|kka", 7, "kak|kka", 7);
        tidies("kakk|kka", 8, "kakkkka", 7);
    }

    static void promise17TidyGoesItemByItem() {
        // the break ahead of n must stand, so that the one behind it must, too
        tidies("ka|n|a", 6, "ka|n|a", 6);
        tidies("ka|na|n", 7, "kana|n", 6);
        tidies("k|k|k", 5, "k|k|k", 5);
    }

    static void promise17TidyOfAFullRow() {
        tidies("k|".repeat(40), 80, "k|".repeat(39) + "k", 79);
        tidies("g|".repeat(40), 79, "g".repeat(40), 40);
    }

    static void promise17TidyWithoutAScriptIsRefusedBy1() {
        StolenFinals x = new StolenFinals();
        Edge.refuses("tidy()", x, 1, x::tidy);
    }

    // ---- 18: codes

    static void promise18CodesInAnEmptyRowBringNoBreakAround() {
        StolenFinals x = Edge.scripted();
        leaves(x, Face.codes(x, 0), 1, "ga", 2);
    }

    static void promise18CodesAtPlace0BringABreakBehind() {
        StolenFinals x = Edge.typed("ka", 0);
        leaves(x, Face.codes(x, 0), 2, "ga|ka", 3);
    }

    static void promise18CodesAtTheEndBringABreakAhead() {
        StolenFinals x = Edge.typed("ka");
        leaves(x, Face.codes(x, 0), 2, "ka|ga", 5);
    }

    static void promise18CodesWithinBringBoth() {
        StolenFinals x = Edge.typed("kan", 2);
        leaves(x, Face.codes(x, 0), 3, "ka|ga|n", 6);
    }

    static void promise18CodesBringBreaksBesideBreaks() {
        StolenFinals x = Edge.typed("ka||na", 3);
        leaves(x, Face.codes(x, 0), 3, "ka||ga||na", 7);
    }

    static void promise18CodesAreBareBetweenTheBreaks() {
        StolenFinals x = Edge.scripted();
        // ka, kka, na, ga: the twin needs a BREAK, else the first k of it were an END
        leaves(x, Face.codes(x, 18, 54, 36, 0), 4, "ka|kkanaga", 10);
    }

    static void promise18CodesHaveNoBreakMoreThanARowThatIsBare() {
        for (int code = 0; code < 1430; code += 3) {
            StolenFinals x = Edge.scripted(Edge.WIDEST);
            int[] codes = {code, (code * 7 + 11) % 1430, code};
            Edge.due("blocks of " + code, Face.codes(x, codes), 3);
            Edge.due("breaks of " + code, x.about(10), x.bare());
            for (int i = 0; i < 3; i++) {
                Edge.due("block " + i + " of " + code, x.item(i, 4), codes[i]);
            }
        }
    }

    static void promise18CodesAreTwoBytesTheHigherFirst() {
        StolenFinals x = Edge.scripted(Edge.WIDEST);
        Edge.due("codes of 258", Face.codes(x, 258), 1);
        Edge.due("the block", x.item(0, 4), 258);
        Edge.due("codes of 1 and 256", Face.codes(x, 1, 256), 3);
        Edge.due("the block of 1", x.item(1, 4), 1);
        Edge.due("the block of 256", x.item(2, 4), 256);
    }

    static void promise18CodesTakeTheFirstNBytesAlone() {
        StolenFinals x = Edge.scripted();
        x.feed(0x0000ffff, -1, -1, -1, -1);
        leaves(x, x.codes(2), 1, "ga", 2);
        Edge.due("the tape is empty", x.size(), 0);
    }

    static void promise18CodesAreOneAct() {
        StolenFinals x = Edge.typed("ka", 1);
        Face.codes(x, 0, 71);
        Edge.due("acts", x.about(12), 3);
        Edge.due("undo()", x.undo(), 2);
        Edge.due("the row", Face.row(x), "ka");
        Edge.due("the caret", x.about(11), 1);
    }

    static void promise18CodesWithoutAScriptAreRefusedBy1() {
        StolenFinals x = new StolenFinals();
        x.feed(0, 0, 0, 0, 0);
        Edge.refuses("codes(2)", x, 1, () -> x.codes(2));
        Edge.refuses("codes(1): 1 ahead of 2", x, 1, () -> x.codes(1));
    }

    static void promise18CodesOf0AreRefusedBy2() {
        StolenFinals x = Edge.typed("ka", 1);
        Edge.refuses("codes(0) of none", x, 2, () -> x.codes(0));
        x.feed(0, 0, 0, 0, 0);
        Edge.refuses("codes(0)", x, 2, () -> x.codes(0));
    }

    static void promise18CodesOfAnOddNumberAreRefusedBy2() {
        StolenFinals x = Edge.typed("ka", 1);
        x.feed(0, 0, 0, 0, 0);
        for (int n : new int[] {1, 3, 19}) {
            Edge.refuses("codes(" + n + ")", x, 2, () -> x.codes(n));
        }
    }

    static void promise18CodesBelow0AreRefusedBy2() {
        StolenFinals x = Edge.typed("ka", 1);
        x.feed(0, 0, 0, 0, 0);
        for (int n : new int[] {-1, -2, Edge.LOW}) {
            Edge.refuses("codes(" + n + ")", x, 2, () -> x.codes(n));
        }
    }

    static void promise18CodesOfMoreThanThereIsAreRefusedBy2() {
        StolenFinals x = Edge.typed("ka", 1);
        Edge.refuses("codes(2) of none", x, 2, () -> x.codes(2));
        x.feed(0, 0, 0, 0, 0);
        for (int n : new int[] {21, 22, Edge.HIGH, Edge.HIGH - 1}) {
            Edge.refuses("codes(" + n + ")", x, 2, () -> x.codes(n));
        }
    }

    static void promise18NoSuchCodeIsRefusedBy5() {
        int[][] odd = {{72}, {0, 72}, {72, 0}, {0, 65535, 0}, {256}, {32768}};
        for (int[] codes : odd) {
            StolenFinals x = Edge.typed("ka", 1);
            StringBuilder text = new StringBuilder();
            for (int code : codes) {
                text.append((char) (code >> 8)).append((char) (code & 255));
            }
            int n = Face.feed(x, text.toString());
            Edge.refusesAndEmpties("codes with one too high", x, 5, () -> x.codes(n));
        }
    }

    static void promise18TheGreatestCode() {
        StolenFinals x = Edge.scripted();
        leaves(x, Face.codes(x, 71), 1, "kkaokk", 6);
    }

    private static void refusesCodes(StolenFinals x, int blocks, int why) {
        int n = Face.feed(x, "\0".repeat(2 * blocks));
        Edge.refusesAndEmpties(blocks + " codes", x, why, () -> x.codes(n));
    }

    static void promise18CodesUpTo80() {
        StolenFinals x = Edge.scripted();
        leaves(x, Face.codes(x, new int[40]), 40, ga(40), 80);
        StolenFinals y = Edge.typed("g", 0);
        leaves(y, Face.codes(y, new int[39]), 40, ga(39) + "|g", 79);
        StolenFinals z = Edge.typed("gg", 1);
        leaves(z, Face.codes(z, new int[38]), 40, "g|" + ga(38) + "|g", 79);
    }

    static void promise18CodesBeyond80AreRefusedBy3() {
        refusesCodes(Edge.scripted(), 41, 3);
        refusesCodes(Edge.scripted(), 150, 3);
        refusesCodes(Edge.typed("g"), 40, 3);
        refusesCodes(Edge.typed("gg"), 39, 3);
        refusesCodes(Edge.typed("ggg", 1), 38, 3);
        refusesCodes(Edge.typed(ga(40)), 1, 3);
    }

    static void promise18CodesComeInAgainBehindTooMany() {
        StolenFinals x = Edge.typed("g");
        refusesCodes(x, 150, 3);
        leaves(x, Face.codes(x, 0, 0), 3, "g|gaga", 6);
    }

    static void promise18CodesCountTheBreaksThatTheyNeed() {
        StolenFinals x = Edge.typed("gggg");
        int[] codes = new int[37];
        // a BREAK, 36 times ga, kk a: with the BREAK that kk needs 81 in all, without it 80
        codes[36] = 54;
        StringBuilder text = new StringBuilder();
        for (int code : codes) {
            text.append('\0').append((char) code);
        }
        int n = Face.feed(x, text.toString());
        Edge.refusesAndEmpties("codes", x, 3, () -> x.codes(n));
    }

    static void promise18CodesTellTheFirstTrouble() {
        StolenFinals x = Edge.typed(ga(40));
        Face.feed(x, "\0\u0048\0");
        Edge.refuses("2 ahead of 5 and 3", x, 2, () -> x.codes(3));
        StolenFinals y = Edge.typed(ga(40));
        Face.feed(y, "\0\u0048\0");
        Edge.refusesAndEmpties("5 ahead of 3", y, 5, () -> y.codes(2));
    }

    // ---- 19: undo

    static void promise19UndoWithoutAScriptIsRefusedBy1() {
        StolenFinals x = new StolenFinals();
        Edge.refuses("undo()", x, 1, x::undo);
    }

    static void promise19UndoOfNoneIsRefusedBy5() {
        StolenFinals x = Edge.scripted();
        Edge.refuses("undo() of a new script", x, 5, x::undo);
        x.key('k');
        Edge.answers("undo() of one", x, x.undo(), 0);
        Edge.refuses("undo() once more", x, 5, x::undo);
    }

    static void promise19UndoTheLatestFirst() {
        StolenFinals x = Edge.scripted();
        x.key('k');
        x.key('a');
        x.brk();
        Edge.answers("undo()", x, x.undo(), 2);
        Edge.due("the row", Face.row(x), "ka");
        Edge.answers("undo()", x, x.undo(), 1);
        Edge.due("the row", Face.row(x), "k");
        Edge.answers("undo()", x, x.undo(), 0);
        Edge.due("the row", Face.row(x), "");
    }

    static void promise19Undo30AtMost() {
        StolenFinals x = Edge.scripted();
        for (int i = 0; i < 31; i++) {
            x.key('g');
        }
        for (int left = 29; left >= 0; left--) {
            Edge.answers("undo()", x, x.undo(), left);
        }
        Edge.due("the row", Face.row(x), "g");
        Edge.refuses("the 31st", x, 5, x::undo);
    }

    static void promise19UndoOfExactly30() {
        StolenFinals x = Edge.scripted();
        for (int i = 0; i < 30; i++) {
            x.key('g');
        }
        for (int left = 29; left >= 0; left--) {
            Edge.answers("undo()", x, x.undo(), left);
        }
        Edge.due("the row", Face.row(x), "");
    }

    static void promise19UndoBehindManyTurnsOfTheRing() {
        StolenFinals x = Edge.scripted();
        for (int i = 0; i < 65; i++) {
            x.key(i % 2 == 0 ? 'g' : 'a');
        }
        for (int left = 29; left >= 10; left--) {
            x.undo();
        }
        Edge.due("45 are left", Face.row(x), ga(22) + "g");
        for (int i = 0; i < 25; i++) {
            x.brk();
        }
        Edge.due("acts", x.about(12), 30);
        for (int left = 29; left >= 0; left--) {
            Edge.answers("undo()", x, x.undo(), left);
        }
        Edge.due("40 are left", Face.row(x), ga(20));
    }

    static void promise19UndoGivesBackTheCaret() {
        StolenFinals x = Edge.typed("kan|a", 2);
        x.goes(5);
        x.back();
        Edge.due("undo() of back()", x.undo(), 3);
        Edge.due("the caret", x.about(11), 5);
        Edge.due("undo() of goes()", x.undo(), 2);
        Edge.due("the caret again", x.about(11), 2);
        x.tidy();
        x.undo();
        Edge.due("the caret behind tidy()", x.about(11), 2);
    }

    static void promise19UndoGivesBackWhatWasStolen() {
        StolenFinals x = Edge.typed("gan");
        x.key('a');
        Edge.due("stolen", x.about(9), 1);
        x.undo();
        Edge.due("not stolen", x.about(9), 0);
        Edge.due("the items", Edge.items(x), "0gan");
        Edge.due("its end", x.item(0, 3), 2);
    }

    static void promise19UndoOfAFullRow() {
        StolenFinals x = Edge.typed(ga(40), 40);
        x.del();
        x.undo();
        Edge.due("the row", Face.row(x), ga(40));
        Edge.due("the caret", x.about(11), 40);
        StolenFinals y = Edge.typed("k|".repeat(40), 80);
        y.tidy();
        y.undo();
        Edge.due("the row untidied", Face.row(y), "k|".repeat(40));
        Edge.due("its caret", y.about(11), 80);
    }

    static void promise19WhatIsRefusedIsNoAct() {
        StolenFinals x = Edge.typed("kan", 0);
        x.key('b');
        x.back();
        x.goes(4);
        x.type(1);
        x.codes(1);
        Edge.due("acts", x.about(12), 2);
        Edge.due("undo()", x.undo(), 1);
        Edge.due("the caret", x.about(11), 3);
    }

    static void promise19UndoIsNoAct() {
        StolenFinals x = Edge.typed("kan");
        x.key('a');
        x.undo();
        Edge.due("undo() again goes further back", x.undo(), 0);
        Edge.due("the row", Face.row(x), "");
    }

    static void promise19LooksAndPaperAreNoActs() {
        StolenFinals x = Edge.typed("kan|a", 2);
        x.at(0);
        x.of(0, 0);
        x.item(0, 0);
        x.within();
        x.needed(3);
        x.bare();
        x.would('k', 0);
        Face.seek(x, "k", 0);
        x.ranked(0);
        x.ways(3, 2);
        x.whole(3);
        Edge.due("acts", x.about(12), 2);
    }

    static void promise19UndoOfEachAct() {
        String[] acts = {"key", "brk", "type", "back", "del", "goes", "tidy", "codes"};
        for (String act : acts) {
            StolenFinals x = Edge.typed("kan||at", 4);
            String state = Edge.state(x);
            Face.feed(x, act.equals("type") ? "o|" : "\0\0");
            Face.call(x, act, act.equals("key") ? 'o' : 2);
            Edge.due(act + " wasn't refused", x.trouble(), 0);
            Edge.due(act + " is an act", x.about(12), 3);
            Check.holds(act + " changes something", !(Face.row(x) + x.about(11)).equals("kan||at4"));
            Edge.due(act + " undone", x.undo(), 2);
            Edge.due("what there is behind " + act, Edge.state(x), state);
        }
    }

    static void promise19UndoLeavesTheTape() {
        StolenFinals x = Edge.scripted();
        Face.type(x, "kan");
        x.undo();
        Edge.due("what was typed comes not back", x.size(), 0);
        x.key('k');
        x.feed(0, 0, 0, 0, 0);
        x.undo();
        Edge.due("what was fed stays", x.size(), 20);
    }
}
