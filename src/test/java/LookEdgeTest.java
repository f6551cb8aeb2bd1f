import java.util.List;

/** Promises 20 to 33 and TROUBLE: a test of its own for each sentence that names an edge. */
public final class LookEdgeTest {
    private LookEdgeTest() {
    }

    public static void main(String[] args) throws Exception {
        Edge.runAll(LookEdgeTest.class, 20, 33);
    }

    private static String ga(int blocks) {
        return "ga".repeat(blocks);
    }

    // ---- 20: at

    static void promise20AtAKeyAndABreak() {
        StolenFinals x = Edge.typed("k|a", 0);
        Edge.answers("at(0)", x, x.at(0), 'k');
        Edge.answers("at(1)", x, x.at(1), 124);
        Edge.answers("at(2)", x, x.at(2), 'a');
    }

    static void promise20AtOutsideIsRefusedBy1() {
        StolenFinals x = Edge.typed("k|a", 0);
        for (int place : new int[] {-1, 3, Edge.LOW, Edge.HIGH}) {
            Edge.refuses("at(" + place + ")", x, 1, () -> x.at(place));
        }
    }

    static void promise20AtInAnEmptyRowIsRefusedBy1() {
        StolenFinals x = Edge.scripted();
        Edge.refuses("at(0)", x, 1, () -> x.at(0));
        StolenFinals y = new StolenFinals();
        Edge.refuses("at(0) without a script", y, 1, () -> y.at(0));
    }

    static void promise20AtInAFullRow() {
        StolenFinals x = Edge.typed(ga(40));
        Edge.answers("at(79)", x, x.at(79), 'a');
        Edge.refuses("at(80)", x, 1, () -> x.at(80));
    }

    static void promise20AtAPlaceThatIsGoneIsRefusedBy1() {
        StolenFinals x = Edge.typed("kan");
        x.back();
        Edge.refuses("at(2)", x, 1, () -> x.at(2));
    }

    // ---- 21: of

    private static void ofs(String row, int what, int... want) {
        StolenFinals x = Edge.typed(row);
        for (int place = 0; place < want.length; place++) {
            Edge.answers("of(" + place + ", " + what + ") in " + row, x, x.of(place, what), want[place]);
        }
    }

    static void promise21OfTheItem() {
        ofs("kkaont", 0, 0, 0, 0, 0, 0, 0);
        ofs("kazta", 0, 0, 0, 1, 2, 3);
    }

    static void promise21OfABreakIsMinus2() {
        ofs("|k|", 0, -2, 0, -2);
        ofs("|k|", 2, -2, 0, -2);
    }

    static void promise21OfABreakNothingIsStolen() {
        ofs("gana|", 1, 0, 0, 1, 0, 0);
        ofs("|", 1, 0);
    }

    static void promise21OfAStolenKey() {
        ofs("gana", 0, 0, 0, 1, 1);
        ofs("gana", 1, 0, 0, 1, 0);
        ofs("gana", 2, 0, 1, 0, 1);
    }

    static void promise21OfAStolenSecondOfAPair() {
        ofs("gakka", 0, 0, 0, 0, 1, 1);
        ofs("gakka", 1, 0, 0, 0, 1, 0);
        ofs("gakka", 2, 0, 1, 2, 0, 1);
    }

    static void promise21OfALeadThatIsntStolen() {
        ofs("gagan|ka", 1, 0, 0, 0, 0, 0, 0, 0, 0);
    }

    static void promise21OfEachPart() {
        ofs("kkaont", 2, 0, 0, 1, 1, 2, 2);
        ofs("tzka", 2, 3, 3, 0, 1);
        ofs("ao|k", 2, 1, 1, -2, 0);
    }

    static void promise21OfWhatIsNoMoreStolen() {
        StolenFinals x = Edge.typed("gana");
        Edge.due("of(2, 1)", x.of(2, 1), 1);
        x.back();
        Edge.answers("of(2, 1) behind back()", x, x.of(2, 1), 0);
        Edge.answers("of(2, 2) behind back()", x, x.of(2, 2), 2);
        x.undo();
        x.goes(2);
        x.brk();
        Edge.answers("of(2, 1): a break", x, x.of(2, 1), 0);
        Edge.answers("of(3, 1) behind a break", x, x.of(3, 1), 0);
    }

    static void promise21OfAPlaceOutsideIsRefusedBy1() {
        StolenFinals x = Edge.typed("kan", 1);
        for (int place : new int[] {-1, 3, Edge.LOW, Edge.HIGH}) {
            Edge.refuses("of(" + place + ", 0)", x, 1, () -> x.of(place, 0));
        }
    }

    static void promise21OfSomethingElseIsRefusedBy1() {
        for (int what : new int[] {-1, 3, Edge.LOW, Edge.HIGH}) {
            StolenFinals x = Edge.typed("ka|", 1);
            Edge.refuses("of(0, " + what + ")", x, 1, () -> x.of(0, what));
            Edge.refuses("of(2, " + what + ")", x, 1, () -> x.of(2, what));
        }
    }

    static void promise21OfAnEmptyRowIsRefusedBy1() {
        StolenFinals x = Edge.scripted();
        Edge.refuses("of(0, 0)", x, 1, () -> x.of(0, 0));
        StolenFinals y = new StolenFinals();
        Edge.refuses("of(0, 0) without a script", y, 1, () -> y.of(0, 0));
    }

    static void promise21OfTheLastOfAFullRow() {
        StolenFinals x = Edge.typed("g".repeat(80));
        Edge.answers("of(79, 0)", x, x.of(79, 0), 79);
        Edge.refuses("of(80, 0)", x, 1, () -> x.of(80, 0));
    }

    // ---- 22: item

    private static void itemIs(String row, int i, int... want) {
        StolenFinals x = Edge.typed(row);
        for (int what = 0; what < want.length; what++) {
            Edge.answers("item(" + i + ", " + what + ") in " + row, x, x.item(i, what), want[what]);
        }
    }

    static void promise22ItemThatIsABlock() {
        itemIs("|kkaont", 0, 0, 3, 2, 4, 70, 1, 6);
    }

    static void promise22ItemThatIsABlockWithoutAnEnd() {
        itemIs("z|ka", 1, 0, 1, 0, 0, 18, 2, 2);
    }

    static void promise22ItemThatIsALeadAlone() {
        itemIs("k", 0, 1, 1, -2, -2, -2, 0, 1);
        itemIs("kk", 0, 1, 3, -2, -2, -2, 0, 2);
    }

    static void promise22ItemThatIsAMiddleAlone() {
        itemIs("a", 0, 2, -2, 0, -2, -2, 0, 1);
        itemIs("||ao", 0, 2, -2, 2, -2, -2, 2, 2);
    }

    static void promise22ItemThatIsAlone() {
        itemIs("z", 0, 3, -2, -2, -2, -2, 0, 1);
        itemIs("at", 1, 3, -2, -2, -2, -2, 1, 1);
    }

    static void promise22ItemThatIsStolenFrom() {
        itemIs("gana", 0, 0, 0, 0, 0, 0, 0, 2);
        itemIs("gakka", 0, 0, 0, 0, 1, 1, 0, 3);
    }

    static void promise22ItemThatStole() {
        itemIs("gana", 1, 0, 2, 0, 0, 36, 2, 2);
        itemIs("gakkaont", 1, 0, 1, 2, 4, 34, 3, 5);
    }

    static void promise22ItemOpenAtTheEndIsLikeOthers() {
        itemIs("ga|k", 1, 1, 1, -2, -2, -2, 3, 1);
        itemIs("ga|ka", 1, 0, 1, 0, 0, 18, 3, 2);
    }

    static void promise22ItemOutsideIsRefusedBy1() {
        StolenFinals x = Edge.typed("ka|na", 1);
        for (int i : new int[] {-1, 2, Edge.LOW, Edge.HIGH}) {
            Edge.refuses("item(" + i + ", 0)", x, 1, () -> x.item(i, 0));
        }
    }

    static void promise22ItemOfSomethingElseIsRefusedBy1() {
        StolenFinals x = Edge.typed("ka|na", 1);
        for (int what : new int[] {-1, 7, Edge.LOW, Edge.HIGH}) {
            Edge.refuses("item(0, " + what + ")", x, 1, () -> x.item(0, what));
        }
    }

    static void promise22ItemOfAnEmptyRowIsRefusedBy1() {
        StolenFinals x = Edge.typed("||");
        Edge.refuses("item(0, 0) of breaks", x, 1, () -> x.item(0, 0));
        StolenFinals y = Edge.scripted();
        Edge.refuses("item(0, 0) of none", y, 1, () -> y.item(0, 0));
        StolenFinals z = new StolenFinals();
        Edge.refuses("item(0, 0) without a script", z, 1, () -> z.item(0, 0));
    }

    static void promise22ItemTheEightieth() {
        itemIs("g".repeat(80), 79, 1, 0, -2, -2, -2, 79, 1);
    }

    static void promise22ItemOfTheGreatestCode() {
        itemIs("kkaokk", 0, 0, 3, 2, 5, 71, 0, 6);
    }

    // ---- 23: within

    private static void withins(String row, int... want) {
        StolenFinals x = Edge.typed(row);
        for (int caret = 0; caret < want.length; caret++) {
            x.goes(caret);
            Edge.answers("within() at " + caret + " of " + row, x, x.within(), want[caret]);
        }
    }

    static void promise23WithinAtPlace0AndAtTheEnd() {
        withins("kan", -2, 0, 0, -2);
    }

    static void promise23WithinBetweenTwoItems() {
        withins("kagata", -2, 0, -2, 1, 1, -2, -2);
    }

    static void promise23WithinBesideABreak() {
        withins("|ka|ga|", -2, -2, 0, -2, -2, 1, -2, -2);
    }

    static void promise23WithinBetweenTwoBreaks() {
        withins("k||k", -2, -2, -2, -2, -2);
    }

    static void promise23WithinWhatWasStolen() {
        withins("gana", -2, 0, -2, 1, -2);
        withins("gakka", -2, 0, 0, -2, 1, -2);
    }

    static void promise23WithinLeadsAndMiddlesAlone() {
        withins("kk|ao", -2, 0, -2, -2, 1, -2);
    }

    static void promise23WithinAnEmptyRow() {
        withins("", -2);
    }

    static void promise23WithinAFullRow() {
        StolenFinals x = Edge.typed(ga(40));
        Edge.answers("at the end", x, x.within(), -2);
        x.goes(79);
        Edge.answers("ahead of the last", x, x.within(), 39);
    }

    static void promise23WithinWithoutAScriptIsRefusedBy1() {
        StolenFinals x = new StolenFinals();
        Edge.refuses("within()", x, 1, x::within);
    }

    // ---- 24: needed

    private static void needs(String row, int place, int want) {
        StolenFinals x = Edge.typed(row, 1);
        String state = Edge.state(x);
        Edge.answers("needed(" + place + ") in " + row, x, x.needed(place), want);
        Edge.due("nothing changes", Edge.state(x), state);
    }

    static void promise24NeededAtBothEndsIsNot() {
        needs("|ka", 0, 0);
        needs("ka|", 2, 0);
    }

    static void promise24NeededOfTwoBesideEachOtherNoneIs() {
        needs("k||a", 1, 0);
        needs("k||a", 2, 0);
    }

    static void promise24NeededWhereOneItemLessWouldBe() {
        needs("k|a", 1, 1);
        needs("k|k", 1, 1);
        needs("a|o", 1, 1);
        needs("ka|n", 2, 1);
        needs("kan|t", 3, 1);
    }

    static void promise24NeededWhereAsManyWouldBeButOthers() {
        needs("kan|a", 3, 1);
        needs("k|kk", 1, 1);
        needs("ka|kka", 2, 1);
    }

    static void promise24NeededWhereTheftMakesTheSameIsNot() {
        needs("ka|na", 2, 0);
        needs("kak|ka", 3, 0);
    }

    static void promise24NeededWhereNothingWouldJoinIsNot() {
        needs("g|g", 1, 0);
        needs("kat|a", 3, 0);
        needs("z|a", 1, 0);
        needs("a|n", 1, 0);
        needs("o|a", 1, 0);
    }

    static void promise24NeededWithAllOthersStaying() {
        needs("ka|n|a", 2, 1);
        needs("ka|n|a", 4, 1);
        needs("ka|na|k|k", 2, 0);
        needs("ka|na|k|k", 5, 1);
        needs("ka|na|k|k", 7, 1);
    }

    static void promise24NeededBehindOtherLooks() {
        StolenFinals x = Edge.typed("ka|na|k|k", 3);
        x.would('k', 2);
        Edge.answers("needed(2)", x, x.needed(2), 0);
        x.bare();
        Edge.answers("needed(2) again", x, x.needed(2), 0);
        x.ways(2, 2);
        Edge.answers("needed(2) once more", x, x.needed(2), 0);
        Edge.answers("needed(5)", x, x.needed(5), 1);
        Edge.answers("would(z, 0) behind it", x, x.would('z', 0), 5);
    }

    static void promise24NeededOfAKeyIsRefusedBy5() {
        StolenFinals x = Edge.typed("ka|n", 1);
        for (int place : new int[] {0, 1, 3}) {
            Edge.refuses("needed(" + place + ")", x, 5, () -> x.needed(place));
        }
    }

    static void promise24NeededOutsideIsRefusedBy1() {
        StolenFinals x = Edge.typed("ka|", 1);
        for (int place : new int[] {-1, 3, Edge.LOW, Edge.HIGH}) {
            Edge.refuses("needed(" + place + ")", x, 1, () -> x.needed(place));
        }
        StolenFinals y = Edge.scripted();
        Edge.refuses("needed(0) of an empty row", y, 1, () -> y.needed(0));
        StolenFinals z = new StolenFinals();
        Edge.refuses("needed(0) without a script", z, 1, () -> z.needed(0));
    }

    static void promise24NeededInAFullRow() {
        StolenFinals x = Edge.typed("k|".repeat(40));
        Edge.answers("the last", x, x.needed(79), 0);
        Edge.answers("the one ahead", x, x.needed(77), 1);
        Edge.refuses("needed(80)", x, 1, () -> x.needed(80));
    }

    // ---- 25: bare

    private static void bares(String row, int want) {
        StolenFinals x = Edge.typed(row, row.length() / 2);
        String state = Edge.state(x);
        Edge.answers("bare() of " + row, x, x.bare(), want);
        Edge.due("nothing changes", Edge.state(x), state);
        x.tidy();
        Edge.due("breaks when it is bare", x.about(10), want);
    }

    static void promise25BareOfAnEmptyRow() {
        bares("", 0);
    }

    static void promise25BareOfBreaksAlone() {
        bares("|||", 0);
        bares("|".repeat(80), 0);
    }

    static void promise25BareOfNoBreaks() {
        bares("kanantkka", 0);
        bares(ga(40), 0);
    }

    static void promise25BareCountsWhatMustStand() {
        bares("k|a", 1);
        bares("k|||a", 1);
        bares("|kan|a|", 1);
        bares("k|k|k|k", 3);
        bares("ka|na|g|g", 0);
        bares("k|".repeat(40), 39);
    }

    static void promise25BareWithoutAScriptIsRefusedBy1() {
        StolenFinals x = new StolenFinals();
        Edge.refuses("bare()", x, 1, x::bare);
    }

    // ---- 26: would

    private static void wouldBe(String row, int caret, int key, int... want) {
        StolenFinals x = Edge.typed(row, caret);
        String state = Edge.state(x);
        for (int what = 0; what < want.length; what++) {
            String call = "would(" + (char) key + ", " + what + ") at " + caret + " of " + row;
            Edge.answers(call, x, x.would(key, what), want[what]);
        }
        Edge.due("nothing changes", Edge.state(x), state);
    }

    static void promise26WouldInAnEmptyRow() {
        wouldBe("", 0, 'k', 1, 0, 0, 0);
        wouldBe("", 0, '|', 0, 0, 0, 0);
    }

    static void promise26WouldAtPlace0() {
        wouldBe("gaka", 0, 'z', 3, 0, 2, 1);
        wouldBe("gaka", 0, '|', 2, 2, 0, 1);
        wouldBe("aka", 0, 'g', 2, 0, 1, 1);
    }

    static void promise26WouldAtTheEnd() {
        wouldBe("gaka", 4, 'n', 2, 1, 0, 1);
        wouldBe("gaka", 4, 'z', 3, 2, 0, 1);
        wouldBe("gan", 3, 'a', 2, 0, 0, 1);
    }

    static void promise26WouldWithin() {
        wouldBe("gaka", 2, '|', 2, 2, 0, 0);
        wouldBe("ganga", 3, 'a', 3, 0, 1, 1);
        wouldBe("gagaga", 3, 'z', 5, 1, 1, 0);
    }

    static void promise26WouldLeaveAllFirstOnesAlike() {
        wouldBe("gaga", 4, '|', 2, 2, 0, 0);
        wouldBe("gaga", 2, '|', 2, 2, 0, 0);
    }

    static void promise26WouldCountLastOnesBehindTheFirstAlone() {
        // one ga more among like ones: two are like at first, of those that are left none now
        wouldBe("gaa|a", 3, 'a', 4, 3, 0, 0);
        wouldBe("ggg", 1, 'g', 4, 3, 0, 0);
        wouldBe("zzz", 0, 'z', 4, 3, 0, 0);
    }

    static void promise26WouldCountLastOnesThatAreLeftThen() {
        // a break within the first of two like ones: fewer or more are left then than now
        wouldBe("kk|k", 1, '|', 3, 0, 1, 0);
        wouldBe("k|k|k", 1, 'k', 3, 0, 2, 0);
    }

    static void promise26WouldBeStolen() {
        wouldBe("gan", 3, 'a', 2, 0, 0, 1);
        wouldBe("ganaka", 6, 'a', 4, 3, 0, 2);
        wouldBe("gana", 3, '|', 2, 0, 0, 0);
    }

    static void promise26WouldOfNoKeyIsRefusedBy1() {
        for (int key : new int[] {'b', 96, 123, 125, 32, 0, -1, 124 + 256, 97 + 256, Edge.LOW, Edge.HIGH}) {
            StolenFinals x = Edge.typed("kan", 1);
            Edge.refuses("would(" + key + ", 0)", x, 1, () -> x.would(key, 0));
        }
    }

    static void promise26WouldOfSomethingElseIsRefusedBy1() {
        for (int what : new int[] {-1, 4, Edge.LOW, Edge.HIGH}) {
            StolenFinals x = Edge.typed("kan", 1);
            Edge.refuses("would(k, " + what + ")", x, 1, () -> x.would('k', what));
            Edge.refuses("would(124, " + what + ")", x, 1, () -> x.would(124, what));
        }
    }

    static void promise26WouldWithoutAScriptIsRefusedBy1() {
        StolenFinals x = new StolenFinals();
        Edge.refuses("would(a, 0)", x, 1, () -> x.would('a', 0));
        Edge.refuses("would(124, 0)", x, 1, () -> x.would(124, 0));
    }

    static void promise26WouldBeThe80th() {
        wouldBe("g".repeat(79), 79, 'a', 79, 78, 0, 0);
        wouldBe("g".repeat(79), 0, 'z', 80, 0, 79, 0);
        wouldBe("g".repeat(79), 79, '|', 79, 79, 0, 0);
    }

    static void promise26WouldInAFullRowIsRefusedBy3() {
        for (int what = 0; what < 4; what++) {
            int asked = what;
            StolenFinals x = Edge.typed(ga(40), 3);
            Edge.refuses("would(a, " + what + ")", x, 3, () -> x.would('a', asked));
            StolenFinals y = Edge.typed(ga(40), 3);
            Edge.refuses("would(124, " + what + ")", y, 3, () -> y.would(124, asked));
        }
    }

    static void promise26WouldTellsTheFirstTrouble() {
        StolenFinals x = Edge.typed(ga(40), 3);
        Edge.refuses("no key in a full row", x, 1, () -> x.would('b', 0));
        StolenFinals y = Edge.typed(ga(40), 3);
        Edge.refuses("something else in a full row", y, 1, () -> y.would('a', 4));
    }

    // ---- 27: seek

    private static void seeks(String row, String keys, int from, int want) {
        StolenFinals x = Edge.typed(row, 1);
        String state = Edge.state(x);
        Edge.answers("seek " + keys + " from " + from + " in " + row, x, Face.seek(x, keys, from), want);
        Edge.due("the tape is empty", x.size(), 0);
        Edge.due("nothing else changes", Edge.state(x), state);
    }

    static void promise27SeekTheFirstFromOneOn() {
        seeks("kagaka", "k", 0, 0);
        seeks("kagaka", "k", 1, 2);
        seeks("kagaka", "k", 2, 2);
        seeks("kagaka", "g", 1, 1);
    }

    static void promise27SeekOfNoneIsMinus2() {
        seeks("kagaka", "n", 0, -2);
        seeks("kagaka", "g", 2, -2);
    }

    static void promise27SeekSeveralInARow() {
        seeks("kagakanaga", "kg", 0, 0);
        seeks("kagakanaga", "kn", 0, 2);
        seeks("kagakanaga", "gg", 0, -2);
        seeks("kagakanaga", "kagakanaga".replace("a", ""), 0, 0);
    }

    static void promise27SeekBeyondTheLastItem() {
        seeks("kaga", "gk", 1, -2);
        seeks("kaga", "kgk", 0, -2);
        seeks("kaga", "g", 1, 1);
    }

    static void promise27SeekOverlapping() {
        seeks("gagakaga", "gk", 0, 1);
        seeks("kkakaka|na", "kkn", 0, 1);
    }

    static void promise27SeekBlocksAlone() {
        seeks("k|ka", "k", 0, 1);
        seeks("k", "k", 0, -2);
        seeks("a|z|t", "a", 0, -2);
        seeks("a|z|t", "z", 0, -2);
        seeks("a|z|t", "t", 0, -2);
        seeks("ka|z|ka", "kk", 0, -2);
    }

    static void promise27SeekByTheFirstKeyOfATwin() {
        seeks("gakaka|kka", "k", 3, 3);
        seeks("kka", "k", 0, 0);
    }

    static void promise27SeekWhatWasStolen() {
        seeks("gana", "n", 0, 1);
        seeks("gana", "gn", 0, 0);
    }

    static void promise27SeekPassesBreaks() {
        seeks("ka||na|ga", "kng", 0, 0);
    }

    static void promise27SeekTakesTheFirstNBytesAlone() {
        StolenFinals x = Edge.typed("kaga");
        Face.feed(x, "gb{");
        Edge.answers("seek(1, 0)", x, x.seek(1, 0), 1);
        Edge.due("the tape is empty", x.size(), 0);
    }

    static void promise27SeekOfNoSuchItemIsRefusedBy1() {
        StolenFinals x = Edge.typed("kaga", 1);
        Face.feed(x, "k");
        for (int from : new int[] {-1, 2, Edge.LOW, Edge.HIGH}) {
            Edge.refuses("seek(1, " + from + ")", x, 1, () -> x.seek(1, from));
        }
    }

    static void promise27SeekInAnEmptyRowIsRefusedBy1() {
        StolenFinals x = Edge.scripted();
        Face.feed(x, "k");
        Edge.refuses("seek(1, 0)", x, 1, () -> x.seek(1, 0));
        StolenFinals y = Edge.typed("||");
        Face.feed(y, "k");
        Edge.refuses("seek(1, 0) in breaks", y, 1, () -> y.seek(1, 0));
        StolenFinals z = new StolenFinals();
        Face.feed(z, "k");
        Edge.refuses("seek(1, 0) without a script", z, 1, () -> z.seek(1, 0));
    }

    static void promise27SeekOf0AndBelowIsRefusedBy2() {
        StolenFinals x = Edge.typed("kaga", 1);
        Face.feed(x, "k");
        for (int n : new int[] {0, -1, Edge.LOW}) {
            Edge.refuses("seek(" + n + ", 0)", x, 2, () -> x.seek(n, 0));
        }
    }

    static void promise27SeekOf20AtMost() {
        seeks(ga(20), "g".repeat(20), 0, 0);
        seeks(ga(19), "g".repeat(20), 0, -2);
        seeks(ga(40), "g".repeat(20), 20, 20);
        seeks(ga(40), "g".repeat(20), 21, -2);
        for (int n : new int[] {21, 40, Edge.HIGH}) {
            StolenFinals x = Edge.typed(ga(40), 1);
            Face.feed(x, "g".repeat(40));
            Edge.refuses("seek(" + n + ", 0)", x, 2, () -> x.seek(n, 0));
        }
    }

    static void promise27SeekOfMoreThanThereIsIsRefusedBy2() {
        StolenFinals x = Edge.typed("kaga", 1);
        Edge.refuses("seek(1, 0) of none", x, 2, () -> x.seek(1, 0));
        Edge.refuses("seek(20, 0) of none", x, 2, () -> x.seek(20, 0));
    }

    static void promise27SeekOfAnotherByteIsRefusedBy5() {
        for (int b : new int[] {124, 0, 32, 'b', 'K', 96, 123, 255}) {
            for (String text : new String[] {"" + (char) b, (char) b + "k", "k" + (char) b}) {
                StolenFinals x = Edge.typed("kaga", 1);
                int n = Face.feed(x, text);
                Edge.refusesAndEmpties("seek with " + b, x, 5, () -> x.seek(n, 0));
            }
        }
    }

    static void promise27SeekTellsTheFirstTrouble() {
        StolenFinals x = Edge.typed("kaga", 1);
        Face.feed(x, "b");
        Edge.refuses("1 ahead of 2", x, 1, () -> x.seek(0, 2));
        Edge.refuses("1 ahead of 5", x, 1, () -> x.seek(1, 2));
        Edge.refuses("2 ahead of 5", x, 2, () -> x.seek(21, 0));
        Edge.refusesAndEmpties("5", x, 5, () -> x.seek(1, 0));
    }

    // ---- 28: ranked

    private static void ranks(String row, int... want) {
        StolenFinals x = Edge.typed(row, row.length() / 2);
        String state = Edge.state(x);
        for (int i = 0; i < want.length; i++) {
            Edge.answers("ranked(" + i + ") of " + row, x, x.ranked(i), want[i]);
        }
        Edge.due("nothing changes", Edge.state(x), state);
        Edge.refuses("ranked beyond", x, 1, () -> x.ranked(want.length));
    }

    static void promise28RankedOfOne() {
        ranks("ka", 0);
        ranks("z", 0);
    }

    static void promise28RankedBlocksByCode() {
        // codes 54, 36, 18, 20, 0
        ranks("kka|na|ka|kan|ga", 4, 2, 3, 1, 0);
    }

    static void promise28RankedBlocksAheadOfAllOthers() {
        // the greatest CODE ahead of the least LEAD, that ahead of a MIDDLE, that ahead of an ALONE one
        ranks("z|a|g|kkaokk", 3, 2, 1, 0);
    }

    static void promise28RankedLeadsAloneByNumber() {
        ranks("kk|n|k|g", 3, 2, 1, 0);
    }

    static void promise28RankedMiddlesAloneByNumber() {
        ranks("ao|o|a", 2, 1, 0);
    }

    static void promise28RankedTheLastLeadAheadOfTheFirstMiddle() {
        ranks("a|kk", 1, 0);
    }

    static void promise28RankedAloneOnesByKeys() {
        // t is told as a CONSONANT, z as an OLD one
        ranks("ztzt", 1, 3, 0, 2);
        StolenFinals x = Edge.scripted("lead g;vowel a;final y;final b;old z;old c");
        Face.type(x, "zyc|b");
        int[] want = {3, 2, 1, 0};
        for (int i = 0; i < want.length; i++) {
            Edge.answers("ranked(" + i + ")", x, x.ranked(i), want[i]);
        }
    }

    static void promise28RankedLikeOnesAsTheyStand() {
        ranks("gagaga", 0, 1, 2);
        ranks("ka|ga|ka|ga", 1, 3, 0, 2);
        ranks("zgz|g", 1, 3, 0, 2);
    }

    static void promise28RankedOutsideIsRefusedBy1() {
        StolenFinals x = Edge.typed("kaga", 1);
        for (int i : new int[] {-1, 2, Edge.LOW, Edge.HIGH}) {
            Edge.refuses("ranked(" + i + ")", x, 1, () -> x.ranked(i));
        }
    }

    static void promise28RankedOfAnEmptyRowIsRefusedBy1() {
        ranks("");
        ranks("||");
        StolenFinals x = new StolenFinals();
        Edge.refuses("ranked(0) without a script", x, 1, () -> x.ranked(0));
    }

    static void promise28RankedOf80() {
        StolenFinals x = Edge.typed("z" + "g".repeat(79));
        Edge.answers("the first", x, x.ranked(0), 1);
        Edge.answers("the last", x, x.ranked(79), 0);
        Edge.refuses("ranked(80)", x, 1, () -> x.ranked(80));
    }

    // ---- 29: ways

    static void promise29WaysOfNoKeys() {
        StolenFinals x = Edge.typed("kan", 1);
        Edge.answers("ways(0, 0)", x, x.ways(0, 0), 1);
        for (int items = 1; items <= 8; items++) {
            Edge.answers("ways(0, " + items + ")", x, x.ways(0, items), 0);
        }
    }

    static void promise29WaysOfKeysIntoNoItems() {
        StolenFinals x = Edge.scripted();
        for (int n = 1; n <= 8; n++) {
            Edge.answers("ways(" + n + ", 0)", x, x.ways(n, 0), 0);
        }
    }

    static void promise29WaysOfOneKey() {
        StolenFinals x = Edge.scripted();
        Edge.answers("ways(1, 1)", x, x.ways(1, 1), 7);
        Edge.answers("ways(1, 2)", x, x.ways(1, 2), 0);
    }

    static void promise29WaysOfMoreItemsThanKeys() {
        StolenFinals x = Edge.scripted();
        for (int n = 0; n < 8; n++) {
            Edge.answers("ways(" + n + ", 8)", x, x.ways(n, 8), 0);
        }
        Check.holds("ways(8, 8)", x.ways(8, 8) > 0);
    }

    static void promise29WaysOfAllRows() {
        StolenFinals x = Edge.scripted();
        long all = 1;
        for (int n = 0; n <= 8; n++) {
            long sum = 0;
            for (int items = 0; items <= 8; items++) {
                sum += x.ways(n, items);
            }
            Edge.due("rows of " + n + " keys", sum, all);
            all *= 7;
        }
    }

    static void promise29WaysBeyondAnInt() {
        StolenFinals x = Edge.scripted(Edge.WIDEST);
        long sum = 0;
        boolean large = false;
        for (int items = 0; items <= 8; items++) {
            sum += x.ways(8, items);
            large = large || x.ways(8, items) > Edge.HIGH;
        }
        Edge.due("rows of 8 of 22 keys", sum, 54875873536L);
        Check.holds("one is above an int", large);
    }

    static void promise29WaysOfTheSmallestScript() {
        StolenFinals x = Edge.scripted("lead k;vowel a");
        // kk 2, ka 1, ak 2, aa 2
        Edge.answers("ways(2, 1)", x, x.ways(2, 1), 1);
        Edge.answers("ways(2, 2)", x, x.ways(2, 2), 3);
        // each ka is one ITEM, each other KEY is one: only kakakaka has four
        Edge.answers("ways(8, 4)", x, x.ways(8, 4), 1);
        Edge.answers("ways(8, 3)", x, x.ways(8, 3), 0);
        // without ka: a..ak..k
        Edge.answers("ways(8, 8)", x, x.ways(8, 8), 9);
    }

    static void promise29WaysCountOldOnesToo() {
        StolenFinals x = Edge.scripted("lead k;vowel a;old z");
        Edge.answers("ways(1, 1)", x, x.ways(1, 1), 3);
        Edge.answers("ways(2, 1)", x, x.ways(2, 1), 1);
        Edge.answers("ways(2, 2)", x, x.ways(2, 2), 8);
    }

    /** Of n, then of ITEMS: how many rows of these KEYS, each typed on its own, have so many; in column 9: all BLOCKS. */
    private static long[][] typedRows(String script, String keys) {
        long[][] found = new long[9][10];
        int rows = 1;
        StolenFinals x = null;
        for (int n = 0; n <= 8; n++, rows *= keys.length()) {
            for (int r = 0; r < rows; r++) {
                // an object is used for so many calls alone
                x = r % 100 == 0 ? Edge.scripted(script) : x;
                StringBuilder row = new StringBuilder();
                for (int i = 0, left = r; i < n; i++, left /= keys.length()) {
                    row.append(keys.charAt(left % keys.length()));
                }
                int items = Face.type(x, row.toString());
                found[n][items]++;
                found[n][9] += x.about(8) == items ? 1 : 0;
                x.undo();
            }
        }
        return found;
    }

    private static void countsAgree(String script, String keys) {
        long[][] want = typedRows(script, keys);
        StolenFinals x = Edge.scripted(script);
        for (int n = 0; n <= 8; n++) {
            for (int items = 0; items <= 8; items++) {
                Edge.due("ways(" + n + ", " + items + ") of " + script, x.ways(n, items), want[n][items]);
            }
            Edge.due("whole(" + n + ") of " + script, x.whole(n), want[n][9]);
        }
    }

    static void promise29WaysAndWholeAgreeWithAllRowsTyped() {
        countsAgree("both k;final t;vowel a;pair a a;twin k;pair k t;pair t k", "kta");
        countsAgree("lead g;both k;vowel a;pair k k;twin g", "gka");
        countsAgree("both k;vowel o;vowel a;pair a o;old z;pair k k", "koaz");
    }

    static void promise29WaysOfAScriptBehindAnother() {
        StolenFinals fresh = Edge.scripted("both k;vowel a;old z");
        StolenFinals x = Edge.scripted(Edge.WIDEST);
        x.ways(8, 8);
        Face.script(x, "both k;vowel a;old z");
        for (int n = 0; n <= 8; n++) {
            for (int items = 0; items <= 8; items++) {
                Edge.due("ways(" + n + ", " + items + ")", x.ways(n, items), fresh.ways(n, items));
            }
            Edge.due("whole(" + n + ")", x.whole(n), fresh.whole(n));
        }
    }

    static void promise29WaysOutsideIsRefusedBy2() {
        for (int odd : new int[] {-1, 9, Edge.LOW, Edge.HIGH}) {
            StolenFinals x = Edge.typed("kan", 1);
            Edge.refuses("ways(" + odd + ", 0)", x, 2, () -> x.ways(odd, 0));
            Edge.refuses("ways(0, " + odd + ")", x, 2, () -> x.ways(0, odd));
            Edge.refuses("ways(" + odd + ", " + odd + ")", x, 2, () -> x.ways(odd, odd));
        }
    }

    static void promise29WaysWithoutAScriptIsRefusedBy1() {
        StolenFinals x = new StolenFinals();
        Edge.refuses("ways(0, 0)", x, 1, () -> x.ways(0, 0));
        Edge.refuses("ways(9, 9): 1 ahead of 2", x, 1, () -> x.ways(9, 9));
    }

    static void promise29WaysChangeNothing() {
        StolenFinals x = Edge.typed("gan|a", 2);
        String state = Edge.state(x);
        x.ways(8, 4);
        x.whole(8);
        Edge.due("what there is", Edge.state(x), state);
        Edge.due("would() goes on from the row", x.would('o', 0), 2);
        Edge.due("needed() too", x.needed(3), 1);
    }

    static void promise29WaysOfTheScriptThatIs() {
        StolenFinals x = Edge.scripted("lead k;vowel a");
        Edge.due("ways(1, 1)", x.ways(1, 1), 2);
        Face.script(x, Edge.TEXT);
        Edge.due("ways(1, 1) of another", x.ways(1, 1), 7);
        Face.script(x, "lead k");
        Edge.due("ways(1, 1) behind a fault", x.ways(1, 1), 7);
    }

    // ---- 30: whole

    static void promise30WholeOfNoKeysIs1() {
        StolenFinals x = Edge.scripted();
        Edge.answers("whole(0)", x, x.whole(0), 1);
    }

    static void promise30WholeOfOneKeyIs0() {
        StolenFinals x = Edge.scripted();
        Edge.answers("whole(1)", x, x.whole(1), 0);
    }

    static void promise30WholeOfTwoKeys() {
        StolenFinals x = Edge.scripted();
        Edge.answers("whole(2)", x, x.whole(2), 6);
    }

    static void promise30WholeOfTheSmallestScript() {
        StolenFinals x = Edge.scripted("lead k;vowel a");
        for (int n = 0; n <= 8; n++) {
            Edge.answers("whole(" + n + ")", x, x.whole(n), n % 2 == 0 ? 1 : 0);
        }
    }

    static void promise30WholeLeavesOutALeadAloneAtTheEnd() {
        StolenFinals x = Edge.scripted("lead k;vowel a;twin k");
        // ka; kka; kaka; kakka, kkaka
        int[] want = {1, 0, 1, 1, 1, 2};
        for (int n = 0; n < want.length; n++) {
            Edge.answers("whole(" + n + ")", x, x.whole(n), want[n]);
        }
    }

    static void promise30WholeLeavesOutALeadAloneWithin() {
        StolenFinals x = Edge.scripted("lead k;lead g;vowel a");
        // ka, ga; kga and the like have a LEAD alone
        Edge.answers("whole(2)", x, x.whole(2), 2);
        Edge.answers("whole(3)", x, x.whole(3), 0);
        Edge.answers("whole(4)", x, x.whole(4), 4);
    }

    static void promise30WholeCountsStolenOnes() {
        StolenFinals x = Edge.scripted("both k;vowel a");
        // kaka: one is stolen
        Edge.answers("whole(4)", x, x.whole(4), 1);
    }

    static void promise30WholeOutsideIsRefusedBy2() {
        StolenFinals x = Edge.typed("kan", 1);
        for (int n : new int[] {-1, 9, Edge.LOW, Edge.HIGH}) {
            Edge.refuses("whole(" + n + ")", x, 2, () -> x.whole(n));
        }
    }

    static void promise30WholeWithoutAScriptIsRefusedBy1() {
        StolenFinals x = new StolenFinals();
        Edge.refuses("whole(0)", x, 1, () -> x.whole(0));
        Edge.refuses("whole(9): 1 ahead of 2", x, 1, () -> x.whole(9));
    }

    static void promise30WholeOfTheScriptThatIs() {
        StolenFinals x = Edge.scripted("lead k;vowel a");
        Edge.due("whole(2)", x.whole(2), 1);
        Face.script(x, Edge.TEXT);
        Edge.due("whole(2) of another", x.whole(2), 6);
    }

    // ---- 31: told

    static void promise31ToldInTheirOrder() {
        StolenFinals x = Edge.scripted("vowel o;final t;old y;lead b;vowel a;both c;old d");
        String[] want = {"tbc", "oa", "yd"};
        for (int sort = 0; sort < 3; sort++) {
            for (int k = 0; k < want[sort].length(); k++) {
                Edge.due("told(" + sort + ", " + k + ")", x.told(sort, k), want[sort].charAt(k));
            }
        }
    }

    static void promise31ToldBeyondThrows() {
        StolenFinals x = Edge.scripted();
        int[] counts = {4, 2, 1};
        for (int sort = 0; sort < 3; sort++) {
            Check.holds("told(" + sort + ") beyond", Edge.throwsNone(x, sort, counts[sort]));
            Check.holds("told(" + sort + ", HIGH)", Edge.throwsNone(x, sort, Edge.HIGH));
        }
    }

    static void promise31ToldBelow0Throws() {
        StolenFinals x = Edge.scripted();
        for (int sort = 0; sort < 3; sort++) {
            Check.holds("told(" + sort + ", -1)", Edge.throwsNone(x, sort, -1));
            Check.holds("told(" + sort + ", LOW)", Edge.throwsNone(x, sort, Edge.LOW));
        }
    }

    static void promise31ToldOfAnotherSortThrows() {
        StolenFinals x = Edge.scripted();
        for (int sort : new int[] {-1, 3, 4, Edge.LOW, Edge.HIGH}) {
            Check.holds("told(" + sort + ", 0)", Edge.throwsNone(x, sort, 0));
        }
    }

    static void promise31ToldOfNoOldOnesThrows() {
        StolenFinals x = Edge.scripted("lead k;vowel a");
        Check.holds("told(2, 0)", Edge.throwsNone(x, 2, 0));
    }

    static void promise31ToldWithoutAScriptThrows() {
        StolenFinals x = new StolenFinals();
        for (int sort = 0; sort < 3; sort++) {
            Check.holds("told(" + sort + ", 0)", Edge.throwsNone(x, sort, 0));
        }
        Face.script(x, "lead k;old z");
        Check.holds("told(0, 0) behind a fault", Edge.throwsNone(x, 0, 0));
    }

    static void promise31ToldUpToTheLimits() {
        StolenFinals x = Edge.scripted(Edge.WIDEST);
        Edge.due("the tenth consonant", x.told(0, 9), 'j');
        Edge.due("the eighth vowel", x.told(1, 7), 'r');
        Edge.due("the fourth old one", x.told(2, 3), 'v');
        Check.holds("told(0, 10)", Edge.throwsNone(x, 0, 10));
        Check.holds("told(1, 8)", Edge.throwsNone(x, 1, 8));
        Check.holds("told(2, 4)", Edge.throwsNone(x, 2, 4));
    }

    static void promise31ToldOfTheScriptThatIs() {
        StolenFinals x = Edge.scripted();
        Face.script(x, "lead x;vowel y");
        Edge.due("told(0, 0)", x.told(0, 0), 'x');
        Check.holds("told(0, 1) of the one ahead", Edge.throwsNone(x, 0, 1));
        Face.script(x, "lead q");
        Edge.due("told(0, 0) behind a fault", x.told(0, 0), 'x');
    }

    static void promise31ToldLeavesTrouble() {
        StolenFinals x = Edge.scripted();
        x.goes(9);
        x.told(0, 0);
        Edge.due("trouble()", x.trouble(), 2);
        Edge.throwsNone(x, 0, 9);
        Edge.due("trouble() when it throws", x.trouble(), 2);
    }

    // ---- 32: size

    static void promise32SizeFrom0To300() {
        StolenFinals x = new StolenFinals();
        Edge.due("size()", x.size(), 0);
        for (int bytes = 20; bytes <= 300; bytes += 20) {
            x.feed(0, 0, 0, 0, 0);
            Edge.due("size()", x.size(), bytes);
        }
        x.feed(0, 0, 0, 0, 0);
        Edge.due("size() of a full tape", x.size(), 300);
    }

    static void promise32SizeIs0BehindEachCallThatTakesTheTape() {
        StolenFinals x = Edge.typed("ka");
        Face.feed(x, "k");
        x.type(1);
        Edge.due("behind type()", x.size(), 0);
        Face.feed(x, "k");
        x.seek(1, 0);
        Edge.due("behind seek()", x.size(), 0);
        x.feed(0, 0, 0, 0, 0);
        x.codes(2);
        Edge.due("behind codes()", x.size(), 0);
        x.feed(0, 0, 0, 0, 0);
        x.script(1);
        Edge.due("behind script()", x.size(), 0);
    }

    static void promise32SizeStaysByOtherCalls() {
        StolenFinals x = Edge.typed("kan|a", 2);
        x.feed(0, 0, 0, 0, 0);
        x.key('k');
        x.brk();
        x.back();
        x.del();
        x.goes(0);
        x.tidy();
        x.undo();
        x.would('k', 0);
        x.ways(1, 1);
        x.ranked(0);
        Edge.due("size()", x.size(), 20);
    }

    static void promise32SizeLeavesTrouble() {
        StolenFinals x = Edge.scripted();
        x.goes(9);
        x.size();
        Edge.due("trouble()", x.trouble(), 2);
    }

    // ---- 33: trouble

    static void promise33TroubleIs0AtFirst() {
        Edge.due("trouble()", new StolenFinals().trouble(), 0);
    }

    static void promise33TroubleOfEachNumber() {
        StolenFinals x = Edge.typed(ga(40));
        x.at(80);
        Edge.due("1", x.trouble(), 1);
        x.goes(81);
        Edge.due("2", x.trouble(), 2);
        x.brk();
        Edge.due("3", x.trouble(), 3);
        Face.script(x, "lead");
        Edge.due("4", x.trouble(), 4);
        x.del();
        Edge.due("5", x.trouble(), 5);
        x.bare();
        Edge.due("0", x.trouble(), 0);
    }

    static void promise33TroubleStaysByItselfAndByCallsThatCantBeRefused() {
        StolenFinals x = Edge.scripted();
        x.goes(9);
        x.trouble();
        x.fault();
        x.where();
        x.size();
        x.feed(0, 0, 0, 0, 0);
        x.told(0, 0);
        Edge.due("trouble()", x.trouble(), 2);
    }

    static void promise33TroubleIs0BehindEachCallThatIsntRefused() {
        String[] names = {"about", "letter", "code", "parts", "spelt", "key", "brk", "type", "back", "del", "goes",
            "tidy", "codes", "undo", "at", "of", "item", "within", "needed", "bare", "would", "seek", "ranked", "ways",
            "whole"};
        for (String name : names) {
            StolenFinals x = Edge.typed("|kan|a", 3);
            Face.feed(x, name.equals("codes") ? "\0\0" : "kk");
            boolean ofKey = name.equals("letter") || name.equals("key") || name.equals("would");
            x.key(0);
            Edge.due("trouble() ahead of " + name, x.trouble(), 1);
            Check.holds(name, Face.call(x, name, ofKey ? 'k' : name.equals("codes") || name.equals("seek") ? 2 : 0, 0, 0)
                    != StolenFinals.NONE);
            Edge.due("trouble() behind " + name, x.trouble(), 0);
        }
    }

    static void promise33TroubleIs0BehindASoundScript() {
        StolenFinals x = new StolenFinals();
        x.key(0);
        Face.script(x, Edge.TEXT);
        Edge.due("trouble()", x.trouble(), 0);
    }

    static void promise33TroubleOfTheLatestCallAlone() {
        StolenFinals x = Edge.scripted();
        x.goes(9);
        x.at(0);
        Edge.due("trouble()", x.trouble(), 1);
    }

    static void promise33WhatIsRefusedChangesNothing() {
        String[] names = {"script", "about", "letter", "code", "parts", "spelt", "key", "type", "goes", "codes", "at",
            "of", "item", "needed", "would", "seek", "ranked", "ways", "whole"};
        List<String> numbers = List.of("script", "type", "goes", "codes", "ways", "whole");
        for (String name : names) {
            StolenFinals x = Edge.typed("kan|a", 2);
            x.feed(0, 0, 0, 0, 0);
            boolean number = numbers.contains(name);
            Edge.refuses(name, x, number ? 2 : 1, () -> Face.call(x, name, 1000, 1000, 1000));
            Edge.due("undo() goes on behind " + name, x.undo(), 1);
            Edge.due("the caret behind " + name, x.about(11), 5);
        }
    }
}
