import java.util.Arrays;
import java.util.NoSuchElementException;

/**
 * Blocks of letters typed one by one: a script told as a text, a row of keys with breaks, and a
 * machine that makes blocks of them and gives the end of a block to the next one where a middle
 * letter follows. The words in capitals are those of the project's document.
 */
public final class StolenFinals {
    public static final int NONE = -1;

    /** The answer "it has none" of calls that are not refused. */
    private static final int ABSENT = -2;
    private static final int BREAK = 124;
    private static final int BLANK = 32;
    private static final int SEMICOLON = 59;
    private static final int FIRST_LETTER = 97;
    private static final int LETTERS = 26;

    private static final int TAPE_LIMIT = 300;
    private static final int FEED_BYTES = 20;
    private static final int ROW_LIMIT = 80;
    private static final int ACT_LIMIT = 30;
    private static final int SEEK_LIMIT = 20;
    private static final int COUNT_LIMIT = 8;
    private static final int CONSONANT_LIMIT = 10;
    private static final int VOWEL_LIMIT = 8;
    private static final int OLD_LIMIT = 4;
    private static final int TWIN_LIMIT = 4;
    private static final int PAIR_LIMIT = 8;
    private static final int LEAD_LIMIT = CONSONANT_LIMIT + TWIN_LIMIT;
    private static final int MIDDLE_LIMIT = VOWEL_LIMIT + PAIR_LIMIT;
    private static final int END_LIMIT = 1 + CONSONANT_LIMIT + PAIR_LIMIT;
    /** KEYS that a CODE can have: two each of LEAD, MIDDLE, END. */
    private static final int CODE_SLOTS = 6;

    private static final int NO_SUCH = 1;
    private static final int BAD_NUMBER = 2;
    private static final int TOO_MANY = 3;
    private static final int FAULTY = 4;
    private static final int NOT_SO = 5;

    private static final int FORM_FAULT = 1;
    private static final int KEY_FAULT = 2;
    private static final int MANY_FAULT = 3;
    private static final int LACKS_FAULT = 4;

    /** The sorts of LINES; the first five are the sorts of KEYS, too. */
    private static final int LEAD_LINE = 0;
    private static final int BOTH_LINE = 1;
    private static final int FINAL_LINE = 2;
    private static final int VOWEL_LINE = 3;
    private static final int OLD_LINE = 4;
    private static final int TWIN_LINE = 5;
    private static final int PAIR_LINE = 6;

    private static final int BLOCK = 0;
    private static final int LEAD_ALONE = 1;
    private static final int MIDDLE_ALONE = 2;
    private static final int ALONE = 3;

    private static final int ROLE_LEAD = 0;
    private static final int ROLE_MIDDLE = 1;
    private static final int ROLE_END = 2;
    private static final int ROLE_ALONE = 3;

    /** Above every CODE, so that one number tells an ITEM's SORT first and then its number. */
    private static final int ORDER_STEP = 1 << 16;

    private final ScriptReader reader = new ScriptReader();
    /** Its reader has made it, so that no constructor is handed a part of an object still in the making. */
    private final Tape tape = reader.tape;
    private final Row row = new Row();
    private final Row draft = new Row();
    private final Reading now = new Reading();
    private final Reading scratch = new Reading();
    private final History history = new History();
    private final Tally tally = new Tally();
    private final int[] order = new int[ROW_LIMIT];
    private Script script = new Script();
    /** A new text is read into this one, so that a FAULT leaves THE SCRIPT as it was. */
    private Script spare = new Script();
    private boolean hasScript = false;
    private int latestFault = 0;
    private int faultPlace = NONE;
    private int latestTrouble = 0;

    public StolenFinals() {
    }

    // ---- scripts

    public int feed(int a, int b, int c, int d, int e) {
        if (tape.count + FEED_BYTES > TAPE_LIMIT) {
            return NONE;
        }
        tape.append(a);
        tape.append(b);
        tape.append(c);
        tape.append(d);
        tape.append(e);
        return tape.count;
    }

    public int script(int n) {
        if (!tape.reaches(n)) {
            return refuse(BAD_NUMBER);
        }
        reader.read(n, spare);
        tape.clear();
        latestFault = reader.fault;
        if (reader.fault != 0) {
            refuse(FAULTY);
            faultPlace = reader.place;
            return NONE;
        }
        Script told = spare;
        spare = script;
        script = told;
        hasScript = true;
        row.clear();
        now.clear();
        history.clear();
        tally.clear();
        return accept(script.keyCount());
    }

    public int fault() {
        return latestFault;
    }

    public int where() {
        return faultPlace;
    }

    public int about(int what) {
        if (!hasScript || what < 0 || what > 12) {
            return refuse(NO_SUCH);
        }
        return accept(what < 6 ? script.fact(what) : rowFact(what));
    }

    private int rowFact(int what) {
        switch (what) {
            case 6:
                return row.count;
            case 7:
                return now.items;
            case 8:
                return now.blocks();
            case 9:
                return now.stolenKeys;
            case 10:
                return row.breaks();
            case 11:
                return row.caret;
            default:
                return history.kept;
        }
    }

    public int letter(int key, int what) {
        if (!hasScript || !script.isKey(key) || what < 0 || what > 4) {
            return refuse(NO_SUCH);
        }
        return accept(script.keyFact(key, what));
    }

    public int code(int lead, int middle, int end) {
        if (!hasScript || !script.leads.has(lead) || !script.middles.has(middle) || !script.ends.has(end)) {
            return refuse(NO_SUCH);
        }
        return accept(script.codeOf(lead, middle, end));
    }

    public int parts(int code, int what) {
        if (!hasScript || !script.hasCode(code) || what < 0 || what > 2) {
            return refuse(NO_SUCH);
        }
        return accept(script.partOf(code, what));
    }

    public int spelt(int code, int k) {
        if (!hasScript || !script.hasCode(code) || k < 0) {
            return refuse(NO_SUCH);
        }
        int left = k;
        for (int slot = 0; slot < CODE_SLOTS; slot++) {
            int key = script.slotKey(code, slot);
            if (key != ABSENT) {
                if (left == 0) {
                    return accept(key);
                }
                left--;
            }
        }
        return accept(ABSENT);
    }

    // ---- acts

    public int key(int key) {
        if (!hasScript || !script.isKey(key)) {
            return refuse(NO_SUCH);
        }
        return putOne(key);
    }

    public int brk() {
        if (!hasScript) {
            return refuse(NO_SUCH);
        }
        return putOne(BREAK);
    }

    private int putOne(int sign) {
        if (row.count >= ROW_LIMIT) {
            return refuse(TOO_MANY);
        }
        history.keep(row);
        row.insert(sign);
        return readAnew();
    }

    private int readAnew() {
        now.clear();
        for (int place = 0; place < row.count; place++) {
            now.take(script, row.signAt(place));
        }
        return accept(now.items);
    }

    private void readRange(Reading reading, int from, int behind) {
        for (int place = from; place < behind && place < row.count; place++) {
            reading.take(script, row.signAt(place));
        }
    }

    public int type(int n) {
        if (!hasScript) {
            return refuse(NO_SUCH);
        }
        if (!tape.reaches(n)) {
            return refuse(BAD_NUMBER);
        }
        int trouble = tapeHasSigns(n) ? 0 : NOT_SO;
        if (trouble == 0 && row.count + n > ROW_LIMIT) {
            trouble = TOO_MANY;
        }
        if (trouble == 0) {
            history.keep(row);
            for (int i = 0; i < n; i++) {
                row.insert(tape.byteAt(i));
            }
        }
        tape.clear();
        return trouble == 0 ? readAnew() : refuse(trouble);
    }

    private boolean tapeHasSigns(int n) {
        for (int i = 0; i < n; i++) {
            if (!isSign(tape.byteAt(i))) {
                return false;
            }
        }
        return true;
    }

    private boolean isSign(int sign) {
        return sign == BREAK || script.isKey(sign);
    }

    public int back() {
        if (!hasScript) {
            return refuse(NO_SUCH);
        }
        if (row.caret <= 0) {
            return refuse(NOT_SO);
        }
        history.keep(row);
        row.caret--;
        row.removeAtCaret();
        return readAnew();
    }

    public int del() {
        if (!hasScript) {
            return refuse(NO_SUCH);
        }
        if (row.caret >= row.count) {
            return refuse(NOT_SO);
        }
        history.keep(row);
        row.removeAtCaret();
        return readAnew();
    }

    public int goes(int place) {
        if (!hasScript) {
            return refuse(NO_SUCH);
        }
        if (place < 0 || place > row.count) {
            return refuse(BAD_NUMBER);
        }
        history.keep(row);
        int was = row.caret;
        row.caret = place;
        return accept(was);
    }

    public int tidy() {
        if (!hasScript) {
            return refuse(NO_SUCH);
        }
        int breaks = row.breaks();
        int keysAhead = row.keysAheadOfCaret();
        history.keep(row);
        draftBareRow();
        row.copyFrom(draft);
        row.caret = row.placeBehindKeys(keysAhead);
        readAnew();
        return accept(breaks - row.breaks());
    }

    private void draftBareRow() {
        draft.clear();
        for (int i = 0; i < now.items; i++) {
            if (i > 0 && !itemsStandApart(i)) {
                draft.append(BREAK);
            }
            int behind = now.placeBehind(i);
            for (int place = now.placeOf(i); place < behind; place++) {
                draft.append(row.signAt(place));
            }
        }
    }

    /**
     * Whether an ITEM and the one ahead of it need no BREAK between them. Looking at these two
     * is enough: what THE MACHINE has OPEN behind an ITEM's last KEY depends on that ITEM alone.
     */
    private boolean itemsStandApart(int i) {
        scratch.clear();
        int behind = now.placeBehind(i);
        for (int place = now.placeOf(i - 1); place < behind; place++) {
            if (row.signAt(place) != BREAK) {
                scratch.take(script, row.signAt(place));
            }
        }
        return scratch.items == 2 && scratch.like(0, now, i - 1) && scratch.like(1, now, i);
    }

    public int codes(int n) {
        if (!hasScript) {
            return refuse(NO_SUCH);
        }
        if (!tape.reaches(n) || n == 0 || (n & 1) != 0) {
            return refuse(BAD_NUMBER);
        }
        int trouble = tapeHasCodes(n) ? 0 : NOT_SO;
        if (trouble == 0) {
            draftBlocks(n);
            if (draft.overflowed || row.count + draft.count > ROW_LIMIT) {
                trouble = TOO_MANY;
            }
        }
        tape.clear();
        if (trouble != 0) {
            return refuse(trouble);
        }
        history.keep(row);
        for (int i = 0; i < draft.count; i++) {
            row.insert(draft.signAt(i));
        }
        return readAnew();
    }

    private boolean tapeHasCodes(int n) {
        for (int i = 0; i < n; i += 2) {
            if (!script.hasCode(tape.twoBytesAt(i))) {
                return false;
            }
        }
        return true;
    }

    private void draftBlocks(int n) {
        draft.clear();
        if (row.caret > 0) {
            draft.append(BREAK);
        }
        for (int i = 0; i < n && !draft.overflowed; i += 2) {
            int code = tape.twoBytesAt(i);
            if (i > 0 && !codesStandApart(tape.twoBytesAt(i - 2), code)) {
                draft.append(BREAK);
            }
            draft.appendCode(script, code);
        }
        if (row.caret < row.count) {
            draft.append(BREAK);
        }
    }

    /** As itemsStandApart(), of two BLOCKS that are not in THE ROW yet. */
    private boolean codesStandApart(int code, int next) {
        scratch.clear();
        for (int slot = 0; slot < 2 * CODE_SLOTS; slot++) {
            boolean ofNext = slot >= CODE_SLOTS;
            int key = script.slotKey(ofNext ? next : code, ofNext ? slot - CODE_SLOTS : slot);
            if (key != ABSENT) {
                scratch.take(script, key);
            }
        }
        return scratch.items == 2 && scratch.codeAt(script, 0) == code && scratch.codeAt(script, 1) == next;
    }

    public int undo() {
        if (!hasScript) {
            return refuse(NO_SUCH);
        }
        if (history.kept <= 0) {
            return refuse(NOT_SO);
        }
        history.restore(row);
        readAnew();
        return accept(history.kept);
    }

    // ---- what there is

    public int at(int place) {
        if (!row.hasPlace(place)) {
            return refuse(NO_SUCH);
        }
        return accept(row.signAt(place));
    }

    public int of(int place, int what) {
        if (!row.hasPlace(place) || what < 0 || what > 2) {
            return refuse(NO_SUCH);
        }
        return accept(now.placeFact(place, what));
    }

    public int item(int i, int what) {
        if (!now.hasItem(i) || what < 0 || what > 6) {
            return refuse(NO_SUCH);
        }
        return accept(now.itemFact(script, i, what));
    }

    public int within() {
        if (!hasScript) {
            return refuse(NO_SUCH);
        }
        int place = row.caret;
        if (place <= 0 || place >= row.count || now.placeFact(place - 1, 0) != now.placeFact(place, 0)) {
            return accept(ABSENT);
        }
        return accept(now.placeFact(place, 0));
    }

    public int needed(int place) {
        if (!row.hasPlace(place)) {
            return refuse(NO_SUCH);
        }
        if (row.signAt(place) != BREAK) {
            return refuse(NOT_SO);
        }
        scratch.clear();
        readRange(scratch, 0, place);
        readRange(scratch, place + 1, row.count);
        boolean same = scratch.items == now.items && scratch.alikeAtFirst(now) == now.items;
        return accept(same ? 0 : 1);
    }

    public int bare() {
        if (!hasScript) {
            return refuse(NO_SUCH);
        }
        draftBareRow();
        return accept(draft.breaks());
    }

    // ---- on paper

    public int would(int key, int what) {
        if (!hasScript || !isSign(key) || what < 0 || what > 3) {
            return refuse(NO_SUCH);
        }
        if (row.count >= ROW_LIMIT) {
            return refuse(TOO_MANY);
        }
        scratch.clear();
        readRange(scratch, 0, row.caret);
        scratch.take(script, key);
        readRange(scratch, row.caret, row.count);
        if (what == 0) {
            return accept(scratch.items);
        }
        if (what == 3) {
            return accept(scratch.stolenKeys);
        }
        int firstOnes = scratch.alikeAtFirst(now);
        return accept(what == 1 ? firstOnes : scratch.alikeAtLast(now, firstOnes));
    }

    public int seek(int n, int from) {
        if (!now.hasItem(from)) {
            return refuse(NO_SUCH);
        }
        if (n < 1 || n > SEEK_LIMIT || !tape.reaches(n)) {
            return refuse(BAD_NUMBER);
        }
        boolean keysAlone = tapeHasKeys(n);
        int found = ABSENT;
        for (int i = from; keysAlone && found == ABSENT && i + n <= now.items; i++) {
            if (blocksLedByTape(n, i)) {
                found = i;
            }
        }
        tape.clear();
        return keysAlone ? accept(found) : refuse(NOT_SO);
    }

    private boolean tapeHasKeys(int n) {
        for (int i = 0; i < n; i++) {
            if (!script.isKey(tape.byteAt(i))) {
                return false;
            }
        }
        return true;
    }

    private boolean blocksLedByTape(int n, int from) {
        for (int i = 0; i < n; i++) {
            int item = from + i;
            if (!now.hasItem(item) || now.sortOf(item) != BLOCK
                    || row.signAt(now.placeOf(item)) != tape.byteAt(i)) {
                return false;
            }
        }
        return true;
    }

    public int ranked(int i) {
        if (!now.hasItem(i)) {
            return refuse(NO_SUCH);
        }
        for (int item = 0; item < now.items; item++) {
            order[item] = orderOf(item);
        }
        int found = ABSENT;
        for (int item = 0; found == ABSENT && item < now.items; item++) {
            if (itemsAheadInOrder(item) == i) {
                found = item;
            }
        }
        return accept(found);
    }

    private int orderOf(int item) {
        int sort = now.sortOf(item);
        switch (sort) {
            case BLOCK:
                return now.codeAt(script, item);
            case LEAD_ALONE:
                return sort * ORDER_STEP + now.lead[item];
            case MIDDLE_ALONE:
                return sort * ORDER_STEP + now.middle[item];
            default:
                return sort * ORDER_STEP + now.lone[item];
        }
    }

    private int itemsAheadInOrder(int item) {
        int ahead = 0;
        for (int other = 0; other < now.items; other++) {
            if (order[other] < order[item] || (order[other] == order[item] && other < item)) {
                ahead++;
            }
        }
        return ahead;
    }

    public long ways(int n, int items) {
        if (!hasScript) {
            return refuse(NO_SUCH);
        }
        if (n < 0 || n > COUNT_LIMIT || items < 0 || items > COUNT_LIMIT) {
            return refuse(BAD_NUMBER);
        }
        tally.prepare(script, scratch);
        accept(0);
        return tally.rowsWith(n, items);
    }

    public long whole(int n) {
        if (!hasScript) {
            return refuse(NO_SUCH);
        }
        if (n < 0 || n > COUNT_LIMIT) {
            return refuse(BAD_NUMBER);
        }
        tally.prepare(script, scratch);
        accept(0);
        return tally.rowsOfBlocks(n);
    }

    // ---- what is told

    public int told(int sort, int k) throws NoSuchElementException {
        KeyList keys = script.toldOf(sort);
        if (!hasScript || keys == null || !keys.has(k)) {
            throw new NoSuchElementException();
        }
        return keys.keyAt(k);
    }

    public int size() {
        return tape.count;
    }

    public int trouble() {
        return latestTrouble;
    }

    private int accept(int answer) {
        latestTrouble = 0;
        faultPlace = NONE;
        return answer;
    }

    private int refuse(int why) {
        latestTrouble = why;
        faultPlace = NONE;
        return NONE;
    }

    private static boolean isLetter(int sign) {
        return sign >= FIRST_LETTER && sign < FIRST_LETTER + LETTERS;
    }

    /** THE TAPE. */
    private static final class Tape {
        private final int[] bytes = new int[TAPE_LIMIT];
        private int count = 0;

        void clear() {
            count = 0;
        }

        void append(int number) {
            for (int shift = 24; shift >= 0 && count < TAPE_LIMIT; shift -= 8) {
                bytes[count] = (number >> shift) & 255;
                count++;
            }
        }

        boolean reaches(int n) {
            return n >= 0 && n <= count;
        }

        int byteAt(int i) {
            return i >= 0 && i < count ? bytes[i] : NONE;
        }

        int twoBytesAt(int i) {
            return byteAt(i) * 256 + byteAt(i + 1);
        }
    }

    /** KEYS in the order in which they were told. */
    private static final class KeyList {
        private final int[] keys;
        private int count = 0;

        KeyList(int limit) {
            keys = new int[limit < 0 ? 0 : limit];
        }

        void clear() {
            count = 0;
        }

        boolean isFull() {
            return count >= keys.length;
        }

        void append(int key) {
            if (count < keys.length) {
                keys[count] = key;
                count++;
            }
        }

        boolean has(int k) {
            return k >= 0 && k < count;
        }

        int keyAt(int k) {
            return has(k) ? keys[k] : ABSENT;
        }

        boolean holds(int key) {
            for (int k = 0; k < count; k++) {
                if (keys[k] == key) {
                    return true;
                }
            }
            return false;
        }
    }

    /** The numbers of LEADS, of MIDDLES or of ENDS: single KEYS first, behind them those of two. */
    private static final class PartTable {
        private final int[] firstKeys;
        private final int[] secondKeys;
        private final int[] singleNumbers = new int[LETTERS];
        private int singles = 0;
        private int count = 0;

        PartTable(int limit) {
            int room = limit < 0 ? 0 : limit;
            firstKeys = new int[room];
            secondKeys = new int[room];
        }

        void clear() {
            Arrays.fill(singleNumbers, ABSENT);
            singles = 0;
            count = 0;
        }

        /** All singles come ahead of the first of two KEYS; of "none" the KEY is ABSENT. */
        void appendSingle(int key) {
            if (isLetter(key)) {
                singleNumbers[key - FIRST_LETTER] = count;
            }
            appendDouble(key, ABSENT);
            singles = count;
        }

        void appendDouble(int key, int second) {
            if (count < firstKeys.length && count < secondKeys.length) {
                firstKeys[count] = key;
                secondKeys[count] = second;
                count++;
            }
        }

        boolean has(int number) {
            return number >= 0 && number < count;
        }

        int numberOf(int key) {
            int letter = key - FIRST_LETTER;
            return letter >= 0 && letter < LETTERS ? singleNumbers[letter] : ABSENT;
        }

        /** The number that a single KEY's number has with one KEY more, or ABSENT. */
        int numberWith(int number, int key) {
            if (number < 0 || number >= singles) {
                return ABSENT;
            }
            for (int two = singles; two < count; two++) {
                if (firstKeys[two] == firstKeys[number] && secondKeys[two] == key) {
                    return two;
                }
            }
            return ABSENT;
        }

        /** The number that is left when the latest KEY goes; 0 (of ENDS: none) if no KEY is left. */
        int numberWithoutLatest(int number) {
            return number >= singles && number < count ? numberOf(firstKeys[number]) : 0;
        }

        int firstKey(int number) {
            return has(number) ? firstKeys[number] : ABSENT;
        }

        int secondKey(int number) {
            return has(number) ? secondKeys[number] : ABSENT;
        }

        int latestKey(int number) {
            if (number < 0 || number >= count) {
                return ABSENT;
            }
            return number < singles ? firstKeys[number] : secondKeys[number];
        }
    }

    /** THE SCRIPT: its KEYS as told, and its numbers. */
    private static final class Script {
        private final int[] sorts = new int[LETTERS];
        private final KeyList consonants = new KeyList(CONSONANT_LIMIT);
        private final KeyList vowels = new KeyList(VOWEL_LIMIT);
        private final KeyList olds = new KeyList(OLD_LIMIT);
        private final KeyList twins = new KeyList(TWIN_LIMIT);
        private final KeyList pairFirsts = new KeyList(PAIR_LIMIT);
        private final KeyList pairSeconds = new KeyList(PAIR_LIMIT);
        private final PartTable leads = new PartTable(LEAD_LIMIT);
        private final PartTable middles = new PartTable(MIDDLE_LIMIT);
        private final PartTable ends = new PartTable(END_LIMIT);

        Script() {
            Arrays.fill(sorts, NONE);
        }

        void clear() {
            Arrays.fill(sorts, NONE);
            consonants.clear();
            vowels.clear();
            olds.clear();
            twins.clear();
            pairFirsts.clear();
            pairSeconds.clear();
        }

        /** The KEYS told as CONSONANTS (0), VOWELS (1), OLD ones (2), or null. */
        KeyList toldOf(int sort) {
            switch (sort) {
                case 0:
                    return consonants;
                case 1:
                    return vowels;
                case 2:
                    return olds;
                default:
                    return null;
            }
        }

        KeyList listOfLine(int line) {
            switch (line) {
                case VOWEL_LINE:
                    return vowels;
                case OLD_LINE:
                    return olds;
                case TWIN_LINE:
                    return twins;
                case PAIR_LINE:
                    return pairFirsts;
                default:
                    return consonants;
            }
        }

        int sortOfKey(int key) {
            return isLetter(key) ? sorts[key - FIRST_LETTER] : NONE;
        }

        boolean isKey(int key) {
            return sortOfKey(key) != NONE;
        }

        boolean canLead(int key) {
            int sort = sortOfKey(key);
            return sort == LEAD_LINE || sort == BOTH_LINE;
        }

        boolean canBeFinal(int key) {
            int sort = sortOfKey(key);
            return sort == BOTH_LINE || sort == FINAL_LINE;
        }

        boolean isVowel(int key) {
            return sortOfKey(key) == VOWEL_LINE;
        }

        void tellKey(int line, int key) {
            if (isLetter(key)) {
                sorts[key - FIRST_LETTER] = line;
                listOfLine(line).append(key);
            }
        }

        void tellPair(int key, int second) {
            pairFirsts.append(key);
            pairSeconds.append(second);
        }

        boolean holdsPair(int key, int second) {
            for (int k = 0; k < pairFirsts.count; k++) {
                if (pairFirsts.keyAt(k) == key && pairSeconds.keyAt(k) == second) {
                    return true;
                }
            }
            return false;
        }

        boolean lacksLeadOrVowel() {
            for (int k = 0; k < consonants.count; k++) {
                if (canLead(consonants.keyAt(k))) {
                    return vowels.count == 0;
                }
            }
            return true;
        }

        /** Numbers are given when all is told: a twin or pair may be told ahead of later KEYS. */
        void giveNumbers() {
            leads.clear();
            middles.clear();
            ends.clear();
            ends.appendSingle(ABSENT);
            for (int k = 0; k < consonants.count; k++) {
                int key = consonants.keyAt(k);
                if (canLead(key)) {
                    leads.appendSingle(key);
                }
                if (canBeFinal(key)) {
                    ends.appendSingle(key);
                }
            }
            for (int k = 0; k < vowels.count; k++) {
                middles.appendSingle(vowels.keyAt(k));
            }
            for (int k = 0; k < twins.count; k++) {
                leads.appendDouble(twins.keyAt(k), twins.keyAt(k));
            }
            for (int k = 0; k < pairFirsts.count; k++) {
                int key = pairFirsts.keyAt(k);
                PartTable table = isVowel(key) ? middles : ends;
                table.appendDouble(key, pairSeconds.keyAt(k));
            }
        }

        int keyCount() {
            return consonants.count + vowels.count + olds.count;
        }

        int fact(int what) {
            switch (what) {
                case 0:
                    return consonants.count;
                case 1:
                    return vowels.count;
                case 2:
                    return olds.count;
                case 3:
                    return leads.count;
                case 4:
                    return middles.count;
                default:
                    return ends.count;
            }
        }

        int keyFact(int key, int what) {
            switch (what) {
                case 0:
                    return sortOfKey(key);
                case 1:
                    return leads.numberOf(key);
                case 2:
                    return ends.numberOf(key);
                case 3:
                    return middles.numberOf(key);
                default:
                    return leads.numberWith(leads.numberOf(key), key);
            }
        }

        int codeOf(int lead, int middle, int end) {
            return (lead * middles.count + middle) * ends.count + end;
        }

        boolean hasCode(int code) {
            return code >= 0 && code < leads.count * middles.count * ends.count;
        }

        int partOf(int code, int what) {
            if (middles.count <= 0 || ends.count <= 0) {
                return ABSENT;
            }
            if (what == 2) {
                return code % ends.count;
            }
            int rest = code / ends.count;
            return what == 1 ? rest % middles.count : rest / middles.count;
        }

        /** The KEY in one of a CODE's slots: two each of LEAD, MIDDLE, END; ABSENT in an empty one. */
        int slotKey(int code, int slot) {
            int what = slot >> 1;
            PartTable table = what == 0 ? leads : what == 1 ? middles : ends;
            int number = partOf(code, what);
            return (slot & 1) == 0 ? table.firstKey(number) : table.secondKey(number);
        }
    }

    /** Reads THE TEXT of a SCRIPT from the left on, up to its first FAULT. */
    private static final class ScriptReader {
        private final Tape tape = new Tape();
        private int length = 0;
        private int tokenStart = 0;
        private int tokenEnd = 0;
        private int fault = 0;
        private int place = NONE;

        void read(int n, Script told) {
            length = n;
            tokenStart = 0;
            tokenEnd = 0;
            fault = 0;
            place = NONE;
            told.clear();
            boolean more = true;
            for (int lines = 0; more && lines <= TAPE_LIMIT; lines++) {
                readLine(told);
                more = fault == 0 && goesOn();
            }
            if (fault == 0 && told.lacksLeadOrVowel()) {
                fail(LACKS_FAULT);
            }
            if (fault == 0) {
                told.giveNumbers();
            }
        }

        private void fail(int number) {
            fault = number;
            place = tokenStart;
        }

        private int signAt(int i) {
            return i < length ? tape.byteAt(i) : NONE;
        }

        /** A byte that begins no TOKEN is taken like one: it fits nowhere, and so is a FAULT. */
        private void nextToken() {
            int i = tokenEnd;
            while (i < length && tape.byteAt(i) == BLANK) {
                i++;
            }
            tokenStart = i;
            if (i < length && !isLetter(tape.byteAt(i))) {
                i++;
            } else {
                while (i < length && isLetter(tape.byteAt(i))) {
                    i++;
                }
            }
            tokenEnd = i;
        }

        private boolean tokenIs(String word) {
            if (tokenEnd - tokenStart != word.length()) {
                return false;
            }
            for (int i = 0; i < word.length(); i++) {
                if (signAt(tokenStart + i) != word.charAt(i)) {
                    return false;
                }
            }
            return true;
        }

        /** Behind a LINE: whether another one must come. */
        private boolean goesOn() {
            nextToken();
            if (tokenStart >= length) {
                return false;
            }
            if (signAt(tokenStart) != SEMICOLON) {
                fail(FORM_FAULT);
                return false;
            }
            return true;
        }

        private int lineSort() {
            if (tokenIs("lead")) {
                return LEAD_LINE;
            }
            if (tokenIs("both")) {
                return BOTH_LINE;
            }
            if (tokenIs("final")) {
                return FINAL_LINE;
            }
            if (tokenIs("vowel")) {
                return VOWEL_LINE;
            }
            if (tokenIs("old")) {
                return OLD_LINE;
            }
            if (tokenIs("twin")) {
                return TWIN_LINE;
            }
            return tokenIs("pair") ? PAIR_LINE : NONE;
        }

        private void readLine(Script told) {
            nextToken();
            int line = lineSort();
            if (line == NONE) {
                fail(FORM_FAULT);
            } else if (told.listOfLine(line).isFull()) {
                fail(MANY_FAULT);
            } else if (line == TWIN_LINE) {
                readTwin(told);
            } else if (line == PAIR_LINE) {
                readPair(told);
            } else {
                readToldKey(told, line);
            }
        }

        /** The KEY that must stand here, or NONE behind a FAULT of FORM. */
        private int nextKey() {
            nextToken();
            int sign = signAt(tokenStart);
            if (tokenEnd - tokenStart != 1 || !isLetter(sign)) {
                fail(FORM_FAULT);
                return NONE;
            }
            return sign;
        }

        private void readToldKey(Script told, int line) {
            int key = nextKey();
            if (fault != 0) {
                return;
            }
            if (told.isKey(key)) {
                fail(KEY_FAULT);
            } else {
                told.tellKey(line, key);
            }
        }

        private void readTwin(Script told) {
            int key = nextKey();
            if (fault != 0) {
                return;
            }
            if (!told.canLead(key) || told.twins.holds(key)) {
                fail(KEY_FAULT);
            } else {
                told.twins.append(key);
            }
        }

        private void readPair(Script told) {
            int key = nextKey();
            if (fault != 0) {
                return;
            }
            if (!told.isVowel(key) && !told.canBeFinal(key)) {
                fail(KEY_FAULT);
                return;
            }
            int second = nextKey();
            if (fault != 0) {
                return;
            }
            boolean fits = told.isVowel(key) ? told.isVowel(second) : told.canBeFinal(second);
            if (!fits || told.holdsPair(key, second)) {
                fail(KEY_FAULT);
            } else {
                told.tellPair(key, second);
            }
        }
    }

    /** KEYS and BREAKS with THE CARET among them. */
    private static final class Row {
        private final int[] signs = new int[ROW_LIMIT];
        private int count = 0;
        private int caret = 0;
        /** More was appended than there is room for. */
        private boolean overflowed = false;

        void clear() {
            count = 0;
            caret = 0;
            overflowed = false;
        }

        boolean hasPlace(int place) {
            return place >= 0 && place < count;
        }

        int signAt(int place) {
            return hasPlace(place) ? signs[place] : NONE;
        }

        void append(int sign) {
            if (count < ROW_LIMIT) {
                signs[count] = sign;
                count++;
            } else {
                overflowed = true;
            }
        }

        void appendCode(Script script, int code) {
            for (int slot = 0; slot < CODE_SLOTS; slot++) {
                int key = script.slotKey(code, slot);
                if (key != ABSENT) {
                    append(key);
                }
            }
        }

        void insert(int sign) {
            if (count >= ROW_LIMIT || caret < 0 || caret > count) {
                return;
            }
            for (int place = count; place > caret; place--) {
                signs[place] = signs[place - 1];
            }
            signs[caret] = sign;
            count++;
            caret++;
        }

        void removeAtCaret() {
            if (!hasPlace(caret)) {
                return;
            }
            count--;
            for (int place = caret; place < count; place++) {
                signs[place] = signs[place + 1];
            }
        }

        int breaks() {
            int found = 0;
            for (int place = 0; place < count; place++) {
                if (signs[place] == BREAK) {
                    found++;
                }
            }
            return found;
        }

        int keysAheadOfCaret() {
            int found = 0;
            for (int place = 0; place < caret && place < count; place++) {
                if (signs[place] != BREAK) {
                    found++;
                }
            }
            return found;
        }

        /** The first place that has so many KEYS ahead of it. */
        int placeBehindKeys(int keys) {
            int left = keys;
            int place = 0;
            while (left > 0 && place < count) {
                if (signs[place] != BREAK) {
                    left--;
                }
                place++;
            }
            return place;
        }

        void copyFrom(Row other) {
            clear();
            for (int place = 0; place < other.count; place++) {
                append(other.signAt(place));
            }
        }
    }

    /** THE ROW and THE CARET as they were ahead of each of the latest ACTS, in a ring. */
    private static final class History {
        private final int[][] rows = new int[ACT_LIMIT][ROW_LIMIT];
        private final int[] counts = new int[ACT_LIMIT];
        private final int[] carets = new int[ACT_LIMIT];
        private int next = 0;
        private int kept = 0;

        void clear() {
            next = 0;
            kept = 0;
        }

        void keep(Row row) {
            if (next < 0 || next >= ACT_LIMIT) {
                next = 0;
            }
            for (int place = 0; place < row.count && place < ROW_LIMIT; place++) {
                rows[next][place] = row.signAt(place);
            }
            counts[next] = row.count;
            carets[next] = row.caret;
            next = next + 1 < ACT_LIMIT ? next + 1 : 0;
            kept = kept < ACT_LIMIT ? kept + 1 : ACT_LIMIT;
        }

        void restore(Row row) {
            if (kept <= 0) {
                return;
            }
            kept--;
            next = next > 0 && next < ACT_LIMIT ? next - 1 : ACT_LIMIT - 1;
            row.clear();
            for (int place = 0; place < counts[next] && place < ROW_LIMIT; place++) {
                row.append(rows[next][place]);
            }
            row.caret = carets[next];
        }
    }

    /** THE MACHINE, and the ITEMS of what it has gone through. */
    private static final class Reading {
        private final int[] lead = new int[ROW_LIMIT];
        private final int[] middle = new int[ROW_LIMIT];
        /** 0 of a BLOCK without one, ABSENT of what is no BLOCK. */
        private final int[] end = new int[ROW_LIMIT];
        /** The KEY of what is ALONE, else ABSENT. */
        private final int[] lone = new int[ROW_LIMIT];
        private final int[] first = new int[ROW_LIMIT];
        private final int[] keys = new int[ROW_LIMIT];
        private final int[] owners = new int[ROW_LIMIT];
        private final int[] roles = new int[ROW_LIMIT];
        private final int[] stolen = new int[ROW_LIMIT];
        private int items = 0;
        private int places = 0;
        private int stolenKeys = 0;
        /** Whether the latest ITEM is OPEN. */
        private boolean open = false;

        void clear() {
            items = 0;
            places = 0;
            stolenKeys = 0;
            open = false;
        }

        /** As if THE MACHINE had just made this one ITEM, and it were OPEN. */
        void standAt(int itsLead, int itsMiddle, int itsEnd) {
            clear();
            begin(itsLead, itsMiddle, ABSENT, ROLE_LEAD);
            end[0] = itsEnd;
            places = 1;
        }

        void take(Script script, int sign) {
            if (places >= ROW_LIMIT || items >= ROW_LIMIT) {
                return;
            }
            owners[places] = ABSENT;
            roles[places] = ABSENT;
            stolen[places] = 0;
            switch (script.sortOfKey(sign)) {
                case NONE:
                    open = false;
                    break;
                case OLD_LINE:
                    begin(ABSENT, ABSENT, sign, ROLE_ALONE);
                    break;
                case VOWEL_LINE:
                    takeVowel(script, sign);
                    break;
                default:
                    takeConsonant(script, sign);
                    break;
            }
            places++;
        }

        private void takeConsonant(Script script, int key) {
            int i = items - 1;
            int sort = open ? sortOf(i) : NONE;
            if (sort == LEAD_ALONE) {
                int twin = script.leads.numberWith(lead[i], key);
                if (twin != ABSENT) {
                    lead[i] = twin;
                    join(ROLE_LEAD);
                    return;
                }
            }
            if (sort == BLOCK) {
                int joined = end[i] == 0 ? script.ends.numberOf(key) : script.ends.numberWith(end[i], key);
                if (joined != ABSENT) {
                    end[i] = joined;
                    join(ROLE_END);
                    return;
                }
            }
            int itsLead = script.leads.numberOf(key);
            if (itsLead == ABSENT) {
                begin(ABSENT, ABSENT, key, ROLE_ALONE);
            } else {
                begin(itsLead, ABSENT, ABSENT, ROLE_LEAD);
            }
        }

        private void takeVowel(Script script, int key) {
            int i = items - 1;
            int sort = open ? sortOf(i) : NONE;
            int itsMiddle = script.middles.numberOf(key);
            if (sort == LEAD_ALONE) {
                middle[i] = itsMiddle;
                end[i] = 0;
                join(ROLE_MIDDLE);
                return;
            }
            if (sort == BLOCK && end[i] > 0) {
                int stolenLead = script.leads.numberOf(script.ends.latestKey(end[i]));
                if (stolenLead != ABSENT) {
                    end[i] = script.ends.numberWithoutLatest(end[i]);
                    begin(stolenLead, itsMiddle, ABSENT, ROLE_MIDDLE);
                    steal();
                    return;
                }
            } else if (sort != NONE) {
                int joined = script.middles.numberWith(middle[i], key);
                if (joined != ABSENT) {
                    middle[i] = joined;
                    join(ROLE_MIDDLE);
                    return;
                }
            }
            begin(ABSENT, itsMiddle, ABSENT, ROLE_MIDDLE);
        }

        private void begin(int itsLead, int itsMiddle, int itsLone, int role) {
            if (items >= ROW_LIMIT || places >= ROW_LIMIT) {
                return;
            }
            lead[items] = itsLead;
            middle[items] = itsMiddle;
            end[items] = itsLead == ABSENT || itsMiddle == ABSENT ? ABSENT : 0;
            lone[items] = itsLone;
            first[items] = places;
            keys[items] = 1;
            owners[places] = items;
            roles[places] = role;
            items++;
            open = itsLone == ABSENT;
        }

        /** The KEY at hand is of the latest ITEM. */
        private void join(int role) {
            if (items > 0 && places < ROW_LIMIT) {
                owners[places] = items - 1;
                roles[places] = role;
                keys[items - 1]++;
            }
        }

        /** The KEY just ahead of the latest ITEM becomes its LEAD. */
        private void steal() {
            int thief = items - 1;
            int place = places - 1;
            if (thief < 1 || place < 0) {
                return;
            }
            keys[thief - 1]--;
            keys[thief]++;
            first[thief] = place;
            owners[place] = thief;
            roles[place] = ROLE_LEAD;
            stolen[place] = 1;
            stolenKeys++;
        }

        boolean hasItem(int i) {
            return i >= 0 && i < items;
        }

        int sortOf(int i) {
            if (i < 0 || i >= items) {
                return NONE;
            }
            if (lone[i] != ABSENT) {
                return ALONE;
            }
            if (lead[i] == ABSENT) {
                return MIDDLE_ALONE;
            }
            return middle[i] == ABSENT ? LEAD_ALONE : BLOCK;
        }

        int codeAt(Script script, int i) {
            return sortOf(i) == BLOCK ? script.codeOf(lead[i], middle[i], end[i]) : ABSENT;
        }

        int placeOf(int i) {
            return hasItem(i) ? first[i] : 0;
        }

        int placeBehind(int i) {
            return hasItem(i) ? first[i] + keys[i] : 0;
        }

        int blocks() {
            int found = 0;
            for (int i = 0; i < items; i++) {
                if (sortOf(i) == BLOCK) {
                    found++;
                }
            }
            return found;
        }

        int itemFact(Script script, int i, int what) {
            if (!hasItem(i)) {
                return ABSENT;
            }
            switch (what) {
                case 0:
                    return sortOf(i);
                case 1:
                    return lead[i];
                case 2:
                    return middle[i];
                case 3:
                    return end[i];
                case 4:
                    return codeAt(script, i);
                case 5:
                    return first[i];
                default:
                    return keys[i];
            }
        }

        int placeFact(int place, int what) {
            if (place < 0 || place >= places) {
                return ABSENT;
            }
            switch (what) {
                case 0:
                    return owners[place];
                case 1:
                    return stolen[place];
                default:
                    return roles[place];
            }
        }

        /** The SORT needs no look of its own: it follows from which of these are ABSENT. */
        boolean like(int i, Reading other, int j) {
            return hasItem(i) && other.hasItem(j)
                    && lead[i] == other.lead[j] && middle[i] == other.middle[j]
                    && end[i] == other.end[j] && lone[i] == other.lone[j];
        }

        int alikeAtFirst(Reading other) {
            int alike = 0;
            while (alike < items && alike < other.items && like(alike, other, alike)) {
                alike++;
            }
            return alike;
        }

        /** How many of the last ITEMS are LIKE, not counting so many first ones of each. */
        int alikeAtLast(Reading other, int firstOnes) {
            int left = Math.min(items, other.items) - firstOnes;
            int alike = 0;
            while (alike < left && like(items - 1 - alike, other, other.items - 1 - alike)) {
                alike++;
            }
            return alike;
        }
    }

    /**
     * Counts rows of KEYS by what THE MACHINE has OPEN behind them. Of what is OPEN only as much
     * is kept as later KEYS can tell apart: of a LEAD alone that, of a MIDDLE without an END that
     * and whether it has a LEAD, of an END that.
     */
    private static final class Tally {
        private static final int NOTHING_STATE = 0;
        private static final int LEAD_STATE = 1;
        private static final int MIDDLE_STATE = LEAD_STATE + LEAD_LIMIT;
        private static final int BLOCK_STATE = MIDDLE_STATE + MIDDLE_LIMIT;
        private static final int END_STATE = BLOCK_STATE + MIDDLE_LIMIT;
        private static final int STATES = END_STATE + END_LIMIT;
        private static final int COLUMNS = COUNT_LIMIT + 1;

        /** Of a state and a letter: twice the state behind it, and 1 if there is an ITEM more. */
        private final int[][] moves = new int[STATES][LETTERS];
        /** Of a state and a number of ITEMS: how many rows. */
        private long[][] rows = new long[STATES][COLUMNS];
        private long[][] longerRows = new long[STATES][COLUMNS];
        /** Of a state: how many rows of which all ITEMS are BLOCKS, or the last, OPEN, may be one yet. */
        private long[] blockRows = new long[STATES];
        private long[] longerBlockRows = new long[STATES];
        private final long[][] rowsByItems = new long[COLUMNS][COLUMNS];
        private final long[] rowsWhole = new long[COLUMNS];
        private boolean prepared = false;

        void clear() {
            prepared = false;
        }

        long rowsWith(int n, int items) {
            boolean known = n >= 0 && n < COLUMNS && items >= 0 && items < COLUMNS;
            return known ? rowsByItems[n][items] : NONE;
        }

        long rowsOfBlocks(int n) {
            return n >= 0 && n < COLUMNS ? rowsWhole[n] : NONE;
        }

        /** All counts of one SCRIPT are made at once, when the first is asked for. */
        void prepare(Script script, Reading machine) {
            if (prepared) {
                return;
            }
            findMoves(script, machine);
            clearRows(rows);
            Arrays.fill(blockRows, 0);
            rows[NOTHING_STATE][0] = 1;
            blockRows[NOTHING_STATE] = 1;
            note(0);
            for (int n = 1; n <= COUNT_LIMIT; n++) {
                lengthen(n);
                note(n);
            }
            prepared = true;
        }

        private void findMoves(Script script, Reading machine) {
            for (int state = 0; state < STATES; state++) {
                for (int letter = 0; letter < LETTERS; letter++) {
                    int key = FIRST_LETTER + letter;
                    moves[state][letter] = NONE;
                    if (script.isKey(key) && stand(script, machine, state)) {
                        int before = machine.items;
                        machine.take(script, key);
                        moves[state][letter] = 2 * stateOf(machine) + machine.items - before;
                    }
                }
            }
        }

        /** Brings THE MACHINE into a state; false: THE SCRIPT has no such one. */
        private boolean stand(Script script, Reading machine, int state) {
            if (state == NOTHING_STATE) {
                machine.clear();
                return true;
            }
            if (state < MIDDLE_STATE) {
                machine.standAt(state - LEAD_STATE, ABSENT, ABSENT);
                return script.leads.has(state - LEAD_STATE);
            }
            if (state < BLOCK_STATE) {
                machine.standAt(ABSENT, state - MIDDLE_STATE, ABSENT);
                return script.middles.has(state - MIDDLE_STATE);
            }
            if (state < END_STATE) {
                machine.standAt(0, state - BLOCK_STATE, 0);
                return script.middles.has(state - BLOCK_STATE);
            }
            machine.standAt(0, 0, state - END_STATE);
            return script.ends.has(state - END_STATE);
        }

        private int stateOf(Reading machine) {
            int i = machine.items - 1;
            if (!machine.open || !machine.hasItem(i)) {
                return NOTHING_STATE;
            }
            switch (machine.sortOf(i)) {
                case LEAD_ALONE:
                    return LEAD_STATE + machine.lead[i];
                case MIDDLE_ALONE:
                    return MIDDLE_STATE + machine.middle[i];
                default:
                    return machine.end[i] == 0 ? BLOCK_STATE + machine.middle[i] : END_STATE + machine.end[i];
            }
        }

        private void clearRows(long[][] table) {
            for (int state = 0; state < STATES && state < table.length; state++) {
                Arrays.fill(table[state], 0);
            }
        }

        /** Puts an n-th KEY, each in turn, behind all rows. */
        private void lengthen(int n) {
            clearRows(longerRows);
            Arrays.fill(longerBlockRows, 0);
            for (int state = 0; state < STATES; state++) {
                for (int letter = 0; letter < LETTERS; letter++) {
                    int move = moves[state][letter];
                    if (move >= 0 && move < 2 * STATES) {
                        pass(n, state, move >> 1, move & 1);
                    }
                }
            }
            long[][] table = rows;
            rows = longerRows;
            longerRows = table;
            long[] list = blockRows;
            blockRows = longerBlockRows;
            longerBlockRows = list;
        }

        /** Rows of fewer than n KEYS have fewer than n ITEMS. */
        private void pass(int n, int state, int next, int more) {
            for (int items = 0; items < n && items + more < COLUMNS; items++) {
                longerRows[next][items + more] += rows[state][items];
            }
            boolean leadLeftAlone = isLeadState(state) && more == 1;
            if (!leadLeftAlone && (isLeadState(next) || isBlockState(next))) {
                longerBlockRows[next] += blockRows[state];
            }
        }

        private boolean isLeadState(int state) {
            return state >= LEAD_STATE && state < MIDDLE_STATE;
        }

        private boolean isBlockState(int state) {
            return state >= BLOCK_STATE;
        }

        private void note(int n) {
            if (n < 0 || n >= COLUMNS) {
                return;
            }
            Arrays.fill(rowsByItems[n], 0);
            rowsWhole[n] = 0;
            for (int state = 0; state < STATES; state++) {
                for (int items = 0; items < COLUMNS; items++) {
                    rowsByItems[n][items] += rows[state][items];
                }
                if (!isLeadState(state)) {
                    rowsWhole[n] += blockRows[state];
                }
            }
        }
    }
}
