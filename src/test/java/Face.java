import java.nio.charset.StandardCharsets;

/** Calls of the face by name, and texts put on THE TAPE. */
final class Face {
    private Face() {
    }

    static long call(StolenFinals x, String name, int... a) {
        switch (name) {
            case "feed": return x.feed(a[0], a[1], a[2], a[3], a[4]);
            case "script": return x.script(a[0]);
            case "fault": return x.fault();
            case "where": return x.where();
            case "about": return x.about(a[0]);
            case "letter": return x.letter(a[0], a[1]);
            case "code": return x.code(a[0], a[1], a[2]);
            case "parts": return x.parts(a[0], a[1]);
            case "spelt": return x.spelt(a[0], a[1]);
            case "key": return x.key(a[0]);
            case "brk": return x.brk();
            case "type": return x.type(a[0]);
            case "back": return x.back();
            case "del": return x.del();
            case "goes": return x.goes(a[0]);
            case "tidy": return x.tidy();
            case "codes": return x.codes(a[0]);
            case "undo": return x.undo();
            case "at": return x.at(a[0]);
            case "of": return x.of(a[0], a[1]);
            case "item": return x.item(a[0], a[1]);
            case "within": return x.within();
            case "needed": return x.needed(a[0]);
            case "bare": return x.bare();
            case "would": return x.would(a[0], a[1]);
            case "seek": return x.seek(a[0], a[1]);
            case "ranked": return x.ranked(a[0]);
            case "ways": return x.ways(a[0], a[1]);
            case "whole": return x.whole(a[0]);
            case "told": return x.told(a[0], a[1]);
            case "size": return x.size();
            case "trouble": return x.trouble();
            default: throw new IllegalArgumentException(name);
        }
    }

    /** The numbers that feed() must be given for these bytes, five for each twenty; blanks fill up. */
    static int[][] feedsOf(byte[] bytes) {
        int[][] feeds = new int[(bytes.length + 19) / 20][5];
        for (int i = 0; i < feeds.length * 20; i++) {
            int b = i < bytes.length ? bytes[i] & 255 : 32;
            feeds[i / 20][i % 20 / 4] |= b << 24 - 8 * (i % 4);
        }
        return feeds;
    }

    static byte[] bytesOf(String text) {
        return text.getBytes(StandardCharsets.ISO_8859_1);
    }

    /** Feeds a text; how many bytes it has itself. */
    static int feed(StolenFinals x, String text) {
        for (int[] f : feedsOf(bytesOf(text))) {
            x.feed(f[0], f[1], f[2], f[3], f[4]);
        }
        return text.length();
    }

    static int script(StolenFinals x, String text) {
        return x.script(feed(x, text));
    }

    static int type(StolenFinals x, String signs) {
        return x.type(feed(x, signs));
    }

    static int codes(StolenFinals x, int... codes) {
        StringBuilder text = new StringBuilder();
        for (int code : codes) {
            text.append((char) (code >> 8 & 255)).append((char) (code & 255));
        }
        return x.codes(feed(x, text.toString()));
    }

    static int seek(StolenFinals x, String keys, int from) {
        return x.seek(feed(x, keys), from);
    }

    /** THE ROW as a text. */
    static String row(StolenFinals x) {
        StringBuilder text = new StringBuilder();
        int count = x.about(6);
        for (int place = 0; place < count; place++) {
            text.append((char) x.at(place));
        }
        return text.toString();
    }
}
