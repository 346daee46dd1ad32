import java.io.IOException;
import java.nio.charset.StandardCharsets;
import java.nio.file.Files;
import java.nio.file.Path;

/** What the tests of edges share: each test names the document's sentence that it holds to. */
final class Check {
    static final int BAD = -1, STATE = -2, FULL = -3, NOT_SO_MANY = -5, NONE = -9, NO = -1000000;
    /** Numbers that are nothing's, the ends of int and those that wrap around among them. */
    static final int[] FAR = {Integer.MIN_VALUE, Integer.MIN_VALUE + 1, -65536, -256, -17, 256, 65536,
        Integer.MAX_VALUE - 1, Integer.MAX_VALUE};

    private static final Path DOCUMENT = Path.of("../shared/DOC.md");

    private static String document = null;
    private static String sentence = "";
    private static int sentences = 0;
    private static int wrong = 0;

    private Check() {
    }

    /** The words are the document's own, so that a test can't be of a sentence that is not there. */
    static void sentence(String words) {
        sentence = words;
        sentences++;
        if (!document().contains(asOneLine(words))) {
            fail("the document has no such words");
        }
    }

    /** The whole document as one line. */
    static String document() {
        if (document == null) {
            document = asOneLine(readDocument());
        }
        return document;
    }

    private static String readDocument() {
        try {
            return Files.readString(DOCUMENT);
        } catch (IOException e) {
            fail("the document can't be read: " + e);
            return "";
        }
    }

    private static String asOneLine(String words) {
        return words.replaceAll("\\s+", " ");
    }

    private static void fail(String what) {
        wrong++;
        System.out.println("\"" + sentence + "\": " + what);
    }

    static void due(String call, long got, long want) {
        if (got != want) {
            fail(call + " answered " + got + ", due is " + want);
        }
    }

    static void due(String call, String got, String want) {
        if (!got.equals(want)) {
            fail(call + " is " + got + ", due is " + want);
        }
    }

    static void end() {
        System.out.println(wrong == 0 ? sentences + " sentences hold" : wrong + " answers are not as due");
        if (wrong != 0) {
            System.exit(1);
        }
    }

    // ---- the text

    static void type(FoldedMap m, String text) {
        byte[] bytes = text.getBytes(StandardCharsets.ISO_8859_1);
        for (int i = 0; i < bytes.length; i += 8) {
            int n = Math.min(8, bytes.length - i);
            long v = 0;
            for (int k = 0; k < n; k++) {
                v = v << 8 | bytes[i + k] & 255;
            }
            due("type of '" + text + "'", m.type(v, n), Math.min(i + 8, bytes.length));
        }
    }

    static int mapOf(FoldedMap m, String text) {
        m.clear();
        type(m, text);
        return m.map();
    }

    static FoldedMap read(String text) {
        FoldedMap m = new FoldedMap();
        due("map() of '" + text + "' is without fault", Math.min(0, mapOf(m, text)), 0);
        return m;
    }

    static void dueItems(String text, int items) {
        FoldedMap m = new FoldedMap();
        due("map() of '" + text + "'", mapOf(m, text), items);
        due("count(7) behind '" + text + "'", m.count(7), 0);
    }

    static void dueFault(String text, int place) {
        FoldedMap m = new FoldedMap();
        due("map() of '" + text + "'", mapOf(m, text), -10 - place);
        due("count(7) behind '" + text + "'", m.count(7), text.length());
    }

    // ---- folds

    static int fold(FoldedMap m, int number) {
        return m.fold(number & 1, (number >> 3) + 1, number >> 1 & 1, number >> 2 & 1);
    }

    /** A map read and folded by the numbers that plans are told by. */
    static FoldedMap folded(String text, int... numbers) {
        FoldedMap m = read(text);
        for (int number : numbers) {
            due("fold " + number + " of '" + text + "' is not refused", Math.min(0, fold(m, number)), 0);
        }
        return m;
    }

    /** The packet: cells of a place from the lowest, ' behind those that lie FRONT down. */
    static String drawn(FoldedMap m) {
        StringBuilder all = new StringBuilder();
        for (int y = 0; m.at(0, y, 0) != NONE && y < 9; y++) {
            all.append(y == 0 ? "" : " / ");
            for (int x = 0; m.at(x, y, 0) != NONE && x < 9; x++) {
                all.append(x == 0 ? "" : " | ");
                for (int layer = 0; m.at(x, y, layer) != NONE && layer < 99; layer++) {
                    int c = m.at(x, y, layer);
                    all.append(layer == 0 ? "" : " ").append(c).append(m.cell(c, 3) == 1 ? "" : "'");
                }
            }
        }
        return all.toString();
    }

    static void dueDrawn(FoldedMap m, String want) {
        due("the packet", drawn(m), want);
    }

    // ---- all that can be asked, in fewer than 150 calls

    static String allOf(FoldedMap m) {
        StringBuilder all = new StringBuilder();
        for (int what = 0; what <= 7; what++) {
            all.append(m.count(what)).append(' ');
        }
        for (int what = 0; what <= 4; what++) {
            all.append(m.packet(what)).append(' ');
        }
        int wide = m.count(0);
        int cells = wide * m.count(1);
        for (int c = 0; c < cells; c++) {
            all.append(": ");
            for (int what = 0; what <= 5; what++) {
                all.append(m.cell(c, what)).append(' ');
            }
            all.append(c + 1 < cells && (c + 1) % wide != 0 ? m.bent(c, c + 1) : 0).append(' ');
            all.append(c + wide < cells ? m.bent(c, c + wide) : 0).append(' ');
        }
        return all.append(m.fits(1)).append(' ').append(m.fits(2)).append(' ').append(m.trace()).toString();
    }

    static void dueSame(String call, FoldedMap m, String before) {
        due("all behind " + call, allOf(m), before);
    }
}
