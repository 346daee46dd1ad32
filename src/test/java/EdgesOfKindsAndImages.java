/** The sentences of "Terms", section 4, that name a boundary: kinds, the trace, images, what is read anew. */
public final class EdgesOfKindsAndImages {
    private static final int CELL = 0, WELL = 1, HERMIT = 2, LIGHT = 3, FOLDER = 4, DUKE = 5;

    /** Stacked 3 0' 1 2' in the third day: 1 lies front to front with 2, in layer 2. */
    private static FoldedMap stacked() {
        FoldedMap m = Check.read("map 4 1;worth 0 0;worth 1 5;worth 2 7;worth 3 9;");
        m.day();
        m.day();
        m.day();
        Check.fold(m, 12);
        Check.fold(m, 4);
        Check.dueDrawn(m, "3 0' 1 2'");
        return m;
    }

    private static void dueRate(FoldedMap m, int kind, int c, int rate, long added) {
        long before = m.trace();
        Check.due("rate(" + kind + ", " + c + ")", m.rate(kind, c), rate);
        Check.due("what rate(" + kind + ", " + c + ") adds to trace()", m.trace() - before, added);
    }

    private static void cellIsItsWorth() {
        Check.sentence("CELL its WORTH (1).");
        dueRate(stacked(), CELL, 1, 5, 1);
        dueRate(stacked(), CELL, 0, 0, 1);
        dueRate(new FoldedMap(), CELL, 5, 1, 1);
    }

    private static void wellAddsItsGain() {
        Check.sentence("WELL up, and its GAIN (10).");
        dueRate(stacked(), WELL, 1, 5 + 7, 11);
        dueRate(stacked(), WELL, 3, 9, 11);
        dueRate(stacked(), WELL, 0, 9, 11);
        dueRate(new FoldedMap(), WELL, 0, 1, 11);
    }

    private static void hermitIsLessItsLayer() {
        Check.sentence("HERMIT up less its LAYER (100).");
        dueRate(stacked(), HERMIT, 1, 5 - 2, 101);
        dueRate(stacked(), HERMIT, 3, 9, 101);
        dueRate(stacked(), HERMIT, 0, -1, 101);
        FoldedMap most = Check.folded("map 4 4;worth 0 0;tear 9;", 0, 0, 0, 1, 1, 1);
        for (int c = 0; c < 16; c++) {
            int worth = c == 0 ? 0 : 1;
            dueRate(most, HERMIT, c, worth - most.cell(c, 2), 101);
        }
    }

    private static void lightIsTwiceTheWell() {
        Check.sentence("LIGHT twice up (1000).");
        dueRate(stacked(), LIGHT, 1, 2 * (5 + 7), 1011);
        dueRate(stacked(), LIGHT, 0, 2 * 9, 1011);
        dueRate(new FoldedMap(), LIGHT, 0, 2, 1011);
    }

    private static void folderAddsFolds() {
        Check.sentence("FOLDER up, and how many FOLDS may be UNDONE (10000).");
        FoldedMap m = stacked();
        dueRate(m, FOLDER, 1, 5 - 2 + 2, 10101);
        m.undo();
        dueRate(m, FOLDER, 1, 5 - 1 + 1, 10101);
        m.day();
        dueRate(m, FOLDER, 1, 5, 10101);
    }

    private static void dukeAddsTheDay() {
        Check.sentence("DUKE up, and the DAY (100000).");
        FoldedMap m = stacked();
        dueRate(m, DUKE, 1, 5 + 3, 100001);
        m.day();
        dueRate(m, DUKE, 1, 5 + 4, 100001);
        dueRate(new FoldedMap(), DUKE, 0, 1, 100001);
    }

    private static void kindsAreSix() {
        Check.sentence("KINDS of CELLS are over one another: 0 CELL; 1 WELL, 2 HERMIT, 5 DUKE (each under CELL); "
            + "3 LIGHT (under WELL); 4 FOLDER (under HERMIT).");
        FoldedMap m = stacked();
        dueRate(m, -1, 0, Check.NO, 0);
        dueRate(m, 6, 0, Check.NO, 0);
        for (int far : Check.FAR) {
            dueRate(m, far, 0, Check.NO, 0);
        }
        int[] rates = {5, 12, 3, 24, 5, 8};
        int[] added = {1, 11, 101, 1011, 10101, 100001};
        for (int kind = 0; kind < 6; kind++) {
            dueRate(m, kind, 1, rates[kind], added[kind]);
        }
    }

    private static void refusedRatesLeaveNoTrace() {
        Check.sentence("as often as rate() asks that body: each once");
        FoldedMap m = stacked();
        for (int kind = 0; kind < 6; kind++) {
            dueRate(m, kind, -1, Check.NO, 0);
            dueRate(m, kind, 4, Check.NO, 0);
        }
        for (int i = 0; i < 100; i++) {
            m.rate(DUKE, 0);
            m.rate(LIGHT, 0);
        }
        Check.due("trace()", m.trace(), 10000100L + 101100L);
        m.cell(1, 5);
        m.serves(1, -1);
        Check.due("trace(): only rate() adds", m.trace(), 10101200L);
    }

    private static void traceIsNoneAtFirst() {
        Check.sentence("are added to THE TRACE, 0 at first");
        Check.due("trace()", new FoldedMap().trace(), 0);
        new FoldedMap().rate(DUKE, 0);
        Check.due("trace() is each object's own", new FoldedMap().trace(), 0);
    }

    private static void imagesAreTwo() {
        Check.sentence("IMAGES 0, 1 keep NOW (THE PACKET, how CREASES are BENT, the DAY, what may be UNDONE)");
        FoldedMap m = Check.folded("map 3 1;tear 2;", 4);
        Check.due("keep(0)", m.keep(0), 0);
        m.day();
        Check.fold(m, 8);
        Check.fold(m, 0);
        Check.due("keep(1)", m.keep(1), 1);
        m.day();
        Check.due("back(0)", m.back(0), 0);
        Check.dueDrawn(m, "1 0' | 2");
        Check.due("bent(0, 1)", m.bent(0, 1), 1);
        Check.due("bent(1, 2)", m.bent(1, 2), 0);
        Check.due("count(5)", m.count(5), 0);
        Check.due("count(6)", m.count(6), 1);
        Check.due("back(1)", m.back(1), 1);
        Check.dueDrawn(m, "2' 1 0'");
        Check.due("bent(0, 1)", m.bent(0, 1), 2);
        Check.due("bent(1, 2)", m.bent(1, 2), 1);
        Check.due("count(6)", m.count(6), 2);
    }

    private static void whatMayBeUndoneIsKept() {
        Check.sentence("what may be UNDONE); nothing else.");
        FoldedMap m = Check.folded("map 4 1;tear 1;", 12, 4);
        m.keep(0);
        m.day();
        Check.due("undo()", m.undo(), Check.STATE);
        Check.due("back(0)", m.back(0), 0);
        Check.due("undo()", m.undo(), 1);
        Check.dueDrawn(m, "2 1' | 3 0'");
        Check.due("bent(0, 1)", m.bent(0, 1), 0);
        Check.due("undo()", m.undo(), 0);
        Check.due("bent(1, 2)", m.bent(1, 2), 0);
        Check.due("undo()", m.undo(), Check.STATE);
        m.keep(1);
        Check.fold(m, 0);
        Check.due("back(1)", m.back(1), 0);
        Check.due("undo(): nothing was to be undone", m.undo(), Check.STATE);
    }

    private static void nothingElseIsKept() {
        Check.sentence("nothing else. (Read anew:");
        FoldedMap m = new FoldedMap();
        m.keep(0);
        m.saw(0, 1);
        m.saw(1, 2);
        m.rate(CELL, 0);
        Check.type(m, "tear 7");
        m.keep(1);
        m.forget();
        m.saw(3, 4);
        m.back(0);
        Check.due("count(4): what is seen stays", m.count(4), 1);
        Check.due("count(7): the text stays", m.count(7), 6);
        Check.due("trace() goes on", m.trace(), 1);
        m.back(1);
        Check.due("count(4)", m.count(4), 1);
        Check.due("type(;)", m.type(';', 1), 7);
        Check.due("map()", m.map(), 1);
        Check.due("count(3)", m.count(3), 7);
    }

    private static void imagesStay() {
        Check.sentence("All of that becomes as an IMAGE has it: the DAY.");
        FoldedMap m = Check.folded("map 3 2;", 4);
        m.day();
        Check.fold(m, 1);
        m.keep(0);
        String kept = Check.allOf(m);
        m.undo();
        Check.fold(m, 0);
        m.day();
        Check.due("back(0)", m.back(0), 1);
        Check.dueSame("back(0)", m, kept);
        m.undo();
        m.day();
        Check.due("back(0) once more", m.back(0), 1);
        Check.dueSame("back(0) once more", m, kept);
        Check.due("day() goes on from the image's", m.day(), 2);
    }

    private static void anImageIsKeptAnew() {
        Check.sentence("An IMAGE is kept: the DAY. BAD.");
        FoldedMap m = new FoldedMap();
        Check.due("keep(1)", m.keep(1), 0);
        m.day();
        Check.fold(m, 4);
        Check.due("keep(1)", m.keep(1), 1);
        m.day();
        Check.due("back(1)", m.back(1), 1);
        Check.dueDrawn(m, "1 0' | 2 / 4 3' | 5");
        Check.due("back(0)", m.back(0), Check.STATE);
        Check.due("keep(-1)", m.keep(-1), Check.BAD);
        Check.due("keep(2)", m.keep(2), Check.BAD);
    }

    private static FoldedMap used() {
        FoldedMap m = Check.folded("map 4 3;worth 0 7;quarrel 0 1;tear 5;", 4, 5);
        m.day();
        Check.fold(m, 8);
        m.saw(0, 11);
        m.keep(0);
        m.keep(1);
        m.rate(LIGHT, 0);
        return m;
    }

    private static void whatIsNotToldIsAsAtFirst() {
        Check.sentence("as told (what is not told as at first)");
        FoldedMap m = used();
        Check.due("map()", Check.mapOf(m, "worth 1 4;"), 1);
        int[] counts = {3, 2, 0, 3};
        for (int what = 0; what < 4; what++) {
            Check.due("count(" + what + ")", m.count(what), counts[what]);
        }
        Check.due("cell(0, 4)", m.cell(0, 4), 1);
        Check.due("cell(1, 4)", m.cell(1, 4), 4);
        Check.due("map() of no item", Check.mapOf(m, ""), 0);
        Check.due("cell(1, 4)", m.cell(1, 4), 1);
    }

    private static void readAnewIsFlat() {
        Check.sentence("flat, DAY 0, no CREASE is BENT, nothing SEEN, IMAGES are gone, nothing can be UNDONE");
        FoldedMap m = used();
        Check.due("map()", Check.mapOf(m, "map 4 3;"), 1);
        Check.dueDrawn(m, "0 | 1 | 2 | 3 / 4 | 5 | 6 | 7 / 8 | 9 | 10 | 11");
        Check.due("count(5)", m.count(5), 0);
        for (int c = 0; c < 11; c++) {
            Check.due("bent", m.bent(c, c + 1), c % 4 == 3 ? Check.BAD : 0);
            Check.due("bent", m.bent(c, c + 4), c + 4 > 11 ? Check.BAD : 0);
        }
        Check.due("count(4)", m.count(4), 0);
        Check.due("fits(0)", m.fits(0), 1);
        Check.due("back(0)", m.back(0), Check.STATE);
        Check.due("back(1)", m.back(1), Check.STATE);
        Check.due("count(6)", m.count(6), 0);
        Check.due("undo()", m.undo(), Check.STATE);
        Check.due("keep(0)", m.keep(0), 0);
        Check.due("back(0)", m.back(0), 0);
    }

    private static void traceGoesOn() {
        Check.sentence("THE TRACE goes on, as behind undo(), back().)");
        FoldedMap m = used();
        Check.due("trace()", m.trace(), 1011);
        m.undo();
        Check.due("trace() behind undo()", m.trace(), 1011);
        m.back(0);
        Check.due("trace() behind back()", m.trace(), 1011);
        m.day();
        Check.due("trace() behind day()", m.trace(), 1011);
        Check.due("map()", Check.mapOf(m, "map 1 1;"), 1);
        Check.due("trace() behind map()", m.trace(), 1011);
        m.rate(CELL, 0);
        Check.due("trace()", m.trace(), 1012);
    }

    public static void main(String[] args) {
        cellIsItsWorth();
        wellAddsItsGain();
        hermitIsLessItsLayer();
        lightIsTwiceTheWell();
        folderAddsFolds();
        dukeAddsTheDay();
        kindsAreSix();
        refusedRatesLeaveNoTrace();
        traceIsNoneAtFirst();
        imagesAreTwo();
        whatMayBeUndoneIsKept();
        nothingElseIsKept();
        imagesStay();
        anImageIsKeptAnew();
        whatIsNotToldIsAsAtFirst();
        readAnewIsFlat();
        traceGoesOn();
        Check.end();
    }
}
