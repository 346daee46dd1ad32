/** The sentences of the promises that name a boundary, call by call, and the order of what is refused. */
public final class EdgesOfCalls {
    /** An object with something of everything: folds, worn creases, images, pairs seen, a text that is not ended. */
    private static FoldedMap used() {
        FoldedMap m = Check.folded("map 4 3;worth 5 6;quarrel 4 7;tear 1;", 4);
        m.keep(0);
        m.day();
        Check.fold(m, 12);
        m.keep(1);
        Check.fold(m, 5);
        for (int i = 0; i < 6; i++) {
            m.saw(4, 7);
        }
        m.rate(4, 5);
        Check.type(m, "tear 4; worth 0 3");
        return m;
    }

    /** What is still to come is a part of what must not change: what is undone, images, the text. */
    private static void dueAsUsed(FoldedMap m) {
        Check.dueSame("what was refused", m, Check.allOf(used()));
        Check.due("undo()", m.undo(), 1);
        Check.due("undo()", m.undo(), 0);
        Check.due("undo()", m.undo(), Check.STATE);
        Check.due("back(0)", m.back(0), 0);
        Check.due("count(6)", m.count(6), 1);
        Check.due("back(1)", m.back(1), 1);
        Check.due("count(6)", m.count(6), 1);
        Check.due("type(;)", m.type(';', 1), 18);
        Check.due("map()", m.map(), 2);
        Check.due("count(3)", m.count(3), 4);
        Check.due("cell(0, 4)", m.cell(0, 4), 3);
    }

    private static void aNewObject() {
        Check.sentence("`FoldedMap()`: As told; three by two, flat.");
        FoldedMap m = new FoldedMap();
        Check.dueDrawn(m, "0 | 1 | 2 / 3 | 4 | 5");
        int[] counts = {3, 2, 0, 3, 0, 0, 0, 0};
        for (int what = 0; what < 8; what++) {
            Check.due("count(" + what + ")", m.count(what), counts[what]);
        }
        for (int c = 0; c < 6; c++) {
            Check.due("cell(" + c + ", 4)", m.cell(c, 4), 1);
        }
        Check.due("trace()", m.trace(), 0);
    }

    private static void typeTakesOneToEight() {
        Check.sentence("The lowest n (1 .. 8) bytes of v, the highest of them first, come to THE TEXT: "
            + "how many it has. BAD; FULL.");
        for (int n : new int[] {Integer.MIN_VALUE, -8, -1, 0, 9, 16, 64, Integer.MAX_VALUE}) {
            FoldedMap m = used();
            Check.due("type(32, " + n + ")", m.type(32, n), Check.BAD);
            dueAsUsed(m);
        }
        // the bytes of "zztear4;" from the highest
        long bytes = 0x7A7A74656172343BL;
        FoldedMap m = new FoldedMap();
        Check.due("type(.., 6)", m.type(bytes, 6), 6);
        Check.due("map()", m.map(), 1);
        Check.due("type(.., 7)", m.type(bytes, 7), 7);
        Check.due("map()", m.map(), -10);
        Check.due("clear()", m.clear(), 7);
        Check.due("type(.., 1)", m.type(bytes, 1), 1);
        Check.due("map()", m.map(), -10);
        Check.due("clear()", m.clear(), 1);
        Check.due("type(\"tear  5;\", 8)", m.type(0x746561722020353BL, 8), 8);
        Check.due("map()", m.map(), 1);
        Check.due("count(3)", m.count(3), 5);
        Check.due("type(-1, 8): bytes 255", m.type(-1, 8), 8);
        Check.due("map()", m.map(), -10);
    }

    private static void typeUntilTheTextIsFull() {
        Check.sentence("come to THE TEXT: how many it has. BAD; FULL.");
        for (int n = 1; n <= 8; n++) {
            FoldedMap m = new FoldedMap();
            long blanks = 0x2020202020202020L;
            for (int had = 0; had + n <= 200; had += n) {
                Check.due("type(.., " + n + ")", m.type(blanks, n), had + n);
            }
            int left = 200 % n;
            Check.due("type(.., " + n + ") with room for " + left, m.type(blanks, n), Check.FULL);
            Check.due("count(7)", m.count(7), 200 - left);
            Check.due("type(.., 9): BAD is ahead of FULL", m.type(blanks, 9), Check.BAD);
            if (left > 0) {
                Check.due("type(.., " + left + ")", m.type(blanks, left), 200);
            }
            Check.due("type(.., 1)", m.type(blanks, 1), Check.FULL);
            Check.due("map(): nothing of what was refused is there", m.map(), 0);
        }
    }

    private static void clearOfAnEmptyText() {
        Check.sentence("THE TEXT is empty: how many bytes it had.");
        FoldedMap m = used();
        Check.due("clear()", m.clear(), 17);
        Check.due("clear()", m.clear(), 0);
        Check.due("count(6): nothing else is changed", m.count(6), 2);
        Check.due("count(2)", m.count(2), 1);
        FoldedMap full = new FoldedMap();
        Check.type(full, " ".repeat(200));
        Check.due("clear()", full.clear(), 200);
        Check.due("type(32, 1)", full.type(32, 1), 1);
    }

    private static void mapThatHasAFault() {
        Check.sentence("-10 less FAULT: nothing changes (THE TEXT stays, too).");
        FoldedMap m = used();
        Check.due("map()", m.map(), -10 - 17);
        Check.due("map() once more", m.map(), -10 - 17);
        dueAsUsed(m);
        FoldedMap empty = new FoldedMap();
        Check.due("type(;)", empty.type(';', 1), 1);
        Check.due("map(): a fault at place 0", empty.map(), -10);
        Check.due("clear()", empty.clear(), 1);
    }

    private static void mapEmptiesTheText() {
        Check.sentence("THE TEXT tells all anew, and is empty then: how many ITEMS.");
        FoldedMap m = new FoldedMap();
        Check.due("map()", Check.mapOf(m, "map 2 2;tear 1;"), 2);
        Check.due("count(7)", m.count(7), 0);
        Check.due("map() of an empty text", m.map(), 0);
        Check.due("count(0): what was told is told no more", m.count(0), 3);
        String most = "tear 1;" + "worth0 1;".repeat(21);
        Check.due("map() of the most items", Check.mapOf(m, most), 22);
    }

    private static void cellIsBad() {
        Check.sentence("Of a CELL: 0 x, 1 y, 2 LAYER, 3 whether its FRONT is up, 4 WORTH, 5 GAIN. BAD.");
        FoldedMap m = used();
        for (int what = 0; what <= 5; what++) {
            Check.due("cell(-1, " + what + ")", m.cell(-1, what), Check.BAD);
            Check.due("cell(12, " + what + ")", m.cell(12, what), Check.BAD);
            Check.due("cell(15, " + what + ")", m.cell(15, what), Check.BAD);
            Check.due("cell(16, " + what + ")", m.cell(16, what), Check.BAD);
        }
        Check.due("cell(0, -1)", m.cell(0, -1), Check.BAD);
        Check.due("cell(0, 6)", m.cell(0, 6), Check.BAD);
        for (int far : Check.FAR) {
            Check.due("cell(" + far + ", 0)", m.cell(far, 0), Check.BAD);
            Check.due("cell(0, " + far + ")", m.cell(0, far), Check.BAD);
        }
        // two by three places, four layers at the most: 5 lies on 6 and beneath 2
        int[] ofFive = {0, 0, 1, 0, 6, 1};
        for (int what = 0; what <= 5; what++) {
            Check.due("cell(5, " + what + ")", m.cell(5, what), ofFive[what]);
        }
    }

    private static void atIsBadBelowNone() {
        Check.sentence("Which CELL lies at a PLACE in a LAYER; NONE. BAD (a number below 0).");
        FoldedMap m = Check.folded("map 3 1;", 4);
        Check.due("at(0, 0, 1): the highest", m.at(0, 0, 1), 0);
        Check.due("at(0, 0, 2)", m.at(0, 0, 2), Check.NONE);
        Check.due("at(1, 0, 0): the last place", m.at(1, 0, 0), 2);
        Check.due("at(1, 0, 1)", m.at(1, 0, 1), Check.NONE);
        Check.due("at(2, 0, 0)", m.at(2, 0, 0), Check.NONE);
        Check.due("at(0, 1, 0)", m.at(0, 1, 0), Check.NONE);
        for (int far : Check.FAR) {
            int want = far < 0 ? Check.BAD : Check.NONE;
            Check.due("at(" + far + ", 0, 0)", m.at(far, 0, 0), want);
            Check.due("at(0, " + far + ", 0)", m.at(0, far, 0), want);
            Check.due("at(0, 0, " + far + ")", m.at(0, 0, far), want);
        }
        Check.due("at(-1, 0, 0)", m.at(-1, 0, 0), Check.BAD);
        Check.due("at(0, -1, 0)", m.at(0, -1, 0), Check.BAD);
        Check.due("at(0, 0, -1)", m.at(0, 0, -1), Check.BAD);
        Check.due("at(9, 9, -1): BAD, though there is no such place", m.at(9, 9, -1), Check.BAD);
    }

    private static void foldTellsTheThickest() {
        Check.sentence("A FOLD: how many LAYERS the thickest PLACE has.");
        FoldedMap m = Check.read("map 4 4;tear 9;");
        int[] numbers = {0, 0, 0, 1, 1, 1};
        // each first line lays one column, one row more on the next
        int[] layers = {2, 3, 4, 8, 12, 16};
        for (int i = 0; i < 6; i++) {
            Check.due("fold " + i, Check.fold(m, numbers[i]), layers[i]);
            Check.due("packet(2)", m.packet(2), layers[i]);
        }
    }

    private static void foldIsBad() {
        Check.sentence("BAD (AXIS, PART, OVER 0, 1; LINE 1 .. 3)");
        FoldedMap m = used();
        for (int no : new int[] {-1, 2, 3, 257, Integer.MIN_VALUE, Integer.MAX_VALUE}) {
            Check.due("fold(" + no + ", 1, 0, 0)", m.fold(no, 1, 0, 0), Check.BAD);
            Check.due("fold(0, 1, " + no + ", 0)", m.fold(0, 1, no, 0), Check.BAD);
            Check.due("fold(0, 1, 0, " + no + ")", m.fold(0, 1, 0, no), Check.BAD);
        }
        for (int no : new int[] {-1, 0, 4, 5, 257, Integer.MIN_VALUE, Integer.MAX_VALUE}) {
            Check.due("fold(0, " + no + ", 0, 0)", m.fold(0, no, 0, 0), Check.BAD);
            Check.due("fold(1, " + no + ", 1, 1)", m.fold(1, no, 1, 1), Check.BAD);
        }
        dueAsUsed(m);
    }

    private static void foldIsStateBeyondThePacket() {
        Check.sentence("STATE: LINE is not within THE PACKET");
        FoldedMap m = used();
        Check.due("packet(0)", m.packet(0), 2);
        Check.due("packet(1)", m.packet(1), 2);
        for (int axis = 0; axis < 2; axis++) {
            Check.due("fold(" + axis + ", 2, 0, 0)", m.fold(axis, 2, 0, 0), Check.STATE);
            Check.due("fold(" + axis + ", 3, 1, 1)", m.fold(axis, 3, 1, 1), Check.STATE);
        }
        dueAsUsed(m);
        FoldedMap one = Check.read("map 1 1;");
        for (int number = 0; number < 24; number++) {
            Check.due("fold " + number + " of one cell", Check.fold(one, number), Check.STATE);
        }
    }

    private static void foldIsStateWhereItWouldTear() {
        Check.sentence("a CREASE would TEAR.");
        FoldedMap m = used();
        for (int part = 0; part < 2; part++) {
            for (int over = 0; over < 2; over++) {
                Check.due("fold(0, 1, ..)", m.fold(0, 1, part, over), Check.STATE);
            }
        }
        dueAsUsed(m);
    }

    private static void undoIsState() {
        Check.sentence("UNDONE: how many more may be. STATE: none.");
        FoldedMap m = new FoldedMap();
        Check.due("undo() of a new object", m.undo(), Check.STATE);
        Check.fold(m, 4);
        Check.fold(m, 5);
        Check.due("a fold that is refused", m.fold(1, 1, 0, 0), Check.STATE);
        Check.due("undo()", m.undo(), 1);
        Check.due("undo()", m.undo(), 0);
        String before = Check.allOf(m);
        Check.due("undo()", m.undo(), Check.STATE);
        Check.dueSame("undo() of nothing", m, before);
    }

    private static void dayAfterDay() {
        Check.sentence("A DAY goes by: the DAY then.");
        FoldedMap m = new FoldedMap();
        for (int i = 1; i <= 500; i++) {
            Check.due("day()", m.day(), i);
        }
        Check.due("rate(5, 0)", m.rate(5, 0), 501);
        Check.due("keep(0)", m.keep(0), 500);
        Check.due("count(5)", m.count(5), 500);
    }

    private static void bentIsBad() {
        Check.sentence("How often the CREASE of two CELLS is BENT. BAD (not side by side in THE MAP, too).");
        FoldedMap m = used();
        Check.due("bent(1, 0)", m.bent(1, 0), 1);
        Check.due("bent(3, 4): the end of a row and the next one's begin", m.bent(3, 4), Check.BAD);
        Check.due("bent(0, 0)", m.bent(0, 0), Check.BAD);
        Check.due("bent(0, 2)", m.bent(0, 2), Check.BAD);
        Check.due("bent(0, 5)", m.bent(0, 5), Check.BAD);
        Check.due("bent(0, 8)", m.bent(0, 8), Check.BAD);
        Check.due("bent(11, 12)", m.bent(11, 12), Check.BAD);
        Check.due("bent(8, 12)", m.bent(8, 12), Check.BAD);
        Check.due("bent(12, 13)", m.bent(12, 13), Check.BAD);
        Check.due("bent(-1, 0)", m.bent(-1, 0), Check.BAD);
        Check.due("bent(-4, 0)", m.bent(-4, 0), Check.BAD);
        for (int far : Check.FAR) {
            Check.due("bent(" + far + ", 0)", m.bent(far, 0), Check.BAD);
            Check.due("bent(0, " + far + ")", m.bent(0, far), Check.BAD);
            Check.due("bent(" + far + ", 1 more)", m.bent(far, far + 1), Check.BAD);
        }
        // a smaller map has none of the creases that a larger one had
        Check.due("map()", Check.mapOf(m, "map 1 2;"), 1);
        Check.due("bent(0, 1)", m.bent(0, 1), 0);
        Check.due("bent(1, 2)", m.bent(1, 2), Check.BAD);
    }

    private static void touchIsBad() {
        Check.sentence("TOUCH. BAD (one and the same, too).");
        FoldedMap m = used();
        for (int c = 0; c < 12; c++) {
            Check.due("touch(" + c + ", " + c + ")", m.touch(c, c), Check.BAD);
        }
        Check.due("touch(0, 12)", m.touch(0, 12), Check.BAD);
        Check.due("touch(12, 0)", m.touch(12, 0), Check.BAD);
        Check.due("touch(-1, 0)", m.touch(-1, 0), Check.BAD);
        Check.due("touch(0, -1)", m.touch(0, -1), Check.BAD);
        for (int far : Check.FAR) {
            Check.due("touch(" + far + ", 0)", m.touch(far, 0), Check.BAD);
            Check.due("touch(0, " + far + ")", m.touch(0, far), Check.BAD);
        }
    }

    private static void packetIsBad() {
        Check.sentence("0 how wide THE PACKET is, 1 how high, 2 LAYERS of the thickest PLACE, 3 FOUGHT, "
            + "4 pairs of CELLS that TOUCH FRONT to FRONT. BAD.");
        FoldedMap m = used();
        int[] told = {2, 2, 4, 1, 6};
        for (int what = 0; what <= 4; what++) {
            Check.due("packet(" + what + ")", m.packet(what), told[what]);
        }
        Check.due("packet(-1)", m.packet(-1), Check.BAD);
        Check.due("packet(5)", m.packet(5), Check.BAD);
        for (int far : Check.FAR) {
            Check.due("packet(" + far + ")", m.packet(far), Check.BAD);
        }
        FoldedMap one = Check.read("map 1 1;");
        int[] ofOne = {1, 1, 1, 0, 0};
        for (int what = 0; what <= 4; what++) {
            Check.due("packet(" + what + ") of one cell", one.packet(what), ofOne[what]);
        }
        FoldedMap most = Check.read("map 4 4;");
        Check.due("packet(4) of the most cells", most.packet(4), 0);
        Check.fold(most, 12);
        Check.due("packet(4)", most.packet(4), 8);
        Check.due("map() of fewer cells", Check.mapOf(most, "map 2 1;"), 1);
        Check.fold(most, 4);
        Check.due("packet(4): cells that are no more touch none", most.packet(4), 1);
    }

    private static void reachIsBad() {
        Check.sentence("BAD (one and the same, too). ## Promise 14");
        FoldedMap m = used();
        for (int i : new int[] {-1, 0, 3}) {
            Check.due("reach(5, 5, " + i + ")", m.reach(5, 5, i), Check.BAD);
            Check.due("reach(0, 12, " + i + ")", m.reach(0, 12, i), Check.BAD);
            Check.due("reach(12, 0, " + i + ")", m.reach(12, 0, i), Check.BAD);
            Check.due("reach(-1, 0, " + i + ")", m.reach(-1, 0, i), Check.BAD);
            Check.due("reach(0, -1, " + i + ")", m.reach(0, -1, i), Check.BAD);
        }
        for (int far : Check.FAR) {
            Check.due("reach(" + far + ", 0, -1)", m.reach(far, 0, -1), Check.BAD);
            Check.due("reach(0, " + far + ", -1)", m.reach(0, far, -1), Check.BAD);
        }
    }

    private static void servesIsBad() {
        Check.sentence("(-5: not so many). BAD.");
        FoldedMap m = used();
        for (int i : new int[] {-1, 0, 3}) {
            Check.due("serves(12, " + i + ")", m.serves(12, i), Check.BAD);
            Check.due("serves(-1, " + i + ")", m.serves(-1, i), Check.BAD);
        }
        for (int far : Check.FAR) {
            Check.due("serves(" + far + ", -1)", m.serves(far, -1), Check.BAD);
        }
    }

    private static void sawIsBad() {
        Check.sentence("SEEN: how much there is. BAD (one and the same, too); FULL.");
        FoldedMap m = used();
        Check.due("saw(5, 5): BAD is ahead of FULL", m.saw(5, 5), Check.BAD);
        Check.due("saw(0, 12)", m.saw(0, 12), Check.BAD);
        Check.due("saw(12, 0)", m.saw(12, 0), Check.BAD);
        Check.due("saw(-1, 0)", m.saw(-1, 0), Check.BAD);
        Check.due("saw(0, -1)", m.saw(0, -1), Check.BAD);
        for (int far : Check.FAR) {
            Check.due("saw(" + far + ", 0)", m.saw(far, 0), Check.BAD);
            Check.due("saw(0, " + far + ")", m.saw(0, far), Check.BAD);
        }
        Check.due("saw(0, 1)", m.saw(0, 1), Check.FULL);
        dueAsUsed(m);
    }

    private static void forgetOfNothing() {
        Check.sentence("Nothing was SEEN: how much there was.");
        FoldedMap m = used();
        Check.due("forget()", m.forget(), 6);
        Check.due("forget()", m.forget(), 0);
        Check.due("count(4)", m.count(4), 0);
        Check.due("fits(0)", m.fits(0), 1);
        Check.due("count(6): nothing else is changed", m.count(6), 2);
    }

    private static void fitsIsBad() {
        Check.sentence("FITS. BAD.");
        FoldedMap m = used();
        Check.due("fits(-1)", m.fits(-1), Check.BAD);
        Check.due("fits(3)", m.fits(3), Check.BAD);
        for (int far : Check.FAR) {
            Check.due("fits(" + far + ")", m.fits(far), Check.BAD);
        }
        Check.due("fits(0)", m.fits(0), 0);
        Check.due("fits(1): 4 and 7 by the second line alone", m.fits(1), 4);
    }

    private static void rateIsNo() {
        Check.sentence("RATE. NO: BAD.");
        FoldedMap m = used();
        for (int kind = 0; kind < 6; kind++) {
            Check.due("rate(" + kind + ", 12)", m.rate(kind, 12), Check.NO);
            Check.due("rate(" + kind + ", -1)", m.rate(kind, -1), Check.NO);
        }
        for (int far : Check.FAR) {
            Check.due("rate(" + far + ", 0)", m.rate(far, 0), Check.NO);
            Check.due("rate(0, " + far + ")", m.rate(0, far), Check.NO);
        }
        Check.due("rate(-1, 0)", m.rate(-1, 0), Check.NO);
        Check.due("rate(6, 0)", m.rate(6, 0), Check.NO);
        dueAsUsed(m);
    }

    private static void keepIsBad() {
        Check.sentence("An IMAGE is kept: the DAY. BAD.");
        FoldedMap m = used();
        Check.due("keep(-1)", m.keep(-1), Check.BAD);
        Check.due("keep(2)", m.keep(2), Check.BAD);
        for (int far : Check.FAR) {
            Check.due("keep(" + far + ")", m.keep(far), Check.BAD);
        }
        dueAsUsed(m);
    }

    private static void backIsBadOrState() {
        Check.sentence("BAD; STATE: none was kept.");
        FoldedMap m = used();
        Check.due("back(-1)", m.back(-1), Check.BAD);
        Check.due("back(2)", m.back(2), Check.BAD);
        for (int far : Check.FAR) {
            Check.due("back(" + far + ")", m.back(far), Check.BAD);
        }
        dueAsUsed(m);
        FoldedMap none = Check.folded("map 4 3;", 4);
        String before = Check.allOf(none);
        Check.due("back(0)", none.back(0), Check.STATE);
        Check.due("back(1)", none.back(1), Check.STATE);
        Check.due("back(2): BAD is ahead of STATE", none.back(2), Check.BAD);
        Check.dueSame("back() to nothing", none, before);
        none.keep(1);
        Check.due("back(0): only the other was kept", none.back(0), Check.STATE);
        Check.due("back(1)", none.back(1), 0);
    }

    private static void countIsBad() {
        Check.sentence("0 WIDE, 1 HIGH, 2 QUARRELS, 3 TEAR, 4 SEEN, 5 the DAY, 6 how many FOLDS may be UNDONE, "
            + "7 bytes of THE TEXT. BAD.");
        FoldedMap m = used();
        int[] told = {4, 3, 1, 1, 6, 1, 2, 17};
        for (int what = 0; what <= 7; what++) {
            Check.due("count(" + what + ")", m.count(what), told[what]);
        }
        Check.due("count(-1)", m.count(-1), Check.BAD);
        Check.due("count(8)", m.count(8), Check.BAD);
        for (int far : Check.FAR) {
            Check.due("count(" + far + ")", m.count(far), Check.BAD);
        }
    }

    private static void traceOfManyCalls() {
        Check.sentence("`long trace()`: THE TRACE.");
        FoldedMap m = new FoldedMap();
        for (int i = 0; i < 511; i++) {
            m.rate(5, i % 6);
        }
        Check.due("trace()", m.trace(), 51100511L);
    }

    private static void orderOfWhatIsRefused() {
        Check.sentence("Refused, and nothing changes, the first of these: BAD (a number is not as told, or there is "
            + "no such thing), STATE (as told), FULL.");
        FoldedMap m = Check.folded("map 4 1;tear 1;", 8, 0);
        Check.due("fold(0, 4, 0, 0)", m.fold(0, 4, 0, 0), Check.BAD);
        Check.due("fold(0, 3, 2, 0)", m.fold(0, 3, 2, 0), Check.BAD);
        Check.due("fold(1, 1, 0, 2)", m.fold(1, 1, 0, 2), Check.BAD);
        m.day();
        Check.due("fold(0, 2, 0, 2)", m.fold(0, 2, 0, 2), Check.BAD);
        Check.due("fold(0, 2, 0, 1)", m.fold(0, 2, 0, 1), Check.STATE);
        Check.due("back(3)", m.back(3), Check.BAD);
        Check.type(m, " ".repeat(200));
        Check.due("type(32, 0)", m.type(32, 0), Check.BAD);
        Check.due("type(32, 1)", m.type(32, 1), Check.FULL);
    }

    /** The dearest calls of the largest map, to the last of them. */
    private static void fiveHundredAndTwelveCalls() {
        Check.sentence("An object is used for at most 512 calls after it has been made");
        FoldedMap m = new FoldedMap();
        m.type(0x6D6170342034203BL, 8);
        Check.due("map()", m.map(), 1);
        for (int i = 0; i < 127; i++) {
            Check.due("reach(0, 15, -1)", m.reach(0, 15, -1), Check.NONE);
            Check.due("serves(0, -1)", m.serves(0, -1), 1);
            Check.due("fits(2)", m.fits(2), 448);
            Check.due("day()", m.day(), i + 1);
        }
        Check.due("fold(0, 2, 0, 1)", m.fold(0, 2, 0, 1), 2);
        Check.due("undo()", m.undo(), 0);
    }

    private static void constants() {
        Check.sentence("`NO = -1000000`: What none is, where a number may be below 0.");
        Check.due("BAD", FoldedMap.BAD, -1);
        Check.due("STATE", FoldedMap.STATE, -2);
        Check.due("FULL", FoldedMap.FULL, -3);
        Check.due("NONE", FoldedMap.NONE, -9);
        Check.due("NO", FoldedMap.NO, -1000000);
    }

    public static void main(String[] args) {
        aNewObject();
        typeTakesOneToEight();
        typeUntilTheTextIsFull();
        clearOfAnEmptyText();
        mapThatHasAFault();
        mapEmptiesTheText();
        cellIsBad();
        atIsBadBelowNone();
        foldTellsTheThickest();
        foldIsBad();
        foldIsStateBeyondThePacket();
        foldIsStateWhereItWouldTear();
        undoIsState();
        dayAfterDay();
        bentIsBad();
        touchIsBad();
        packetIsBad();
        reachIsBad();
        servesIsBad();
        sawIsBad();
        forgetOfNothing();
        fitsIsBad();
        rateIsNo();
        keepIsBad();
        backIsBadOrState();
        countIsBad();
        traceOfManyCalls();
        orderOfWhatIsRefused();
        fiveHundredAndTwelveCalls();
        constants();
        Check.end();
    }
}
