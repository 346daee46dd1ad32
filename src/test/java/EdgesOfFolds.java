/** The sentences of "Terms", section 2, that name a boundary: the packet, folds, creases, days, touch. */
public final class EdgesOfFolds {
    private static final int[] FAR_LINES = {Integer.MIN_VALUE, -1, 0, 4, 5, Integer.MAX_VALUE};

    private static void flatPacket() {
        Check.sentence("Flat: each at its own x and y, in LAYER 0, up.");
        Check.dueDrawn(Check.read("map 4 2;"), "0 | 1 | 2 | 3 / 4 | 5 | 6 | 7");
        Check.dueDrawn(Check.read("map 1 1;"), "0");
        FoldedMap m = Check.read("map 4 4;");
        for (int c = 0; c < 16; c++) {
            Check.due("cell(" + c + ", 2)", m.cell(c, 2), 0);
        }
        Check.due("packet(2)", m.packet(2), 1);
    }

    /** Every fold of every map: places go from 0 to as wide and as high as the packet is told. */
    private static void placesFromNone() {
        Check.sentence("each CELL lies at a PLACE (x, y, from 0, as far as any CELL lies)");
        for (int size = 0; size < 16; size++) {
            int wide = size % 4 + 1;
            int high = size / 4 + 1;
            for (int number = 0; number < 24; number++) {
                FoldedMap m = Check.read("map " + wide + " " + high + ";");
                Check.fold(m, number);
                int[] least = {9, 9};
                int[] most = {-9, -9};
                for (int c = 0; c < wide * high; c++) {
                    for (int axis = 0; axis < 2; axis++) {
                        least[axis] = Math.min(least[axis], m.cell(c, axis));
                        most[axis] = Math.max(most[axis], m.cell(c, axis));
                    }
                }
                for (int axis = 0; axis < 2; axis++) {
                    Check.due("the least place behind fold " + number, least[axis], 0);
                    Check.due("packet(" + axis + ") behind fold " + number, m.packet(axis), most[axis] + 1);
                }
            }
        }
    }

    private static void layersFromNone() {
        Check.sentence("in a LAYER (0 the lowest at its PLACE), FRONT up or down");
        FoldedMap m = Check.folded("map 4 1;", 4 + 8, 4);
        Check.dueDrawn(m, "3 0' 1 2'");
        int[] layers = {1, 2, 3, 0};
        int[] ups = {0, 1, 0, 1};
        for (int c = 0; c < 4; c++) {
            Check.due("cell(" + c + ", 2)", m.cell(c, 2), layers[c]);
            Check.due("cell(" + c + ", 3)", m.cell(c, 3), ups[c]);
        }
    }

    private static void axes() {
        Check.sentence("AXIS 0 (a line between x less than c and the others) or 1 (so with y)");
        Check.dueDrawn(Check.folded("map 2 2;", 4), "1 0' / 3 2'");
        Check.dueDrawn(Check.folded("map 2 2;", 5), "2 0' | 3 1'");
        FoldedMap m = new FoldedMap();
        Check.due("fold(-1, 1, 0, 0)", m.fold(-1, 1, 0, 0), Check.BAD);
        Check.due("fold(2, 1, 0, 0)", m.fold(2, 1, 0, 0), Check.BAD);
    }

    private static void linesWithinThePacket() {
        Check.sentence("LINE c (1 .. less than the PACKET is wide, high)");
        for (int size = 0; size < 16; size++) {
            int[] extent = {size % 4 + 1, size / 4 + 1};
            for (int axis = 0; axis < 2; axis++) {
                for (int line = 1; line <= 3; line++) {
                    FoldedMap m = Check.read("map " + extent[0] + " " + extent[1] + ";");
                    Check.due("fold(" + axis + ", " + line + ", 0, 0)", m.fold(axis, line, 0, 0),
                        line < extent[axis] ? 2 : Check.STATE);
                }
            }
        }
        FoldedMap m = Check.folded("map 4 1;", 8);
        Check.due("packet(0)", m.packet(0), 2);
        Check.due("a line of the map, no more of the packet", m.fold(0, 2, 0, 0), Check.STATE);
        Check.due("fold(0, 1, 0, 0)", m.fold(0, 1, 0, 0), 4);
        Check.due("a packet of one place", m.fold(0, 1, 0, 0), Check.STATE);
        Check.due("a packet of one place", m.fold(1, 1, 0, 0), Check.STATE);
    }

    private static void partThatGoes() {
        Check.sentence("PART 0 (those ahead of the line go) or 1 (those behind it), OVER 1 or 0");
        Check.dueDrawn(Check.folded("map 2 1;", 0), "0' 1");
        Check.dueDrawn(Check.folded("map 2 1;", 2), "1' 0");
        Check.dueDrawn(Check.folded("map 2 1;", 4), "1 0'");
        Check.dueDrawn(Check.folded("map 2 1;", 6), "0 1'");
    }

    /** The part that goes is the shorter, the longer: what meets nothing lies alone, turned. */
    private static void whereCellsCome() {
        Check.sentence("Each CELL that goes comes to 2 c less 1 less its x (y)");
        Check.dueDrawn(Check.folded("map 3 1;", 0), "0' 1 | 2");
        Check.dueDrawn(Check.folded("map 3 1;", 8 + 2), "0 | 2' 1");
        Check.dueDrawn(Check.folded("map 4 1;", 16 + 4), "3 2' | 1' | 0'");
        Check.dueDrawn(Check.folded("map 4 1;", 16 + 6), "0 | 1 | 2 3'");
        Check.dueDrawn(Check.folded("map 4 1;", 8 + 4), "2 1' | 3 0'");
        Check.dueDrawn(Check.folded("map 4 1;", 4), "1 0' | 2 | 3");
        Check.dueDrawn(Check.folded("map 1 4;", 16 + 5), "3 2' / 1' / 0'");
        Check.dueDrawn(Check.folded("map 1 4;", 16 + 7), "0 / 1 / 2 3'");
    }

    private static void stacksComeUpsideDown() {
        Check.sentence("all that lie at one PLACE come upside down, the highest now the lowest, FRONTS turned");
        Check.dueDrawn(Check.folded("map 3 1;", 4, 4), "2 0 1'");
        Check.dueDrawn(Check.folded("map 3 1;", 0, 0), "1' 0 2");
        Check.dueDrawn(Check.folded("map 1 3;", 5, 5), "2 0 1'");
        Check.dueDrawn(Check.folded("map 4 2;", 8 + 4, 5), "6 5' 1 2' | 7 4' 0 3'");
    }

    private static void overOrBeneath() {
        Check.sentence("OVER: on top of those that lie there; else beneath them");
        Check.dueDrawn(Check.folded("map 4 1;", 12, 4), "3 0' 1 2'");
        Check.dueDrawn(Check.folded("map 4 1;", 12, 0), "1 2' 3 0'");
        Check.dueDrawn(Check.folded("map 4 1;", 12, 6), "2 1' 0 3'");
        Check.dueDrawn(Check.folded("map 4 1;", 12, 2), "0 3' 2 1'");
        Check.dueDrawn(Check.folded("map 1 4;", 13, 5), "3 0' 1 2'");
        Check.dueDrawn(Check.folded("map 1 4;", 13, 1), "1 2' 3 0'");
    }

    private static void leastIsNoneAgain() {
        Check.sentence("Then all x (y) grow or fall alike, so that the least is 0");
        Check.dueDrawn(Check.folded("map 3 1;", 2), "2' | 1' 0");
        Check.dueDrawn(Check.folded("map 3 1;", 6), "2' | 0 1'");
        Check.dueDrawn(Check.folded("map 4 1;", 6), "3' | 2' | 0 1'");
        Check.dueDrawn(Check.folded("map 1 4;", 7), "3' / 2' / 0 1'");
        Check.dueDrawn(Check.folded("map 4 1;", 8 + 6), "0 3' | 1 2'");
        Check.dueDrawn(Check.folded("map 3 1;", 8 + 4), "2 1' | 0'");
        Check.dueDrawn(Check.folded("map 3 1;", 8), "1' 2 | 0'");
    }

    private static void creasesAreOfTheMap() {
        Check.sentence("A CREASE: two CELLS side by side in THE MAP");
        for (int size = 0; size < 16; size++) {
            int wide = size % 4 + 1;
            int high = size / 4 + 1;
            FoldedMap m = Check.read("map " + wide + " " + high + ";");
            for (int a = 0; a < wide * high; a++) {
                for (int b = 0; b < wide * high; b++) {
                    int apart = Math.abs(a % wide - b % wide) + Math.abs(a / wide - b / wide);
                    Check.due("bent(" + a + ", " + b + ")", m.bent(a, b), apart == 1 ? 0 : Check.BAD);
                }
            }
        }
        FoldedMap m = Check.folded("map 4 1;", 8);
        Check.due("bent(0, 3): they lie on each other, but not side by side in the map", m.bent(0, 3), Check.BAD);
    }

    private static void creasesThatALineBends() {
        Check.sentence("BENT once more by each FOLD whose LINE lies between them then "
            + "(one at c less 1, the other at c, at one y (x))");
        FoldedMap m = Check.folded("map 4 2;tear 9;", 8);
        int[] once = {0, 1, 0, -1, 0, 1, 0};
        for (int c = 0; c < 7; c++) {
            Check.due("bent(" + c + ", " + (c + 1) + ")", m.bent(c, c + 1), once[c]);
        }
        Check.due("bent(0, 4): it lies across", m.bent(0, 4), 0);
        Check.due("fold", Check.fold(m, 4), 4);
        int[] twice = {1, 1, 1, -1, 1, 1, 1};
        for (int c = 0; c < 7; c++) {
            Check.due("bent(" + c + ", " + (c + 1) + ")", m.bent(c, c + 1), twice[c]);
        }
        Check.due("fold", Check.fold(m, 1), 8);
        for (int c = 0; c < 4; c++) {
            Check.due("bent(" + c + ", " + (c + 4) + ")", m.bent(c, c + 4), 1);
        }
        Check.due("bent(1, 2): the line of AXIS 1 lies beside it", m.bent(1, 2), 1);
    }

    private static void creasesThatLieClosed() {
        Check.sentence("whose LINE lies between them then");
        FoldedMap m = Check.folded("map 3 1;", 4, 4);
        Check.due("bent(0, 1): both lay at one place", m.bent(0, 1), 1);
        Check.due("bent(1, 2)", m.bent(1, 2), 1);
        FoldedMap far = Check.folded("map 4 1;", 4, 8 + 4);
        Check.due("bent(2, 3): the second line is the map's third", far.bent(2, 3), 1);
        Check.due("bent(1, 2)", far.bent(1, 2), 0);
    }

    private static void tearTimesAndNoMore() {
        Check.sentence("A FOLD by which any CREASE would be BENT more than TEAR times can not be");
        for (int tear = 1; tear <= 9; tear++) {
            FoldedMap m = Check.read("map 2 1;tear " + tear + ";");
            for (int i = 1; i <= tear; i++) {
                Check.due("fold " + i + " of tear " + tear, m.fold(0, 1, i & 1, i >> 1 & 1), 2);
                Check.due("bent(0, 1)", m.bent(0, 1), i);
                m.day();
            }
            Check.due("one fold more than tear " + tear, m.fold(0, 1, 0, 0), Check.STATE);
            Check.due("bent(0, 1)", m.bent(0, 1), tear);
            Check.due("count(6)", m.count(6), 0);
        }
    }

    private static void oneCreaseIsEnoughToTear() {
        Check.sentence("any CREASE would be BENT more than TEAR times");
        FoldedMap m = Check.folded("map 4 1;tear 1;", 0);
        m.day();
        Check.due("fold(0, 2, 0, 0)", m.fold(0, 2, 0, 0), 2);
        Check.due("the line bends 2 and 3, but 0 and 1 would tear", m.fold(0, 1, 0, 0), Check.STATE);
        Check.due("bent(2, 3)", m.bent(2, 3), 0);
        Check.due("bent(0, 1)", m.bent(0, 1), 1);
        FoldedMap last = Check.folded("map 4 4;tear 1;", 16 + 1);
        last.day();
        last.fold(1, 2, 0, 0);
        Check.due("the last row would tear", last.fold(1, 1, 0, 0), Check.STATE);
        Check.due("bent(0, 4)", last.bent(0, 4), 0);
        Check.due("bent(11, 15)", last.bent(11, 15), 1);
        Check.due("the other axis is not worn", last.fold(0, 1, 0, 0), 4);
    }

    private static void undoneIsTheLastFold() {
        Check.sentence("UNDONE: the last FOLD of the day, BENT as ahead of it");
        FoldedMap m = Check.folded("map 3 1;tear 1;", 4, 4);
        Check.due("undo()", m.undo(), 1);
        Check.dueDrawn(m, "1 0' | 2");
        Check.due("bent(1, 2)", m.bent(1, 2), 0);
        Check.due("bent(0, 1)", m.bent(0, 1), 1);
        Check.due("the crease can be bent again", m.fold(0, 1, 1, 0), 3);
        Check.dueDrawn(m, "2' 1 0'");
        Check.due("undo()", m.undo(), 1);
        Check.due("undo()", m.undo(), 0);
        Check.dueDrawn(m, "0 | 1 | 2");
        Check.due("bent(0, 1)", m.bent(0, 1), 0);
        Check.due("undo()", m.undo(), Check.STATE);
    }

    private static void undoneOfALaterDay() {
        Check.sentence("BENT as ahead of it");
        FoldedMap m = Check.folded("map 2 1;", 0);
        m.day();
        Check.fold(m, 4);
        Check.due("bent(0, 1)", m.bent(0, 1), 2);
        Check.due("undo()", m.undo(), 0);
        Check.due("bent(0, 1): what the first day bent stays", m.bent(0, 1), 1);
    }

    private static void aDayGoesBy() {
        Check.sentence("A DAY goes by: the MAP is flat again (DAY 0 at first)");
        FoldedMap m = Check.folded("map 3 2;", 4, 5);
        Check.due("count(5)", m.count(5), 0);
        Check.due("day()", m.day(), 1);
        Check.dueDrawn(m, "0 | 1 | 2 / 3 | 4 | 5");
        Check.due("day() of a flat map", m.day(), 2);
        Check.due("count(5)", m.count(5), 2);
    }

    private static void creasesStayOverNight() {
        Check.sentence("CREASES stay as they are BENT");
        FoldedMap m = Check.folded("map 3 2;", 4, 4, 5);
        m.day();
        for (int c = 0; c < 3; c++) {
            Check.due("bent(" + c + ", " + (c + 3) + ")", m.bent(c, c + 3), 1);
        }
        Check.due("bent(1, 2)", m.bent(1, 2), 1);
        m.day();
        Check.due("bent(0, 1)", m.bent(0, 1), 1);
    }

    private static void nothingIsUndoneBehindANight() {
        Check.sentence("nothing can be UNDONE.");
        FoldedMap m = Check.folded("map 3 2;", 4, 4);
        m.day();
        Check.due("undo()", m.undo(), Check.STATE);
        Check.due("count(6)", m.count(6), 0);
        Check.fold(m, 5);
        Check.due("undo(): only the new day's", m.undo(), 0);
        Check.due("undo()", m.undo(), Check.STATE);
        Check.due("bent(0, 1)", m.bent(0, 1), 1);
    }

    private static void touchIsOfNextLayers() {
        Check.sentence("TOUCH: two CELLS at one PLACE, one in the LAYER next above the other's");
        FoldedMap m = Check.folded("map 4 2;", 12, 4);
        Check.dueDrawn(m, "3 0' 1 2' / 7 4' 5 6'");
        int[][] told = {{0, 2, 0, 1}, {2, 0, 1, 0}, {0, 1, 0, 0}, {1, 0, 0, 0}};
        for (int a = 0; a < 4; a++) {
            for (int b = 0; b < 8; b++) {
                int want = a == b ? Check.BAD : b < 4 ? told[a][b] : 0;
                Check.due("touch(" + a + ", " + b + ")", m.touch(a, b), want);
            }
        }
    }

    private static void waysOfTouch() {
        Check.sentence("1 FRONT to FRONT, 2 back to back, 3 FRONT to back; 0: they do not");
        Check.due("touch(0, 1) over", Check.folded("map 2 1;", 4).touch(0, 1), 1);
        Check.due("touch(0, 1) beneath", Check.folded("map 2 1;", 0).touch(0, 1), 2);
        Check.due("touch(0, 1) flat", Check.read("map 2 1;").touch(0, 1), 0);
        FoldedMap m = Check.folded("map 3 1;", 4, 4);
        Check.dueDrawn(m, "2 0 1'");
        Check.due("touch(2, 0): both up", m.touch(2, 0), 3);
        Check.due("touch(0, 2)", m.touch(0, 2), 3);
        FoldedMap down = Check.folded("map 3 1;", 8 + 6, 4 + 2);
        Check.dueDrawn(down, "0 2 1'");
        FoldedMap both = Check.folded("map 3 1;", 4, 6);
        Check.dueDrawn(both, "1 0' 2'");
        Check.due("touch(0, 2): both down", both.touch(0, 2), 3);
        Check.due("touch(1, 2): a layer lies between", both.touch(1, 2), 0);
    }

    private static void foughtIsFrontToFront() {
        Check.sentence("FOUGHT: QUARRELS whose CELLS TOUCH FRONT to FRONT");
        Check.due("front to front", Check.folded("map 2 1;quarrel 0 1;", 4).packet(3), 1);
        Check.due("back to back", Check.folded("map 2 1;quarrel 0 1;", 0).packet(3), 0);
        Check.due("flat", Check.read("map 2 1;quarrel 0 1;").packet(3), 0);
        Check.due("front to back", Check.folded("map 3 1;quarrel 0 2;", 4, 4).packet(3), 0);
        Check.due("no quarrel", Check.folded("map 2 1;", 4).packet(3), 0);
        Check.due("six quarrels", Check.folded("map 2 1;quarrel 0 1;quarrel 1 0;quarrel 0 1;quarrel 1 0;quarrel 0 1;"
            + "quarrel 1 0;", 4).packet(3), 6);
        Check.due("some of them", Check.folded("map 4 2;quarrel 0 3;quarrel 1 3;quarrel 5 6;quarrel 0 7;",
            12).packet(3), 2);
    }

    private static void gainIsFrontToFront() {
        Check.sentence("GAIN of a CELL: WORTHS of those that TOUCH it FRONT to FRONT");
        FoldedMap front = Check.folded("map 2 1;worth 0 9;worth 1 0;", 4);
        Check.due("cell(1, 5)", front.cell(1, 5), 9);
        Check.due("cell(0, 5)", front.cell(0, 5), 0);
        Check.due("back to back", Check.folded("map 2 1;worth 0 9;", 0).cell(1, 5), 0);
        Check.due("flat", Check.read("map 2 1;worth 0 9;").cell(1, 5), 0);
        FoldedMap m = Check.folded("map 3 1;worth 0 3;worth 1 4;worth 2 5;", 4, 4);
        Check.dueDrawn(m, "2 0 1'");
        Check.due("cell(0, 5): 1 on its front, 2 at its back", m.cell(0, 5), 4);
        Check.due("cell(1, 5)", m.cell(1, 5), 3);
        Check.due("cell(2, 5): its front is at a back", m.cell(2, 5), 0);
        FoldedMap many = Check.folded("map 4 1;worth 0 2;worth 1 3;worth 2 5;worth 3 7;", 12, 4);
        Check.dueDrawn(many, "3 0' 1 2'");
        int[] gains = {7, 5, 3, 2};
        for (int c = 0; c < 4; c++) {
            Check.due("cell(" + c + ", 5)", many.cell(c, 5), gains[c]);
        }
    }

    private static void sixFoldsAtMost() {
        Check.sentence("UNDONE: the last FOLD of the day");
        FoldedMap m = Check.folded("map 4 4;tear 9;", 0, 0, 0, 1, 1, 1);
        Check.due("count(6)", m.count(6), 6);
        Check.due("packet(2)", m.packet(2), 16);
        for (int line : FAR_LINES) {
            Check.due("fold(0, " + line + ", 0, 0)", m.fold(0, line, 0, 0), Check.BAD);
        }
        for (int number = 0; number < 24; number++) {
            Check.due("fold " + number + " of one place", Check.fold(m, number), Check.STATE);
        }
        for (int left = 5; left >= 0; left--) {
            Check.due("undo()", m.undo(), left);
        }
        Check.due("undo()", m.undo(), Check.STATE);
        Check.dueDrawn(m, "0 | 1 | 2 | 3 / 4 | 5 | 6 | 7 / 8 | 9 | 10 | 11 / 12 | 13 | 14 | 15");
    }

    public static void main(String[] args) {
        flatPacket();
        placesFromNone();
        layersFromNone();
        axes();
        linesWithinThePacket();
        partThatGoes();
        whereCellsCome();
        stacksComeUpsideDown();
        overOrBeneath();
        leastIsNoneAgain();
        creasesAreOfTheMap();
        creasesThatALineBends();
        creasesThatLieClosed();
        tearTimesAndNoMore();
        oneCreaseIsEnoughToTear();
        undoneIsTheLastFold();
        undoneOfALaterDay();
        aDayGoesBy();
        creasesStayOverNight();
        nothingIsUndoneBehindANight();
        touchIsOfNextLayers();
        waysOfTouch();
        foughtIsFrontToFront();
        gainIsFrontToFront();
        sixFoldsAtMost();
        Check.end();
    }
}
