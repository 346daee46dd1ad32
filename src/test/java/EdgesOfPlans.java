/** The sentences of "Terms", section 3, that name a boundary: plans, reach, serves, what is seen, fits. */
public final class EdgesOfPlans {
    private static void dueReach(FoldedMap m, int a, int b, int... plan) {
        Check.due("reach(" + a + ", " + b + ", -1)", m.reach(a, b, -1), plan.length);
        Check.due("reach(" + b + ", " + a + ", -1)", m.reach(b, a, -1), plan.length);
        for (int i = 0; i < plan.length; i++) {
            Check.due("reach(" + a + ", " + b + ", " + i + ")", m.reach(a, b, i), plan[i]);
        }
        Check.due("the fold behind the last", m.reach(a, b, plan.length), Check.NOT_SO_MANY);
    }

    private static void dueServes(FoldedMap m, int c, int gain, int... plan) {
        Check.due("serves(" + c + ", -1)", m.serves(c, -1), gain);
        for (int i = 0; i < plan.length; i++) {
            Check.due("serves(" + c + ", " + i + ")", m.serves(c, i), plan[i]);
        }
        Check.due("the fold behind the last", m.serves(c, plan.length), Check.NOT_SO_MANY);
    }

    private static void nothingIsChanged() {
        Check.sentence("(Nothing is changed; CREASES are not asked.)");
        FoldedMap m = Check.folded("map 3 4;worth 7 5;", 5, 0);
        m.keep(0);
        Check.fold(m, 0);
        m.saw(0, 7);
        Check.type(m, "tear 5;");
        String before = Check.allOf(m);
        m.reach(0, 7, -1);
        m.reach(2, 9, 2);
        m.serves(0, -1);
        m.serves(4, 1);
        m.fits(0);
        m.fits(1);
        m.fits(2);
        Check.dueSame("reach(), serves(), fits()", m, before);
        Check.due("undo()", m.undo(), 2);
        Check.due("back(0)", m.back(0), 0);
        Check.due("map()", m.map(), 1);
    }

    private static void creasesAreNotAsked() {
        Check.sentence("CREASES are not asked.");
        FoldedMap m = Check.folded("map 2 1;tear 1;worth 1 4;", 4);
        m.day();
        m.saw(0, 1);
        Check.due("fold(0, 1, 0, 1) would tear", m.fold(0, 1, 0, 1), Check.STATE);
        dueReach(m, 0, 1, 4);
        dueServes(m, 0, 4, 4);
        Check.due("fits(1)", m.fits(1), 4);
    }

    private static void fromThePacketAsItIs() {
        Check.sentence("PLANS: rows of FOLDS from THE PACKET as it is");
        FoldedMap m = Check.folded("map 4 1;", 0);
        Check.dueDrawn(m, "0' 1 | 2 | 3");
        dueReach(m, 1, 2, 4);
        dueReach(m, 2, 3, 12);
        Check.due("reach(0, 1, -1): they lie back to back", m.reach(0, 1, -1), Check.NONE);
        m.day();
        dueReach(m, 1, 2, 12);
        dueReach(m, 0, 1, 4);
        dueReach(m, 0, 3, 12);
    }

    private static void numbersOfFolds() {
        Check.sentence("each told as a number: AXIS and 2 PART and 4 OVER and 8 times (LINE less 1), together");
        for (int line = 1; line <= 3; line++) {
            dueReach(Check.read("map 4 1;"), line - 1, line, 4 + 8 * (line - 1));
            dueReach(Check.read("map 1 4;"), line - 1, line, 1 + 4 + 8 * (line - 1));
        }
        FoldedMap m = Check.folded("map 4 1;", 8);
        Check.dueDrawn(m, "1' 2 | 0' 3");
        dueReach(m, 0, 1, 0);
        dueReach(m, 2, 3, 4);
        FoldedMap upright = Check.folded("map 1 4;", 9);
        dueReach(upright, 0, 1, 1);
        dueReach(Check.read("map 4 4;"), 14, 15, 4 + 16);
        dueReach(Check.read("map 4 4;"), 11, 15, 1 + 4 + 16);
    }

    private static void fewestOfReach() {
        Check.sentence("REACH of two CELLS: the fewest FOLDS (0 .. 3) by which they TOUCH FRONT to FRONT");
        dueReach(Check.folded("map 2 1;", 4), 0, 1);
        dueReach(Check.read("map 2 1;"), 0, 1, 4);
        dueReach(Check.folded("map 4 1;", 16), 0, 3, 0, 0);
        dueReach(Check.read("map 2 3;"), 0, 5, 0, 5, 5);
        FoldedMap m = Check.folded("map 3 4;tear 9;", 0);
        Check.due("reach(2, 9, -1)", m.reach(2, 9, -1), Check.NONE);
        for (int number : new int[] {1, 4, 5, 5}) {
            Check.fold(m, number);
        }
        Check.due("a fourth fold would do", m.touch(2, 9), 1);
    }

    private static void onlyFrontToFrontIsReached() {
        Check.sentence("by which they TOUCH FRONT to FRONT,");
        FoldedMap back = Check.folded("map 2 1;", 0);
        Check.due("touch(0, 1)", back.touch(0, 1), 2);
        Check.due("reach(0, 1, -1)", back.reach(0, 1, -1), Check.NONE);
        FoldedMap mixed = Check.folded("map 3 1;", 4, 4);
        Check.due("touch(0, 2)", mixed.touch(0, 2), 3);
        Check.due("reach(0, 2, -1)", mixed.reach(0, 2, -1), Check.NONE);
        FoldedMap covered = Check.folded("map 3 1;", 4);
        Check.due("reach(1, 2, -1): 0 lies on 1", covered.reach(1, 2, -1), Check.NONE);
        FoldedMap borne = Check.folded("map 3 1;", 8 + 2);
        Check.dueDrawn(borne, "0 | 2' 1");
        Check.due("reach(0, 2, -1): 1 lies on 2", borne.reach(0, 2, -1), Check.NONE);
        dueReach(borne, 0, 1, 4);
    }

    private static void firstByNumbers() {
        Check.sentence("of several PLANS the first by numbers; NONE.");
        // 4 and 6 lay 0 on 1, 1 on 0: the first is 4
        dueReach(Check.read("map 2 1;"), 0, 1, 4);
        // a first fold of 1, 3, 5 or 7 can begin it
        dueReach(Check.read("map 3 2;"), 0, 5, 1, 4, 4);
        dueReach(Check.read("map 3 2;"), 2, 3, 1, 0, 0);
        dueReach(Check.read("map 3 3;"), 1, 8, 8, 5, 5);
        dueReach(Check.read("map 4 2;"), 3, 5, 1, 20, 0);
        dueReach(Check.read("map 2 4;"), 2, 7, 0, 17, 5);
    }

    private static void noneIsReached() {
        Check.sentence("NONE.");
        FoldedMap m = new FoldedMap();
        for (int i : new int[] {-1, 0, 1, 2, 3, Integer.MAX_VALUE}) {
            Check.due("reach(0, 2, " + i + ")", m.reach(0, 2, i), Check.NONE);
        }
        Check.due("reach(0, 2, -2)", m.reach(0, 2, -2), Check.BAD);
        FoldedMap one = Check.read("map 1 1;");
        Check.due("reach(0, 0, -1)", one.reach(0, 0, -1), Check.BAD);
        Check.due("reach(0, 1, -1)", one.reach(0, 1, -1), Check.BAD);
    }

    private static void servesByTwoFoldsAtMost() {
        Check.sentence("SERVES a CELL: of all PLANS of 0 .. 2 FOLDS that by which its GAIN is most");
        dueServes(Check.folded("map 2 1;worth 1 3;", 4), 0, 3);
        dueServes(Check.read("map 2 1;worth 1 3;"), 0, 3, 4);
        dueServes(Check.folded("map 4 1;worth 0 6;", 16), 3, 6, 0, 0);
        // a third fold would lay 5, which is worth 9, on 0
        FoldedMap m = Check.read("map 3 2;worth 5 9;worth 1 0;");
        Check.due("reach(0, 5, -1)", m.reach(0, 5, -1), 3);
        dueServes(m, 0, 1, 5);
        dueServes(Check.read("map 1 1;worth 0 9;"), 0, 0);
    }

    private static void servesByTheFewest() {
        Check.sentence("of several the one of the fewest FOLDS, of these the first by numbers: the GAIN");
        dueServes(Check.read("map 3 3;worth 1 0;worth 3 0;worth 5 0;worth 7 0;"), 4, 0);
        dueServes(Check.read("map 3 3;"), 4, 1, 4);
        dueServes(Check.read("map 3 3;worth 3 0;"), 4, 1, 5);
        dueServes(Check.read("map 3 3;worth 3 0;worth 1 0;"), 4, 1, 12);
        dueServes(Check.read("map 3 3;worth 7 2;"), 4, 2, 13);
        dueServes(Check.folded("map 2 2;worth 2 9;", 4), 0, 1);
    }

    private static void sixSeenAtMost() {
        Check.sentence("SEEN (6 at most): two CELLS that TOUCHED (any way)");
        FoldedMap m = new FoldedMap();
        for (int i = 1; i <= 6; i++) {
            Check.due("saw(" + (i & 1) + ", 5)", m.saw(i & 1, 5), i);
        }
        Check.due("saw(0, 1)", m.saw(0, 1), Check.FULL);
        Check.due("count(4)", m.count(4), 6);
        Check.due("forget()", m.forget(), 6);
        Check.due("saw(0, 1)", m.saw(0, 1), 1);
        Check.due("fits(1): what was refused is not seen", m.fits(1), 4);
    }

    private static void seenAnyWay() {
        Check.sentence("two CELLS that TOUCHED (any way)");
        FoldedMap m = Check.read("map 2 1;");
        m.saw(0, 1);
        Check.due("fits(1): over and beneath", m.fits(1), 4);
        FoldedMap mixed = Check.read("map 3 1;");
        mixed.saw(2, 0);
        Check.due("fits(1)", mixed.fits(1), 0);
        // front to back alone: 0 and 2 are bent to one side of 1 both
        Check.due("fits(2)", mixed.fits(2), 16);
        Check.due("saw(0, 1)", mixed.saw(0, 1), 2);
        Check.due("fits(2): 0 lies between 1 and 2", mixed.fits(2), 8);
        Check.due("saw(1, 2)", mixed.saw(1, 2), 3);
        Check.due("fits(2): none lies between the others", mixed.fits(2), 0);
    }

    private static void fitsOfEveryMap() {
        Check.sentence("FITS n (0 .. 2): how many PLANS of n FOLDS, from the flat MAP, by which all SEEN do");
        for (int wide = 1; wide <= 4; wide++) {
            for (int high = 1; high <= 4; high++) {
                FoldedMap m = Check.read("map " + wide + " " + high + ";");
                int twice = 0;
                for (int c = 1; c < wide; c++) {
                    twice += 16 * (Math.max(c, wide - c) - 1 + high - 1);
                }
                for (int c = 1; c < high; c++) {
                    twice += 16 * (Math.max(c, high - c) - 1 + wide - 1);
                }
                Check.due("fits(0)", m.fits(0), 1);
                Check.due("fits(1)", m.fits(1), 4 * (wide - 1 + high - 1));
                Check.due("fits(2)", m.fits(2), twice);
            }
        }
        FoldedMap m = new FoldedMap();
        Check.due("fits(-1)", m.fits(-1), Check.BAD);
        Check.due("fits(3)", m.fits(3), Check.BAD);
    }

    private static void fitsFromTheFlatMap() {
        Check.sentence("from the flat MAP, by which all SEEN do");
        FoldedMap m = Check.folded("map 3 2;tear 1;", 4, 5, 4);
        Check.due("fits(0)", m.fits(0), 1);
        Check.due("fits(1)", m.fits(1), 12);
        m.saw(0, 1);
        Check.due("touch(0, 1)", m.touch(0, 1), 1);
        Check.due("fits(0): they touch now, but not in the flat map", m.fits(0), 0);
        Check.due("fits(1)", m.fits(1), 4);
        m.saw(3, 0);
        Check.due("fits(1): not all of them", m.fits(1), 0);
        m.saw(3, 0);
        Check.due("fits(2): one seen twice is one", m.fits(2), 16);
    }

    private static void indexOfAFold() {
        Check.sentence("how many FOLDS (i = -1), the i-th (-5: not so many); NONE.");
        FoldedMap m = new FoldedMap();
        int[] plan = {1, 4, 4};
        for (int i = 0; i < 3; i++) {
            Check.due("reach(0, 5, " + i + ")", m.reach(0, 5, i), plan[i]);
        }
        for (int i : new int[] {3, 4, 100, Integer.MAX_VALUE}) {
            Check.due("reach(0, 5, " + i + ")", m.reach(0, 5, i), Check.NOT_SO_MANY);
        }
        for (int i : new int[] {-2, -5, Integer.MIN_VALUE}) {
            Check.due("reach(0, 5, " + i + ")", m.reach(0, 5, i), Check.BAD);
        }
        Check.due("a shorter plan behind a longer one", m.reach(0, 1, 1), Check.NOT_SO_MANY);
        Check.due("reach(0, 1, 0)", m.reach(0, 1, 0), 4);
        Check.fold(m, 4);
        dueReach(m, 2, 5, 5);
        dueReach(m, 0, 1);
    }

    private static void indexOfAFoldThatServes() {
        Check.sentence("the GAIN (i = -1), the i-th FOLD (-5: not so many). BAD.");
        FoldedMap m = Check.folded("map 4 1;worth 0 6;", 16);
        Check.due("serves(3, -1)", m.serves(3, -1), 6);
        Check.due("serves(3, 1)", m.serves(3, 1), 0);
        for (int i : new int[] {2, 3, 100, Integer.MAX_VALUE}) {
            Check.due("serves(3, " + i + ")", m.serves(3, i), Check.NOT_SO_MANY);
        }
        for (int i : new int[] {-2, -5, Integer.MIN_VALUE}) {
            Check.due("serves(3, " + i + ")", m.serves(3, i), Check.BAD);
        }
        Check.due("a shorter plan behind a longer one", m.serves(2, 1), Check.NOT_SO_MANY);
        FoldedMap both = Check.folded("map 4 1;worth 0 6;", 4);
        dueServes(both, 3, 1, 12);
        dueServes(both, 1, 6);
    }

    public static void main(String[] args) {
        nothingIsChanged();
        creasesAreNotAsked();
        fromThePacketAsItIs();
        numbersOfFolds();
        fewestOfReach();
        onlyFrontToFrontIsReached();
        firstByNumbers();
        noneIsReached();
        servesByTwoFoldsAtMost();
        servesByTheFewest();
        sixSeenAtMost();
        seenAnyWay();
        fitsOfEveryMap();
        fitsFromTheFlatMap();
        indexOfAFold();
        indexOfAFoldThatServes();
        Check.end();
    }
}
