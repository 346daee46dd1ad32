/** The sentences of "Terms", section 1, that name a boundary: the map, and the text that tells it. */
public final class EdgesOfTheText {
    private static final String SIX = "quarrel 0 1;quarrel 1 2;quarrel 2 3;quarrel 3 4;quarrel 4 5;quarrel 5 0;";
    private static final String EIGHT_BLANKS = "        ";

    private static void wideIsOneToFour() {
        Check.sentence("THE MAP is WIDE (1 ..");
        for (int wide = 1; wide <= 4; wide++) {
            FoldedMap m = Check.read("map " + wide + " 2;");
            Check.due("count(0)", m.count(0), wide);
            Check.due("packet(0)", m.packet(0), wide);
        }
        Check.dueFault("map 0 2;", 4);
        Check.dueFault("map 5 2;", 4);
        Check.dueFault("map 99 2;", 4);
    }

    private static void highIsOneToFour() {
        Check.sentence("4) by HIGH (1 .. 4) CELLS");
        for (int high = 1; high <= 4; high++) {
            FoldedMap m = Check.read("map 2 " + high + ";");
            Check.due("count(1)", m.count(1), high);
            Check.due("packet(1)", m.packet(1), high);
        }
        Check.dueFault("map 2 0;", 6);
        Check.dueFault("map 2 5;", 6);
        Check.dueFault("map 2 99;", 6);
    }

    private static void threeAndTwoAtFirst() {
        Check.sentence("(3 and 2 at first)");
        FoldedMap m = new FoldedMap();
        Check.due("count(0)", m.count(0), 3);
        Check.due("count(1)", m.count(1), 2);
        Check.due("cell(5, 0)", m.cell(5, 0), 2);
        Check.due("cell(6, 0)", m.cell(6, 0), Check.BAD);
        Check.dueItems("worth 5 1;", 1);
        Check.dueFault("worth 6 1;", 6);
    }

    private static void numberedRowByRow() {
        Check.sentence("numbered row by row (WIDE times y and x)");
        for (int wide = 1; wide <= 4; wide++) {
            for (int high = 1; high <= 4; high++) {
                FoldedMap m = Check.read("map " + wide + " " + high + ";");
                for (int c = 0; c < wide * high; c++) {
                    Check.due("cell(" + c + ", 0)", m.cell(c, 0), c % wide);
                    Check.due("cell(" + c + ", 1)", m.cell(c, 1), c / wide);
                    Check.due("at", m.at(c % wide, c / wide, 0), c);
                }
                Check.due("the cell behind the last", m.cell(wide * high, 0), Check.BAD);
                Check.due("at(" + wide + ", 0, 0)", m.at(wide, 0, 0), Check.NONE);
                Check.due("at(0, " + high + ", 0)", m.at(0, high, 0), Check.NONE);
            }
        }
    }

    private static void worthIsNoneToNine() {
        Check.sentence("each with a WORTH (0 .. 9; 1 at first)");
        for (int worth = 0; worth <= 9; worth++) {
            Check.due("cell(5, 4)", Check.read("worth 5 " + worth + ";").cell(5, 4), worth);
        }
        Check.dueFault("worth 5 10;", 8);
        Check.dueFault("worth 5 99;", 8);
        FoldedMap m = Check.read("map 4 4;worth 3 9;");
        for (int c = 0; c < 16; c++) {
            Check.due("cell(" + c + ", 4)", m.cell(c, 4), c == 3 ? 9 : 1);
        }
    }

    private static void frontsLookUpWhenFlat() {
        Check.sentence("a FRONT that looks up when it is flat");
        FoldedMap m = Check.read("map 4 4;");
        for (int c = 0; c < 16; c++) {
            Check.due("cell(" + c + ", 3)", m.cell(c, 3), 1);
        }
    }

    private static void sixQuarrelsAtMost() {
        Check.sentence("QUARRELS (6 at most): two CELLS");
        Check.due("count(2)", Check.read("").count(2), 0);
        Check.due("count(2)", Check.read(SIX).count(2), 6);
        Check.dueItems(SIX + "tear 1;worth 0 1;", 8);
        Check.dueFault(SIX + "quarrel 0 1;", SIX.length());
    }

    private static void tearIsOneToNine() {
        Check.sentence("TEAR (1 .. 9; 3 at first)");
        Check.due("count(3)", new FoldedMap().count(3), 3);
        for (int tear = 1; tear <= 9; tear++) {
            Check.due("count(3)", Check.read("tear " + tear + ";").count(3), tear);
        }
        Check.dueFault("tear 0;", 5);
        Check.dueFault("tear 10;", 5);
        Check.dueFault("tear 99;", 5);
    }

    private static void twoHundredBytesAtMost() {
        Check.sentence("They are a text (200 bytes at most)");
        String blanks = EIGHT_BLANKS.repeat(24);
        FoldedMap m = Check.read(blanks + " tear 7;");
        Check.due("count(3): the last byte is read", m.count(3), 7);
        Check.dueFault(blanks + "  tear 7", 200);
        Check.dueFault(blanks + "tear 7;;", 199);
        Check.dueItems("tear 7; " + blanks, 1);
        Check.type(m, blanks + EIGHT_BLANKS);
        Check.due("type() of the 201st byte", m.type(32, 1), Check.FULL);
        Check.due("count(7)", m.count(7), 200);
    }

    private static void blanksAreBytes32Alone() {
        Check.sentence("blanks (32), any number, ahead of, between, behind TOKENS");
        for (int b = 0; b < 256; b++) {
            String sign = String.valueOf((char) b);
            if (b == 32) {
                Check.dueItems(sign, 0);
                Check.dueItems("tear" + sign + "3;", 1);
                Check.dueItems("tear 3" + sign + ";", 1);
                Check.dueItems("tear 3;" + sign, 1);
                continue;
            }
            boolean letter = b >= 'a' && b <= 'z';
            boolean digit = b >= '0' && b <= '9';
            Check.dueFault(sign, 0);
            Check.dueFault("tear" + sign + "3;", letter ? 0 : 4);
            Check.dueFault("tear 3" + sign + ";", digit ? 5 : b == ';' ? 7 : 6);
            Check.dueFault("tear 3;" + sign, 7);
        }
        String many = EIGHT_BLANKS.repeat(4);
        Check.dueItems(many + "map" + many + "4" + many + "4" + many + ";" + many, 1);
    }

    private static void blanksThatAreNeeded() {
        Check.sentence("(needed only between two rows of letters, two NUMBERS)");
        Check.dueItems("map3 2;worth0 9;quarrel0 1;tear5;", 4);
        Check.dueItems("map 3 2 ; worth 0 9 ; quarrel 0 1 ; tear 5 ;", 4);
        Check.dueFault("map 32;", 4);
        Check.dueFault("worth 01;", 6);
        Check.dueFault("map 4 4;quarrel 12;", 18);
        Check.dueFault("worthtear 1;", 0);
        Check.dueFault("worth tear 1;", 6);
    }

    private static void noItemsToo() {
        Check.sentence("ITEMS (none, too)");
        Check.dueItems("", 0);
        Check.dueItems(" ", 0);
        Check.dueItems(EIGHT_BLANKS.repeat(25), 0);
        Check.dueFault(";", 0);
    }

    private static void itemsEndBySemicolons() {
        Check.sentence("each ended by ;");
        Check.dueFault("tear 3", 6);
        Check.dueFault("tear 3 ", 7);
        Check.dueFault("tear 3 worth 0 1;", 7);
        Check.dueFault("tear 3;;", 7);
        Check.dueFault("tear 3; ;", 8);
        Check.dueFault("tear 3:", 6);
    }

    private static void itemsHaveTheirNumbers() {
        Check.sentence("map W H (the first of all, if it is told) ; worth C V (told again: the later one counts) ; "
            + "quarrel A B (unlike) ; tear N (once).");
        Check.dueFault("map;", 3);
        Check.dueFault("map 2;", 5);
        Check.dueFault("map 2 2 2;", 8);
        Check.dueFault("worth;", 5);
        Check.dueFault("worth 0;", 7);
        Check.dueFault("worth 0 1 2;", 10);
        Check.dueFault("quarrel;", 7);
        Check.dueFault("quarrel 0;", 9);
        Check.dueFault("quarrel 0 1 2;", 12);
        Check.dueFault("tear;", 4);
        Check.dueFault("tear 3 3;", 7);
        Check.dueFault("3;", 0);
        Check.dueFault("map map;", 4);
        Check.dueFault("worth 0 worth;", 8);
    }

    private static void mapIsTheFirst() {
        Check.sentence("map W H (the first of all, if it is told)");
        Check.dueItems("map 2 2;", 1);
        Check.dueItems("  map 2 2;", 1);
        Check.dueItems("tear 2;", 1);
        FoldedMap m = Check.read("map 2 2;");
        Check.due("map() of a later text", Check.mapOf(m, "map 4 4;"), 1);
        Check.due("count(0)", m.count(0), 4);
    }

    private static void cellsAreThoseOfTheMapThatIsTold() {
        Check.sentence("worth C V");
        for (int wide = 1; wide <= 4; wide++) {
            for (int high = 1; high <= 4; high++) {
                String map = "map " + wide + " " + high + ";";
                int cells = wide * high;
                Check.dueItems(map + "worth " + (cells - 1) + " 0;", 2);
                Check.dueFault(map + "worth " + cells + " 0;", 14);
                Check.dueFault(map + "quarrel " + cells + " 0;", 16);
                Check.dueFault(map + "quarrel 0 " + cells + ";", 18);
                if (cells > 1) {
                    Check.dueItems(map + "quarrel 0 " + (cells - 1) + ";", 2);
                    Check.dueItems(map + "quarrel " + (cells - 1) + " 0;", 2);
                }
            }
        }
        FoldedMap m = Check.read("map 4 4;");
        Check.due("map(): the map that was before does not count", Check.mapOf(m, "worth 6 1;"), -16);
    }

    private static void laterWorthCounts() {
        Check.sentence("(told again: the later one counts)");
        FoldedMap m = new FoldedMap();
        Check.due("map()", Check.mapOf(m, "worth 2 9;worth 3 4;worth 2 0;"), 3);
        Check.due("cell(2, 4)", m.cell(2, 4), 0);
        Check.due("cell(3, 4)", m.cell(3, 4), 4);
    }

    private static void quarrelsAreUnlike() {
        Check.sentence("quarrel A B (unlike)");
        for (int c = 0; c < 6; c++) {
            Check.dueFault("quarrel " + c + " " + c + ";", 10);
        }
        Check.dueFault("map 4 4;quarrel 11 11;", 19);
        Check.dueItems("map 4 4;quarrel 11 1;quarrel 1 11;", 3);
        Check.dueFault("map 1 1;quarrel 0 0;", 18);
    }

    private static void tearIsToldOnce() {
        Check.sentence("tear N (once)");
        Check.dueFault("tear 3;tear 3;", 7);
        Check.dueFault("tear 3; worth 0 1; tear 4;", 19);
        FoldedMap m = Check.read("tear 4;");
        Check.due("map() of a later text", Check.mapOf(m, "tear 5;"), 1);
        Check.due("count(3)", m.count(3), 5);
        Check.due("map() of two", Check.mapOf(m, "tear 6;tear"), -17);
        Check.due("map() behind a fault", Check.mapOf(m, "tear 6;"), 1);
        Check.due("count(3)", m.count(3), 6);
    }

    private static void wordsAreOfLettersAToZ() {
        Check.sentence("TOKENS are words of letters a .. z (map, worth, quarrel, tear), NUMBERS and ;");
        Check.dueFault("tear`3;", 4);
        Check.dueFault("tear{3;", 4);
        Check.dueFault("tearz3;", 0);
        Check.dueFault("teara3;", 0);
        Check.dueFault("Tear 3;", 0);
        Check.dueFault("teaR 3;", 0);
        Check.dueFault("tear/3;", 4);
        Check.dueFault("tear:3;", 4);
        Check.dueFault("tear <", 5);
        Check.dueFault("tear +3;", 5);
        Check.dueFault("tear -3;", 5);
    }

    private static void faultIsTheFirstToken() {
        Check.sentence("FAULT: the place of the first byte of the first TOKEN that can't stand there");
        Check.dueFault("  worth 99 99;", 8);
        Check.dueFault("map 9 9;", 4);
        Check.dueFault("map 2 9 tear", 6);
        Check.dueFault("tear 3;map 9 9;", 7);
        Check.dueFault("tear 0;@", 5);
        Check.dueFault("@ tear 0;", 0);
        Check.dueFault("worth 12 nonsense", 6);
    }

    private static void mapBehindAnotherItem() {
        Check.sentence("(map behind another ITEM,");
        Check.dueFault("map 2 2;map 2 2;", 8);
        Check.dueFault("worth 0 1;map 2 2;", 10);
        Check.dueFault("quarrel 0 1; map 2 2;", 13);
        Check.dueFault("tear 1;map", 7);
    }

    private static void seventhQuarrel() {
        Check.sentence("a seventh quarrel,");
        Check.dueFault(SIX + "quarrel", SIX.length());
        Check.dueFault(SIX + "  quarrel 0 0;", SIX.length() + 2);
        Check.dueFault(SIX.replace("5 0", "5 5"), SIX.length() - 2);
        FoldedMap m = Check.read(SIX);
        Check.due("map() of a later text", Check.mapOf(m, SIX), 6);
        Check.due("map() of a seventh", Check.mapOf(m, SIX + "quarrel"), -10 - SIX.length());
        Check.due("count(2)", m.count(2), 6);
    }

    private static void secondTear() {
        Check.sentence("a second tear,");
        Check.dueFault("tear 1;tear", 7);
        Check.dueFault("map 1 1;tear 9;  tear 9;", 17);
    }

    private static void secondCellIsTheFirst() {
        Check.sentence("a B that is A,");
        Check.dueFault("quarrel 0 0", 10);
        Check.dueFault("quarrel 5   5;", 12);
    }

    private static void numberBeyondWhatItMayBe() {
        Check.sentence("a NUMBER beyond what it may be, too)");
        Check.dueFault("map 5 1;", 4);
        Check.dueFault("map 1 0;", 6);
        Check.dueFault("worth 6 0;", 6);
        Check.dueFault("worth 0 10;", 8);
        Check.dueFault("quarrel 6 0;", 8);
        Check.dueFault("quarrel 0 6;", 10);
        Check.dueFault("tear 10;", 5);
    }

    private static void byteThatBeginsNone() {
        Check.sentence("of a byte that begins none,");
        for (int b : new int[] {0, 9, 10, 13, 31, 33, 47, 58, 60, 64, 91, 96, 123, 127, 128, 160, 255}) {
            Check.dueFault("tear 3; " + (char) b, 8);
            Check.dueFault("worth " + (char) b + " 1;", 6);
        }
    }

    private static void wordThatIsNoneOfThese() {
        Check.sentence("a word that is none of these,");
        for (String word : new String[] {"ma", "mapp", "amap", "nap", "mbp", "maq", "wort", "worths", "quarre",
            "quarrels", "tea", "tears", "tare", "a", "z", "abcdefghijklmnopqrstuvwxyz"}) {
            Check.dueFault(word, 0);
            Check.dueFault(" " + word + " 1 1;", 1);
            Check.dueFault("worth 0 " + word + ";", 8);
        }
    }

    private static void numbersAbove99() {
        Check.sentence("a NUMBER above 99 or with a 0 ahead of others, that TOKEN's");
        Check.dueFault("tear 100;", 5);
        // 10 and 11 are cells, with a digit more they are none
        Check.dueFault("map 4 4;worth 100 1;", 14);
        Check.dueFault("map 4 4;quarrel 0 111;", 18);
        Check.dueFault("map 4 4;quarrel 1000 0;", 16);
        // 1 where 32 or 64 bits wrap around
        Check.dueFault("tear 4294967297;", 5);
        Check.dueFault("tear 18446744073709551617;", 5);
        Check.dueFault("tear " + "1".repeat(190) + ";", 5);
        Check.dueFault("worth 0 00;", 8);
        Check.dueFault("worth 00 1;", 6);
        Check.dueFault("tear 01;", 5);
        Check.dueFault("tear 001;", 5);
        Check.dueFault("map 02 2;", 4);
        Check.dueItems("worth 0 0;", 1);
        Check.dueItems("map 4 4;worth 10 1;", 2);
    }

    /** Every beginning of a text: a word that is cut is none of these, else the end comes too early. */
    private static void endsTooEarly() {
        Check.sentence("the text's length, if it ends too early");
        String whole = " map 3 2 ;worth 5 9;quarrel 0 5;tear 9; ";
        int items = 0;
        for (int length = 0; length <= whole.length(); length++) {
            String text = whole.substring(0, length);
            String last = text.replaceAll(".*[^a-z]", "");
            if (text.endsWith(";")) {
                items++;
            }
            if (text.isBlank() || text.trim().endsWith(";")) {
                Check.dueItems(text, items);
            } else if (last.isEmpty() || " map worth quarrel tear ".contains(" " + last + " ")) {
                Check.dueFault(text, length);
            } else {
                Check.dueFault(text, length - last.length());
            }
        }
    }

    public static void main(String[] args) {
        wideIsOneToFour();
        highIsOneToFour();
        threeAndTwoAtFirst();
        numberedRowByRow();
        worthIsNoneToNine();
        frontsLookUpWhenFlat();
        sixQuarrelsAtMost();
        tearIsOneToNine();
        twoHundredBytesAtMost();
        blanksAreBytes32Alone();
        blanksThatAreNeeded();
        noItemsToo();
        itemsEndBySemicolons();
        itemsHaveTheirNumbers();
        mapIsTheFirst();
        cellsAreThoseOfTheMapThatIsTold();
        laterWorthCounts();
        quarrelsAreUnlike();
        tearIsToldOnce();
        wordsAreOfLettersAToZ();
        faultIsTheFirstToken();
        mapBehindAnotherItem();
        seventhQuarrel();
        secondTear();
        secondCellIsTheFirst();
        numberBeyondWhatItMayBe();
        byteThatBeginsNone();
        wordThatIsNoneOfThese();
        numbersAbove99();
        endsTooEarly();
        Check.end();
    }
}
