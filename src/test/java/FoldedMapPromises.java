import java.lang.reflect.Field;
import java.lang.reflect.Method;
import java.lang.reflect.Modifier;
import java.util.Arrays;
import java.util.TreeSet;
import java.util.regex.Matcher;
import java.util.regex.Pattern;

/** Each promise of the document by itself: ordinary inputs, the edges it names, wrong inputs. */
public final class FoldedMapPromises {
    private static final int BAD = -1, STATE = -2, FULL = -3, NONE = -9, NOT_SO_MANY = -5;
    private static final int NO = -1000000;

    /** The face as the document writes it, a row a method: the same text is made of the class. */
    private static void face() {
        Check.sentence("The public face");
        TreeSet<String> asTold = new TreeSet<>();
        Matcher row = Pattern.compile("public (int|long) (\\w+)\\(([^)]*)\\);").matcher(Check.document());
        while (row.find()) {
            asTold.add(row.group(1) + " " + row.group(2) + "(" + row.group(3).replaceAll(" \\w+(?=,|$)", "") + ")");
        }
        Check.due("how many methods the document tells", asTold.size(), 21);
        TreeSet<String> methods = new TreeSet<>();
        for (Method method : FoldedMap.class.getDeclaredMethods()) {
            if (!Modifier.isPrivate(method.getModifiers())) {
                methods.add(method.getReturnType() + " " + method.getName()
                    + Arrays.toString(method.getParameterTypes()).replace('[', '(').replace(']', ')'));
                Check.due(method.getName() + " is public, and no more", method.getModifiers(), Modifier.PUBLIC);
            }
        }
        Check.due("the methods", methods.toString(), asTold.toString());
        Check.due("the class", FoldedMap.class.getModifiers(), Modifier.PUBLIC | Modifier.FINAL);
        Check.due("the constructors", Arrays.toString(FoldedMap.class.getDeclaredConstructors()),
            "[public FoldedMap()]");
    }

    private static void constants() {
        Check.sentence("public static final int BAD = -1, STATE = -2, FULL = -3, NONE = -9;");
        Check.due("BAD", FoldedMap.BAD, BAD);
        Check.due("STATE", FoldedMap.STATE, STATE);
        Check.due("FULL", FoldedMap.FULL, FULL);
        Check.due("NONE", FoldedMap.NONE, NONE);
        Check.due("NO", FoldedMap.NO, NO);
        TreeSet<String> constants = new TreeSet<>();
        for (Field field : FoldedMap.class.getDeclaredFields()) {
            if (!Modifier.isPrivate(field.getModifiers())) {
                constants.add(field.toString().replace("FoldedMap.", ""));
            }
        }
        Check.due("the fields that are not private", constants.toString(), "[public static final int BAD, "
            + "public static final int FULL, public static final int NO, public static final int NONE, "
            + "public static final int STATE]");
    }

    private static void promise1() {
        Check.sentence("Promise 1: A new object");
        FoldedMap m = new FoldedMap();
        int[] counts = {3, 2, 0, 3, 0, 0, 0, 0};
        for (int what = 0; what <= 7; what++) {
            Check.due("count(" + what + ")", m.count(what), counts[what]);
        }
        for (int c = 0; c < 6; c++) {
            int[] told = {c % 3, c / 3, 0, 1, 1, 0};
            for (int what = 0; what <= 5; what++) {
                Check.due("cell(" + c + ", " + what + ")", m.cell(c, what), told[what]);
            }
        }
        Check.due("trace()", m.trace(), 0);
        Check.due("undo()", m.undo(), STATE);
        Check.due("back(0)", m.back(0), STATE);
        Check.due("back(1)", m.back(1), STATE);
        Check.due("bent(0, 1)", m.bent(0, 1), 0);
    }

    private static void promise2() {
        Check.sentence("Promise 2: type");
        FoldedMap m = new FoldedMap();
        Check.due("type(.., 0)", m.type(65, 0), BAD);
        Check.due("type(.., -1)", m.type(65, -1), BAD);
        Check.due("type(.., 9)", m.type(65, 9), BAD);
        Check.due("type(.., MAX)", m.type(65, Integer.MAX_VALUE), BAD);
        Check.due("type(.., MIN)", m.type(65, Integer.MIN_VALUE), BAD);
        Check.due("count(7)", m.count(7), 0);
        // "xtear 5;" of which the lowest seven bytes count
        Check.due("type(tear 5;, 7)", m.type(0x7874656172203500L | 0x3BL, 7), 7);
        Check.due("map()", m.map(), 1);
        Check.due("count(3)", m.count(3), 5);
        for (int i = 1; i <= 24; i++) {
            Check.due("type of eight blanks", m.type(0x2020202020202020L, 8), 8 * i);
        }
        Check.due("type(.., 1)", m.type(32, 1), 193);
        String before = Check.allOf(m);
        Check.due("type(.., 8)", m.type(32, 8), FULL);
        Check.due("type(.., 9) of a text nearly full", m.type(32, 9), BAD);
        Check.dueSame("a type that is refused", m, before);
        Check.due("type(.., 7)", m.type(0x20202020202020L, 7), 200);
        Check.due("type(.., 1) of a full text", m.type(32, 1), FULL);
        Check.due("map() of 200 blanks", m.map(), 0);
        Check.due("type(-1, 8)", m.type(-1, 8), 8);
        Check.due("map() of bytes 255", m.map(), -10);
    }

    private static void promise3() {
        Check.sentence("Promise 3: clear");
        FoldedMap m = new FoldedMap();
        Check.due("clear()", m.clear(), 0);
        Check.type(m, "tear 5;tear");
        Check.due("clear()", m.clear(), 11);
        Check.due("clear()", m.clear(), 0);
        Check.due("count(7)", m.count(7), 0);
        Check.due("map()", m.map(), 0);
        Check.due("count(3)", m.count(3), 3);
    }

    private static void promise4() {
        Check.sentence("Promise 4: map");
        Check.dueItems("", 0);
        Check.dueItems("    ", 0);
        Check.dueItems("map 4 1;", 1);
        Check.dueItems("  map4  1 ;worth3 9;worth 3 0;quarrel0 3;tear1; ", 5);
        Check.dueItems("quarrel 0 1;quarrel 0 1;quarrel 1 0;quarrel 4 5;quarrel 5 0;quarrel 0 1;", 6);
        Check.dueItems("map 4 4;worth 15 0;quarrel 15 0;tear 9;", 4);
        Check.dueItems("map 1 1;worth 0 9;", 2);
        Check.dueItems("tear 1;worth 5 1;", 2);
        promise4Faults();
        promise4Anew();
    }

    private static void promise4Faults() {
        Check.dueFault(";", 0);
        Check.dueFault("  ;", 2);
        Check.dueFault("map 0 2;", 4);
        Check.dueFault("map 2 5;", 6);
        Check.dueFault("map 2 2 ;;", 9);
        Check.dueFault("map 2 2", 7);
        Check.dueFault("map 2   ", 8);
        Check.dueFault("map", 3);
        Check.dueFault("ma", 0);
        Check.dueFault("maps 2 2;", 0);
        Check.dueFault("Map 2 2;", 0);
        Check.dueFault("nap 2 2;", 0);
        Check.dueFault("mapz 2 2;", 0);
        Check.dueFault("map 2 2;\0", 8);
        Check.dueFault("\0", 0);
        Check.dueFault("map\t2 2;", 3);
        Check.dueFault("map 2 2;map 2 2;", 8);
        Check.dueFault("tear 3; map 2 2;", 8);
        Check.dueFault("map 22;", 4);
        Check.dueFault("map 2 02;", 6);
        Check.dueFault("map 2 100;", 6);
        Check.dueFault("worth 00 1;", 6);
        Check.dueFault("worth 6 1;", 6);
        Check.dueFault("map 1 1;worth 1 1;", 14);
        Check.dueFault("worth 0 10;", 8);
        Check.dueFault("worth 0 4294967297;", 8);
        Check.dueFault("worth 4294967296 1;", 6);
        Check.dueFault("worth tear", 6);
        Check.dueFault("quarrel 2 2;", 10);
        Check.dueFault("quarrel 6 2;", 8);
        Check.dueFault("quarrel 2 6;", 10);
        Check.dueFault("quarrel 2;", 9);
        Check.dueFault("quarrel 0 1;quarrel 0 1;quarrel 0 1;quarrel 0 1;quarrel 0 1;quarrel 0 1;quarrel", 72);
        Check.dueFault("tear 0;", 5);
        Check.dueFault("tear 10;", 5);
        Check.dueFault("tear 3 3;", 7);
        Check.dueFault("tear 3;tear 3;", 7);
        Check.dueFault("tear 3;maptear", 7);
        Check.dueFault("tear 3 -", 7);
        Check.dueFault("3", 0);
        Check.dueFault("tear -1;", 5);
    }

    private static void promise4Anew() {
        FoldedMap m = Check.read("map 4 3;worth 0 7;worth 0 8;quarrel 0 1;tear 5;");
        Check.due("count(0)", m.count(0), 4);
        Check.due("count(1)", m.count(1), 3);
        Check.due("count(2)", m.count(2), 1);
        Check.due("count(3)", m.count(3), 5);
        Check.due("cell(0, 4)", m.cell(0, 4), 8);
        Check.due("cell(11, 1)", m.cell(11, 1), 2);
        m.fold(0, 1, 0, 1);
        m.fold(1, 1, 0, 1);
        m.day();
        m.fold(0, 2, 0, 1);
        m.saw(0, 11);
        m.keep(0);
        m.keep(1);
        m.rate(0, 0);
        Check.type(m, "worth 0 2;x");
        String before = Check.allOf(m);
        Check.due("map() with a fault", m.map(), -20);
        Check.dueSame("map() with a fault", m, before);
        Check.due("clear()", m.clear(), 11);
        Check.type(m, "worth 11 2;");
        Check.due("map(): the map is as at first where it is not told", m.map(), -16);
        m.clear();
        Check.due("map() of no item", m.map(), 0);
        Check.due("trace() goes on", m.trace(), 1);
        Check.due("back(0)", m.back(0), STATE);
        Check.due("back(1)", m.back(1), STATE);
        Check.due("undo()", m.undo(), STATE);
        m.rate(0, 0);
        FoldedMap fresh = new FoldedMap();
        fresh.rate(0, 0);
        fresh.rate(0, 0);
        Check.dueSame("map() of no item", m, Check.allOf(fresh));
        Check.type(m, "tear 9;");
        Check.due("map()", m.map(), 1);
        Check.type(m, "tear 8;");
        Check.due("map(): tear may be told once in each text", m.map(), 1);
        Check.due("count(3)", m.count(3), 8);
    }

    private static void promise5() {
        Check.sentence("Promise 5: cell");
        FoldedMap m = Check.read("map 4 2;worth 1 6;worth 2 0;");
        Check.due("fold(0, 3, 1, 0)", m.fold(0, 3, 1, 0), 2);
        int[] ofThree = {2, 0, 0, 0, 1, 0};
        int[] ofTwo = {2, 0, 1, 1, 0, 0};
        for (int what = 0; what <= 5; what++) {
            Check.due("cell(3, " + what + ")", m.cell(3, what), ofThree[what]);
            Check.due("cell(2, " + what + ")", m.cell(2, what), ofTwo[what]);
        }
        Check.due("fold(0, 2, 0, 1)", m.fold(0, 2, 0, 1), 3);
        Check.due("cell(1, 0)", m.cell(1, 0), 0);
        Check.due("cell(0, 0)", m.cell(0, 0), 1);
        Check.due("cell(1, 2)", m.cell(1, 2), 2);
        Check.due("cell(2, 5)", m.cell(2, 5), 6);
        Check.due("cell(1, 5)", m.cell(1, 5), 0);
        FoldedMap first = Check.read("map 2 1;worth 0 8;");
        first.fold(0, 1, 1, 1);
        Check.due("cell(1, 5)", first.cell(1, 5), 8);
        Check.due("cell(8, 0)", m.cell(8, 0), BAD);
        Check.due("cell(-1, 0)", m.cell(-1, 0), BAD);
        Check.due("cell(0, -1)", m.cell(0, -1), BAD);
        Check.due("cell(0, 6)", m.cell(0, 6), BAD);
        for (int far : Check.FAR) {
            Check.due("cell(" + far + ", 0)", m.cell(far, 0), BAD);
            Check.due("cell(0, " + far + ")", m.cell(0, far), BAD);
        }
    }

    private static void promise6() {
        Check.sentence("Promise 6: at");
        FoldedMap m = Check.read("map 3 1;");
        Check.due("fold(0, 2, 0, 0)", m.fold(0, 2, 0, 0), 2);
        Check.due("at(0, 0, 0)", m.at(0, 0, 0), 1);
        Check.due("at(0, 0, 1)", m.at(0, 0, 1), 2);
        Check.due("at(1, 0, 0)", m.at(1, 0, 0), 0);
        Check.due("at(1, 0, 1)", m.at(1, 0, 1), NONE);
        Check.due("at(2, 0, 0)", m.at(2, 0, 0), NONE);
        Check.due("at(0, 1, 0)", m.at(0, 1, 0), NONE);
        Check.due("at(MAX, MAX, MAX)", m.at(Integer.MAX_VALUE, Integer.MAX_VALUE, Integer.MAX_VALUE), NONE);
        Check.due("at(-1, 0, 0)", m.at(-1, 0, 0), BAD);
        Check.due("at(0, -1, 0)", m.at(0, -1, 0), BAD);
        Check.due("at(0, 0, -1)", m.at(0, 0, -1), BAD);
        Check.due("at(99, 99, MIN)", m.at(99, 99, Integer.MIN_VALUE), BAD);
    }

    private static void promise7() {
        Check.sentence("Promise 7: fold");
        FoldedMap m = Check.read("map 4 2;tear 1;");
        String before = Check.allOf(m);
        int[][] bad = {{-1, 1, 0, 0}, {2, 1, 0, 0}, {0, 0, 0, 0}, {0, 4, 0, 0}, {0, 1, -1, 0}, {0, 1, 2, 0},
            {0, 1, 0, -1}, {0, 1, 0, 2}, {1, 5, 0, 0}, {Integer.MIN_VALUE, Integer.MAX_VALUE, 0, 0}};
        for (int[] f : bad) {
            Check.due("fold" + Arrays.toString(f), m.fold(f[0], f[1], f[2], f[3]), BAD);
        }
        Check.due("fold(1, 2, 0, 0)", m.fold(1, 2, 0, 0), STATE);
        Check.due("fold(1, 3, 0, 0)", m.fold(1, 3, 0, 0), STATE);
        Check.dueSame("folds that are refused", m, before);
        Check.due("fold(0, 3, 1, 1)", m.fold(0, 3, 1, 1), 2);
        Check.due("packet(0)", m.packet(0), 3);
        Check.due("fold(0, 3, 1, 1)", m.fold(0, 3, 1, 1), STATE);
        Check.due("fold(0, 1, 1, 0)", m.fold(0, 1, 1, 0), 2);
        Check.due("packet(0)", m.packet(0), 2);
        // the places went below 0 and grew again: 2 and 3 lie ahead of 0 and 1 now
        Check.due("at(0, 0, 0)", m.at(0, 0, 0), 3);
        Check.due("at(0, 0, 1)", m.at(0, 0, 1), 2);
        Check.due("at(1, 0, 0)", m.at(1, 0, 0), 1);
        Check.due("at(1, 0, 1)", m.at(1, 0, 1), 0);
        Check.due("day()", m.day(), 1);
        before = Check.allOf(m);
        Check.due("fold(0, 3, 0, 0): it would tear", m.fold(0, 3, 0, 0), STATE);
        Check.due("fold(0, 1, 0, 0): it would tear", m.fold(0, 1, 0, 0), STATE);
        Check.dueSame("a fold that would tear", m, before);
        Check.due("fold(0, 2, 0, 0)", m.fold(0, 2, 0, 0), 2);
        Check.due("fold(0, 1, 0, 0): it would tear", m.fold(0, 1, 0, 0), STATE);
        Check.due("fold(1, 1, 1, 1)", m.fold(1, 1, 1, 1), 4);
        FoldedMap often = Check.read("map 2 1;");
        for (int i = 1; i <= 3; i++) {
            Check.due("fold(0, 1, 1, 0)", often.fold(0, 1, 1, 0), 2);
            Check.due("day()", often.day(), i);
        }
        Check.due("fold(0, 1, 1, 0): more than three times", often.fold(0, 1, 1, 0), STATE);
    }

    private static void promise8() {
        Check.sentence("Promise 8: undo");
        String text = "map 4 4;tear 1;";
        int[] folds = {16 + 4 + 2, 1, 8 + 2, 8 + 4 + 1, 0, 4 + 2 + 1};
        for (int left = 5; left >= 0; left--) {
            FoldedMap m = Check.folded(text, folds);
            Check.due("packet(2)", m.packet(2), 16);
            for (int more = 5; more >= left; more--) {
                Check.due("undo()", m.undo(), more);
            }
            Check.dueSame("undo() to " + left, m, Check.allOf(Check.folded(text, Arrays.copyOf(folds, left))));
        }
        FoldedMap m = Check.read(text);
        Check.due("undo()", m.undo(), STATE);
        Check.dueSame("undo() of nothing", m, Check.allOf(Check.read(text)));
        m.fold(0, 2, 0, 0);
        m.rate(0, 0);
        Check.due("undo()", m.undo(), 0);
        Check.due("trace() goes on", m.trace(), 1);
        m.fold(0, 2, 0, 0);
        m.day();
        Check.due("undo() in a new day", m.undo(), STATE);
        Check.due("bent(1, 2)", m.bent(1, 2), 1);
    }

    private static void promise9() {
        Check.sentence("Promise 9: day");
        FoldedMap m = new FoldedMap();
        m.fold(0, 1, 0, 1);
        m.saw(0, 1);
        m.keep(0);
        for (int i = 1; i <= 20; i++) {
            Check.due("day()", m.day(), i);
            Check.due("count(5)", m.count(5), i);
        }
        Check.due("packet(0)", m.packet(0), 3);
        Check.due("packet(2)", m.packet(2), 1);
        Check.due("cell(0, 3)", m.cell(0, 3), 1);
        Check.due("cell(0, 2)", m.cell(0, 2), 0);
        Check.due("bent(0, 1)", m.bent(0, 1), 1);
        Check.due("bent(3, 4)", m.bent(3, 4), 1);
        Check.due("count(6)", m.count(6), 0);
        Check.due("undo()", m.undo(), STATE);
        Check.due("count(4)", m.count(4), 1);
        Check.due("back(0)", m.back(0), 0);
    }

    private static void promise10() {
        Check.sentence("Promise 10: bent");
        FoldedMap m = new FoldedMap();
        m.fold(0, 1, 1, 1);
        Check.due("bent(0, 1)", m.bent(0, 1), 1);
        Check.due("bent(1, 0)", m.bent(1, 0), 1);
        Check.due("bent(4, 3)", m.bent(4, 3), 1);
        Check.due("bent(1, 2)", m.bent(1, 2), 0);
        Check.due("bent(0, 3)", m.bent(0, 3), 0);
        m.fold(1, 1, 0, 0);
        Check.due("bent(0, 3)", m.bent(0, 3), 1);
        Check.due("bent(5, 2)", m.bent(5, 2), 1);
        m.day();
        m.fold(0, 1, 0, 0);
        Check.due("bent(0, 1)", m.bent(0, 1), 2);
        Check.due("bent(0, 0)", m.bent(0, 0), BAD);
        Check.due("bent(2, 3)", m.bent(2, 3), BAD);
        Check.due("bent(0, 2)", m.bent(0, 2), BAD);
        Check.due("bent(0, 4)", m.bent(0, 4), BAD);
        Check.due("bent(5, 6)", m.bent(5, 6), BAD);
        Check.due("bent(3, 6)", m.bent(3, 6), BAD);
        Check.due("bent(-1, 0)", m.bent(-1, 0), BAD);
        for (int far : Check.FAR) {
            Check.due("bent(" + far + ", 0)", m.bent(far, 0), BAD);
            Check.due("bent(0, " + far + ")", m.bent(0, far), BAD);
            Check.due("bent(far, far + 1)", m.bent(far, far + 1), BAD);
        }
    }

    private static void promise11() {
        Check.sentence("Promise 11: touch");
        FoldedMap m = Check.read("map 4 1;");
        Check.due("touch(0, 1) when flat", m.touch(0, 1), 0);
        m.fold(0, 1, 0, 0);
        Check.due("touch(0, 1)", m.touch(0, 1), 2);
        Check.due("touch(1, 0)", m.touch(1, 0), 2);
        m.fold(0, 1, 0, 1);
        Check.due("touch(0, 2)", m.touch(0, 2), 0);
        Check.due("touch(1, 2)", m.touch(1, 2), 1);
        Check.due("touch(2, 1)", m.touch(2, 1), 1);
        m.fold(0, 1, 1, 0);
        Check.due("touch(3, 2)", m.touch(3, 2), 2);
        Check.due("touch(3, 1)", m.touch(3, 1), 0);
        m.day();
        m.fold(0, 2, 0, 1);
        m.fold(0, 1, 1, 1);
        Check.due("touch(1, 0)", m.touch(1, 0), 2);
        m.day();
        m.fold(0, 1, 0, 1);
        m.fold(0, 1, 0, 1);
        Check.due("touch(0, 2)", m.touch(0, 2), 3);
        Check.due("touch(2, 0)", m.touch(2, 0), 3);
        Check.due("touch(0, 0)", m.touch(0, 0), BAD);
        Check.due("touch(0, 4)", m.touch(0, 4), BAD);
        Check.due("touch(4, 0)", m.touch(4, 0), BAD);
        Check.due("touch(-1, 0)", m.touch(-1, 0), BAD);
        Check.due("touch(0, -1)", m.touch(0, -1), BAD);
        for (int far : Check.FAR) {
            Check.due("touch(" + far + ", 0)", m.touch(far, 0), BAD);
            Check.due("touch(0, " + far + ")", m.touch(0, far), BAD);
        }
    }

    private static void promise12() {
        Check.sentence("Promise 12: packet");
        FoldedMap m = Check.read("map 4 3;quarrel 0 3;quarrel 3 0;quarrel 4 8;quarrel 1 6;");
        int[] flat = {4, 3, 1, 0, 0};
        for (int what = 0; what <= 4; what++) {
            Check.due("packet(" + what + ") flat", m.packet(what), flat[what]);
        }
        m.fold(0, 2, 0, 1);
        int[] once = {2, 3, 2, 2, 6};
        for (int what = 0; what <= 4; what++) {
            Check.due("packet(" + what + ") folded", m.packet(what), once[what]);
        }
        m.fold(1, 2, 1, 0);
        int[] twice = {2, 2, 4, 2, 6};
        for (int what = 0; what <= 4; what++) {
            Check.due("packet(" + what + ") folded twice", m.packet(what), twice[what]);
        }
        FoldedMap most = Check.read("map 4 4;quarrel 0 3;quarrel 1 2;quarrel 0 1;quarrel 12 15;quarrel 2 1;quarrel 3 4;");
        Check.due("packet(3) of the largest map", most.packet(3), 0);
        Check.due("packet(4) of the largest map", most.packet(4), 0);
        most.fold(0, 2, 0, 1);
        Check.due("packet(3): a quarrel told twice counts twice", most.packet(3), 4);
        Check.due("packet(4)", most.packet(4), 8);
        Check.due("packet(-1)", m.packet(-1), BAD);
        Check.due("packet(5)", m.packet(5), BAD);
        for (int far : Check.FAR) {
            Check.due("packet(" + far + ")", m.packet(far), BAD);
        }
    }

    private static void promise13() {
        Check.sentence("Promise 13: reach");
        FoldedMap m = Check.read("map 4 4;tear 1;");
        String before = Check.allOf(m);
        Check.due("reach(5, 6, -1)", m.reach(5, 6, -1), 1);
        Check.due("reach(5, 6, 0)", m.reach(5, 6, 0), 4 + 8);
        Check.due("reach(5, 6, 1)", m.reach(5, 6, 1), NOT_SO_MANY);
        Check.due("reach(5, 6, MAX)", m.reach(5, 6, Integer.MAX_VALUE), NOT_SO_MANY);
        Check.due("reach(12, 0, 0)", m.reach(12, 0, 0), 1 + 4 + 8);
        Check.due("reach(4, 8, 0)", m.reach(4, 8, 0), 1 + 4 + 8);
        Check.due("reach(12, 8, 0)", m.reach(12, 8, 0), 1 + 4 + 16);
        Check.due("reach(0, 15, 0)", m.reach(0, 15, 0), NONE);
        Check.due("reach(0, 15, 7)", m.reach(0, 15, 7), NONE);
        Check.due("reach(0, 15, -2)", m.reach(0, 15, -2), BAD);
        Check.dueSame("reach()", m, before);
        m.fold(0, 2, 0, 1);
        Check.due("reach(1, 2, -1)", m.reach(1, 2, -1), 0);
        Check.due("reach(1, 2, 0)", m.reach(1, 2, 0), NOT_SO_MANY);
        Check.due("reach(0, 1, -1): two that the first fold laid back out", m.reach(0, 1, -1), NONE);
        m.day();
        Check.due("reach(1, 2, -1): creases are not asked", m.reach(1, 2, -1), 1);
        FoldedMap covered = Check.read("map 3 1;");
        covered.fold(0, 1, 0, 1);
        Check.due("reach(1, 2, -1): 0 lies on 1", covered.reach(1, 2, -1), NONE);
        promise13Wrong(new FoldedMap());
    }

    private static void promise13Wrong(FoldedMap m) {
        Check.due("reach(0, 5, 0)", m.reach(0, 5, 0), 1);
        Check.due("reach(0, 5, 1)", m.reach(0, 5, 1), 4);
        Check.due("reach(0, 5, 2)", m.reach(0, 5, 2), 4);
        Check.due("reach(0, 5, 3)", m.reach(0, 5, 3), NOT_SO_MANY);
        Check.due("reach(0, 0, -1)", m.reach(0, 0, -1), BAD);
        Check.due("reach(0, 6, -1)", m.reach(0, 6, -1), BAD);
        Check.due("reach(6, 0, -1)", m.reach(6, 0, -1), BAD);
        Check.due("reach(-1, 0, -1)", m.reach(-1, 0, -1), BAD);
        Check.due("reach(0, 1, MIN)", m.reach(0, 1, Integer.MIN_VALUE), BAD);
        for (int far : Check.FAR) {
            Check.due("reach(" + far + ", 0, 0)", m.reach(far, 0, 0), BAD);
            Check.due("reach(0, " + far + ", 0)", m.reach(0, far, 0), BAD);
        }
    }

    private static void promise14() {
        Check.sentence("Promise 14: serves");
        FoldedMap m = Check.read("map 3 3;worth 1 0;worth 3 0;worth 4 9;worth 0 5;tear 1;");
        String before = Check.allOf(m);
        Check.due("serves(4, -1): none is worth more", m.serves(4, -1), 1);
        Check.due("serves(4, 0)", m.serves(4, 0), 4 + 8);
        Check.due("serves(4, 1)", m.serves(4, 1), NOT_SO_MANY);
        Check.due("serves(5, -1)", m.serves(5, -1), 9);
        Check.due("serves(5, 0)", m.serves(5, 0), 4 + 8);
        Check.due("serves(3, -1)", m.serves(3, -1), 9);
        Check.due("serves(3, 0)", m.serves(3, 0), 4);
        Check.due("serves(0, -1)", m.serves(0, -1), 0);
        Check.due("serves(0, 0): no fold is the fewest", m.serves(0, 0), NOT_SO_MANY);
        Check.dueSame("serves()", m, before);
        m.fold(0, 1, 0, 1);
        Check.due("serves(4, -1)", m.serves(4, -1), 0);
        m.day();
        Check.due("serves(3, -1): creases are not asked", m.serves(3, -1), 9);
        promise14Twice();
        Check.due("serves(9, -1)", m.serves(9, -1), BAD);
        Check.due("serves(-1, -1)", m.serves(-1, -1), BAD);
        Check.due("serves(0, -2)", m.serves(0, -2), BAD);
        Check.due("serves(0, MIN)", m.serves(0, Integer.MIN_VALUE), BAD);
        Check.due("serves(0, MAX)", m.serves(0, Integer.MAX_VALUE), NOT_SO_MANY);
        for (int far : Check.FAR) {
            Check.due("serves(" + far + ", 0)", m.serves(far, 0), BAD);
        }
    }

    private static void promise14Twice() {
        FoldedMap m = Check.read("map 4 1;worth 0 6;");
        m.fold(0, 3, 0, 0);
        Check.due("serves(2, 0)", m.serves(2, 0), 0);
        Check.due("serves(2, 1)", m.serves(2, 1), NOT_SO_MANY);
        Check.due("serves(3, -1)", m.serves(3, -1), 6);
        Check.due("serves(3, 0)", m.serves(3, 0), 0);
        Check.due("serves(3, 1)", m.serves(3, 1), 0);
        Check.due("serves(3, 2)", m.serves(3, 2), NOT_SO_MANY);
        Check.due("reach(0, 3, -1)", m.reach(0, 3, -1), 2);
    }

    private static void promise15() {
        Check.sentence("Promise 15: saw");
        FoldedMap m = new FoldedMap();
        Check.due("saw(0, 0)", m.saw(0, 0), BAD);
        Check.due("saw(0, 6)", m.saw(0, 6), BAD);
        Check.due("saw(6, 0)", m.saw(6, 0), BAD);
        Check.due("saw(-1, 0)", m.saw(-1, 0), BAD);
        Check.due("saw(0, -1)", m.saw(0, -1), BAD);
        for (int far : Check.FAR) {
            Check.due("saw(" + far + ", 0)", m.saw(far, 0), BAD);
            Check.due("saw(0, " + far + ")", m.saw(0, far), BAD);
        }
        Check.due("count(4)", m.count(4), 0);
        for (int i = 1; i <= 6; i++) {
            Check.due("saw(0, 5)", m.saw(0, 5), i);
        }
        Check.due("saw(0, 1)", m.saw(0, 1), FULL);
        Check.due("saw(1, 1) when full", m.saw(1, 1), BAD);
        Check.due("count(4)", m.count(4), 6);
    }

    private static void promise16() {
        Check.sentence("Promise 16: forget");
        FoldedMap m = new FoldedMap();
        Check.due("forget()", m.forget(), 0);
        m.saw(0, 2);
        m.saw(1, 2);
        Check.due("forget()", m.forget(), 2);
        Check.due("count(4)", m.count(4), 0);
        Check.due("fits(0)", m.fits(0), 1);
        Check.due("saw(0, 1)", m.saw(0, 1), 1);
    }

    private static void promise17() {
        Check.sentence("Promise 17: fits");
        FoldedMap m = Check.read("map 4 4;tear 1;");
        Check.due("fits(0)", m.fits(0), 1);
        Check.due("fits(1)", m.fits(1), 24);
        Check.due("fits(2)", m.fits(2), 448);
        m.fold(0, 2, 0, 0);
        m.day();
        m.fold(1, 1, 0, 0);
        Check.due("fits(1): from the flat map, creases are not asked", m.fits(1), 24);
        m.saw(2, 1);
        Check.due("fits(0)", m.fits(0), 0);
        Check.due("fits(1): any way", m.fits(1), 4);
        m.saw(0, 3);
        Check.due("fits(1)", m.fits(1), 4);
        m.saw(0, 4);
        Check.due("fits(1)", m.fits(1), 0);
        Check.due("fits(2)", m.fits(2), 16);
        Check.due("fits(-1)", m.fits(-1), BAD);
        Check.due("fits(3)", m.fits(3), BAD);
        for (int far : Check.FAR) {
            Check.due("fits(" + far + ")", m.fits(far), BAD);
        }
        FoldedMap single = Check.read("map 1 1;");
        Check.due("fits(0) of one cell", single.fits(0), 1);
        Check.due("fits(1) of one cell", single.fits(1), 0);
        Check.due("fits(2) of one cell", single.fits(2), 0);
    }

    private static void promise18() {
        Check.sentence("Promise 18: rate");
        FoldedMap m = Check.read("map 2 1;worth 0 4;worth 1 7;");
        m.day();
        m.day();
        m.fold(0, 1, 0, 1);
        int[] rates = {4, 4 + 7, 4 - 1, 2 * (4 + 7), 4 - 1 + 1, 4 + 2};
        long[] marks = {1, 11, 101, 1011, 10101, 100001};
        long sum = 0;
        for (int kind = 0; kind <= 5; kind++) {
            Check.due("rate(" + kind + ", 0)", m.rate(kind, 0), rates[kind]);
            sum += marks[kind];
            Check.due("trace()", m.trace(), sum);
        }
        Check.due("rate(-1, 0)", m.rate(-1, 0), NO);
        Check.due("rate(6, 0)", m.rate(6, 0), NO);
        Check.due("rate(0, 2)", m.rate(0, 2), NO);
        Check.due("rate(0, -1)", m.rate(0, -1), NO);
        for (int far : Check.FAR) {
            Check.due("rate(" + far + ", 0)", m.rate(far, 0), NO);
            Check.due("rate(0, " + far + ")", m.rate(0, far), NO);
        }
        Check.due("trace() behind what is refused", m.trace(), sum);
        FoldedMap below = Check.read("map 4 1;worth 0 0;");
        below.fold(0, 2, 0, 1);
        below.fold(0, 1, 0, 1);
        Check.due("rate(2, 0): below 0", below.rate(2, 0), -below.cell(0, 2));
        Check.due("cell(0, 2)", below.cell(0, 2), 1);
    }

    private static void promise19() {
        Check.sentence("Promise 19: keep");
        FoldedMap m = new FoldedMap();
        Check.due("keep(-1)", m.keep(-1), BAD);
        Check.due("keep(2)", m.keep(2), BAD);
        for (int far : Check.FAR) {
            Check.due("keep(" + far + ")", m.keep(far), BAD);
        }
        Check.due("back(0)", m.back(0), STATE);
        Check.due("keep(0)", m.keep(0), 0);
        Check.due("back(1)", m.back(1), STATE);
        m.day();
        Check.due("keep(1)", m.keep(1), 1);
        m.day();
        Check.due("keep(0)", m.keep(0), 2);
        m.day();
        Check.due("back(1)", m.back(1), 1);
        Check.due("back(0)", m.back(0), 2);
    }

    private static void promise20() {
        Check.sentence("Promise 20: back");
        FoldedMap m = Check.read("map 3 2;tear 2;");
        m.day();
        m.fold(0, 1, 0, 1);
        m.fold(1, 1, 1, 0);
        String kept = Check.allOf(m);
        m.keep(0);
        m.fold(0, 1, 0, 1);
        m.day();
        m.fold(0, 1, 0, 1);
        Check.due("back(0)", m.back(0), 1);
        Check.dueSame("back(0)", m, kept);
        Check.due("undo()", m.undo(), 1);
        Check.due("undo()", m.undo(), 0);
        Check.due("bent(0, 1)", m.bent(0, 1), 0);
        m.fold(0, 2, 0, 0);
        Check.due("back(0): an image stays, and is not what is undone", m.back(0), 1);
        Check.dueSame("back(0)", m, kept);
        m.saw(0, 1);
        m.rate(0, 0);
        Check.type(m, "tear");
        m.back(0);
        Check.due("count(4): nothing else", m.count(4), 1);
        Check.due("count(7): nothing else", m.count(7), 4);
        Check.due("trace() goes on", m.trace(), 1);
        Check.due("back(1)", m.back(1), STATE);
        Check.due("back(-1)", m.back(-1), BAD);
        Check.due("back(2)", m.back(2), BAD);
        for (int far : Check.FAR) {
            Check.due("back(" + far + ")", m.back(far), BAD);
        }
    }

    private static void promise21() {
        Check.sentence("Promise 21: count");
        FoldedMap m = Check.read("map 2 4;quarrel 0 1;quarrel 2 1;tear 9;");
        m.saw(0, 1);
        m.saw(0, 2);
        m.saw(0, 3);
        m.day();
        m.day();
        m.day();
        m.day();
        m.fold(1, 1, 0, 0);
        Check.type(m, "worth");
        int[] told = {2, 4, 2, 9, 3, 4, 1, 5};
        for (int what = 0; what <= 7; what++) {
            Check.due("count(" + what + ")", m.count(what), told[what]);
        }
        Check.due("count(-1)", m.count(-1), BAD);
        Check.due("count(8)", m.count(8), BAD);
        for (int far : Check.FAR) {
            Check.due("count(" + far + ")", m.count(far), BAD);
        }
    }

    private static void promise22() {
        Check.sentence("Promise 22: trace");
        FoldedMap m = new FoldedMap();
        Check.due("trace()", m.trace(), 0);
        for (int i = 1; i <= 250; i++) {
            m.rate(5, 0);
            Check.due("trace()", m.trace(), 100001L * i);
        }
        m.undo();
        m.day();
        m.map();
        Check.due("trace()", m.trace(), 25000250L);
    }

    public static void main(String[] args) {
        face();
        constants();
        promise1();
        promise2();
        promise3();
        promise4();
        promise5();
        promise6();
        promise7();
        promise8();
        promise9();
        promise10();
        promise11();
        promise12();
        promise13();
        promise14();
        promise15();
        promise16();
        promise17();
        promise18();
        promise19();
        promise20();
        promise21();
        promise22();
        Check.end();
    }
}
