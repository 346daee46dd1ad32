import java.lang.reflect.Modifier;
import java.util.Arrays;
import java.util.TreeSet;

/** Each promise of the document by itself: ordinary inputs, the edges it names, wrong inputs. */
public final class FoldedMapPromises {
    private static final int BAD = -1, STATE = -2, FULL = -3, NONE = -9, NOT_SO_MANY = -5;
    private static final int NO = -1000000;
    private static final int[] FAR = {Integer.MIN_VALUE, -1000, -2, 16, 1000, Integer.MAX_VALUE};

    private static int wrong = 0;
    private static String promise = "";

    private static void due(String call, long got, long want) {
        if (got != want) {
            wrong++;
            System.out.println(promise + ": " + call + " answered " + got + ", due is " + want);
        }
    }

    private static void type(FoldedMap m, String text) {
        for (int i = 0; i < text.length(); i++) {
            m.type(text.charAt(i), 1);
        }
    }

    private static FoldedMap read(String text) {
        FoldedMap m = new FoldedMap();
        type(m, text);
        if (m.map() < 0) {
            due("map() of " + text, -1, 0);
        }
        return m;
    }

    private static void dueFault(String text, int fault) {
        FoldedMap m = new FoldedMap();
        type(m, text);
        due("map() of '" + text + "'", m.map(), -10 - fault);
        due("count(7) behind the fault of '" + text + "'", m.count(7), text.length());
    }

    private static void dueItems(String text, int items) {
        FoldedMap m = new FoldedMap();
        type(m, text);
        due("map() of '" + text + "'", m.map(), items);
        due("count(7) behind '" + text + "'", m.count(7), 0);
    }

    /** All that can be asked without a change, as one text. */
    private static String allOf(FoldedMap m) {
        StringBuilder all = new StringBuilder();
        for (int what = 0; what <= 7; what++) {
            all.append(m.count(what)).append(' ');
        }
        int cells = m.count(0) * m.count(1);
        for (int c = 0; c < cells; c++) {
            for (int what = 0; what <= 5; what++) {
                all.append(m.cell(c, what)).append(' ');
            }
            for (int d = 0; d < cells; d++) {
                all.append(m.bent(c, d)).append(' ').append(m.touch(c, d)).append(' ');
            }
        }
        for (int n = 0; n <= 2; n++) {
            all.append(m.fits(n)).append(' ');
        }
        return all.append(m.packet(3)).append(' ').append(m.trace()).toString();
    }

    private static void dueSame(String call, FoldedMap m, String before) {
        due("state behind " + call, allOf(m).equals(before) ? 1 : 0, 1);
    }

    private static void face() {
        promise = "the face";
        due("BAD", FoldedMap.BAD, BAD);
        due("STATE", FoldedMap.STATE, STATE);
        due("FULL", FoldedMap.FULL, FULL);
        due("NONE", FoldedMap.NONE, NONE);
        due("NO", FoldedMap.NO, NO);
        TreeSet<String> methods = new TreeSet<>();
        for (var method : FoldedMap.class.getDeclaredMethods()) {
            if (!Modifier.isPrivate(method.getModifiers())) {
                methods.add(method.getName() + method.getParameterCount());
            }
        }
        TreeSet<String> asTold = new TreeSet<>(Arrays.asList(("type2 clear0 map0 cell2 at3 fold4 undo0 day0 bent2 "
            + "touch2 packet1 reach3 serves2 saw2 forget0 fits1 rate2 keep1 back1 count1 trace0").split(" ")));
        due("methods " + methods, methods.equals(asTold) ? 1 : 0, 1);
        int fields = 0;
        for (var field : FoldedMap.class.getDeclaredFields()) {
            fields += Modifier.isPrivate(field.getModifiers()) ? 0 : 1;
        }
        due("fields that are not private", fields, 5);
    }

    private static void promise1() {
        promise = "promise 1, a new object";
        FoldedMap m = new FoldedMap();
        int[] counts = {3, 2, 0, 3, 0, 0, 0, 0};
        for (int what = 0; what <= 7; what++) {
            due("count(" + what + ")", m.count(what), counts[what]);
        }
        for (int c = 0; c < 6; c++) {
            int[] told = {c % 3, c / 3, 0, 1, 1, 0};
            for (int what = 0; what <= 5; what++) {
                due("cell(" + c + ", " + what + ")", m.cell(c, what), told[what]);
            }
        }
        due("trace()", m.trace(), 0);
        due("undo()", m.undo(), STATE);
        due("back(0)", m.back(0), STATE);
        due("back(1)", m.back(1), STATE);
        due("bent(0, 1)", m.bent(0, 1), 0);
    }

    private static void promise2() {
        promise = "promise 2, type";
        FoldedMap m = new FoldedMap();
        due("type(.., 0)", m.type(65, 0), BAD);
        due("type(.., -1)", m.type(65, -1), BAD);
        due("type(.., 9)", m.type(65, 9), BAD);
        due("type(.., MAX)", m.type(65, Integer.MAX_VALUE), BAD);
        due("type(.., MIN)", m.type(65, Integer.MIN_VALUE), BAD);
        due("count(7)", m.count(7), 0);
        // "xtear 5;" of which the lowest seven bytes count
        due("type(tear 5;, 7)", m.type(0x7874656172203500L | 0x3BL, 7), 7);
        due("map()", m.map(), 1);
        due("count(3)", m.count(3), 5);
        for (int i = 1; i <= 24; i++) {
            due("type of eight blanks", m.type(0x2020202020202020L, 8), 8 * i);
        }
        due("type(.., 1)", m.type(32, 1), 193);
        String before = allOf(m);
        due("type(.., 8)", m.type(32, 8), FULL);
        due("type(.., 9) of a text nearly full", m.type(32, 9), BAD);
        dueSame("a type that is refused", m, before);
        due("type(.., 7)", m.type(0x20202020202020L, 7), 200);
        due("type(.., 1) of a full text", m.type(32, 1), FULL);
        due("map() of 200 blanks", m.map(), 0);
        due("type(-1, 8)", m.type(-1, 8), 8);
        due("map() of bytes 255", m.map(), -10);
    }

    private static void promise3() {
        promise = "promise 3, clear";
        FoldedMap m = new FoldedMap();
        due("clear()", m.clear(), 0);
        type(m, "tear 5;tear");
        due("clear()", m.clear(), 11);
        due("clear()", m.clear(), 0);
        due("count(7)", m.count(7), 0);
        due("map()", m.map(), 0);
        due("count(3)", m.count(3), 3);
    }

    private static void promise4() {
        promise = "promise 4, map";
        dueItems("", 0);
        dueItems("    ", 0);
        dueItems("map 4 1;", 1);
        dueItems("  map4  1 ;worth3 9;worth 3 0;quarrel0 3;tear1; ", 5);
        dueItems("quarrel 0 1;quarrel 0 1;quarrel 1 0;quarrel 4 5;quarrel 5 0;quarrel 0 1;", 6);
        dueItems("map 4 4;worth 15 0;quarrel 15 0;tear 9;", 4);
        dueItems("map 1 1;worth 0 9;", 2);
        dueItems("tear 1;worth 5 1;", 2);
        promise4Faults();
        promise4Anew();
    }

    private static void promise4Faults() {
        dueFault(";", 0);
        dueFault("  ;", 2);
        dueFault("map 0 2;", 4);
        dueFault("map 2 5;", 6);
        dueFault("map 2 2 ;;", 9);
        dueFault("map 2 2", 7);
        dueFault("map 2   ", 8);
        dueFault("map", 3);
        dueFault("ma", 0);
        dueFault("maps 2 2;", 0);
        dueFault("Map 2 2;", 0);
        dueFault("nap 2 2;", 0);
        dueFault("mapz 2 2;", 0);
        dueFault("map 2 2;\0", 8);
        dueFault("\0", 0);
        dueFault("map\t2 2;", 3);
        dueFault("map 2 2;map 2 2;", 8);
        dueFault("tear 3; map 2 2;", 8);
        dueFault("map 22;", 4);
        dueFault("map 2 02;", 6);
        dueFault("map 2 100;", 6);
        dueFault("worth 00 1;", 6);
        dueFault("worth 6 1;", 6);
        dueFault("map 1 1;worth 1 1;", 14);
        dueFault("worth 0 10;", 8);
        dueFault("worth 0 4294967297;", 8);
        dueFault("worth 4294967296 1;", 6);
        dueFault("worth tear", 6);
        dueFault("quarrel 2 2;", 10);
        dueFault("quarrel 6 2;", 8);
        dueFault("quarrel 2 6;", 10);
        dueFault("quarrel 2;", 9);
        dueFault("quarrel 0 1;quarrel 0 1;quarrel 0 1;quarrel 0 1;quarrel 0 1;quarrel 0 1;quarrel", 72);
        dueFault("tear 0;", 5);
        dueFault("tear 10;", 5);
        dueFault("tear 3 3;", 7);
        dueFault("tear 3;tear 3;", 7);
        dueFault("tear 3;maptear", 7);
        dueFault("tear 3 -", 7);
        dueFault("3", 0);
        dueFault("tear -1;", 5);
    }

    private static void promise4Anew() {
        FoldedMap m = read("map 4 3;worth 0 7;worth 0 8;quarrel 0 1;tear 5;");
        due("count(0)", m.count(0), 4);
        due("count(1)", m.count(1), 3);
        due("count(2)", m.count(2), 1);
        due("count(3)", m.count(3), 5);
        due("cell(0, 4)", m.cell(0, 4), 8);
        due("cell(11, 1)", m.cell(11, 1), 2);
        m.fold(0, 1, 0, 1);
        m.fold(1, 1, 0, 1);
        m.day();
        m.fold(0, 2, 0, 1);
        m.saw(0, 11);
        m.keep(0);
        m.keep(1);
        m.rate(0, 0);
        type(m, "worth 0 2;x");
        String before = allOf(m);
        due("map() with a fault", m.map(), -20);
        dueSame("map() with a fault", m, before);
        due("clear()", m.clear(), 11);
        type(m, "worth 11 2;");
        due("map(): the map is as at first where it is not told", m.map(), -16);
        m.clear();
        due("map() of no item", m.map(), 0);
        due("trace() goes on", m.trace(), 1);
        due("back(0)", m.back(0), STATE);
        due("back(1)", m.back(1), STATE);
        due("undo()", m.undo(), STATE);
        m.rate(0, 0);
        FoldedMap fresh = new FoldedMap();
        fresh.rate(0, 0);
        fresh.rate(0, 0);
        dueSame("map() of no item", m, allOf(fresh));
        type(m, "tear 9;");
        due("map()", m.map(), 1);
        type(m, "tear 8;");
        due("map(): tear may be told once in each text", m.map(), 1);
        due("count(3)", m.count(3), 8);
    }

    private static void promise5() {
        promise = "promise 5, cell";
        FoldedMap m = read("map 4 2;worth 1 6;worth 2 0;");
        due("fold(0, 3, 1, 0)", m.fold(0, 3, 1, 0), 2);
        int[] ofThree = {2, 0, 0, 0, 1, 0};
        int[] ofTwo = {2, 0, 1, 1, 0, 0};
        for (int what = 0; what <= 5; what++) {
            due("cell(3, " + what + ")", m.cell(3, what), ofThree[what]);
            due("cell(2, " + what + ")", m.cell(2, what), ofTwo[what]);
        }
        due("fold(0, 2, 0, 1)", m.fold(0, 2, 0, 1), 3);
        due("cell(1, 0)", m.cell(1, 0), 0);
        due("cell(0, 0)", m.cell(0, 0), 1);
        due("cell(1, 2)", m.cell(1, 2), 2);
        due("cell(2, 5)", m.cell(2, 5), 6);
        due("cell(1, 5)", m.cell(1, 5), 0);
        FoldedMap first = read("map 2 1;worth 0 8;");
        first.fold(0, 1, 1, 1);
        due("cell(1, 5)", first.cell(1, 5), 8);
        due("cell(8, 0)", m.cell(8, 0), BAD);
        due("cell(-1, 0)", m.cell(-1, 0), BAD);
        due("cell(0, -1)", m.cell(0, -1), BAD);
        due("cell(0, 6)", m.cell(0, 6), BAD);
        for (int far : FAR) {
            due("cell(" + far + ", 0)", m.cell(far, 0), BAD);
            due("cell(0, " + far + ")", m.cell(0, far), BAD);
        }
    }

    private static void promise6() {
        promise = "promise 6, at";
        FoldedMap m = read("map 3 1;");
        due("fold(0, 2, 0, 0)", m.fold(0, 2, 0, 0), 2);
        due("at(0, 0, 0)", m.at(0, 0, 0), 1);
        due("at(0, 0, 1)", m.at(0, 0, 1), 2);
        due("at(1, 0, 0)", m.at(1, 0, 0), 0);
        due("at(1, 0, 1)", m.at(1, 0, 1), NONE);
        due("at(2, 0, 0)", m.at(2, 0, 0), NONE);
        due("at(0, 1, 0)", m.at(0, 1, 0), NONE);
        due("at(MAX, MAX, MAX)", m.at(Integer.MAX_VALUE, Integer.MAX_VALUE, Integer.MAX_VALUE), NONE);
        due("at(-1, 0, 0)", m.at(-1, 0, 0), BAD);
        due("at(0, -1, 0)", m.at(0, -1, 0), BAD);
        due("at(0, 0, -1)", m.at(0, 0, -1), BAD);
        due("at(99, 99, MIN)", m.at(99, 99, Integer.MIN_VALUE), BAD);
    }

    private static void promise7() {
        promise = "promise 7, fold";
        FoldedMap m = read("map 4 2;tear 1;");
        String before = allOf(m);
        int[][] bad = {{-1, 1, 0, 0}, {2, 1, 0, 0}, {0, 0, 0, 0}, {0, 4, 0, 0}, {0, 1, -1, 0}, {0, 1, 2, 0},
            {0, 1, 0, -1}, {0, 1, 0, 2}, {1, 5, 0, 0}, {Integer.MIN_VALUE, Integer.MAX_VALUE, 0, 0}};
        for (int[] f : bad) {
            due("fold" + Arrays.toString(f), m.fold(f[0], f[1], f[2], f[3]), BAD);
        }
        due("fold(1, 2, 0, 0)", m.fold(1, 2, 0, 0), STATE);
        due("fold(1, 3, 0, 0)", m.fold(1, 3, 0, 0), STATE);
        dueSame("folds that are refused", m, before);
        due("fold(0, 3, 1, 1)", m.fold(0, 3, 1, 1), 2);
        due("packet(0)", m.packet(0), 3);
        due("fold(0, 3, 1, 1)", m.fold(0, 3, 1, 1), STATE);
        due("fold(0, 1, 1, 0)", m.fold(0, 1, 1, 0), 2);
        due("packet(0)", m.packet(0), 2);
        // the places went below 0 and grew again: 2 and 3 lie ahead of 0 and 1 now
        due("at(0, 0, 0)", m.at(0, 0, 0), 3);
        due("at(0, 0, 1)", m.at(0, 0, 1), 2);
        due("at(1, 0, 0)", m.at(1, 0, 0), 1);
        due("at(1, 0, 1)", m.at(1, 0, 1), 0);
        due("day()", m.day(), 1);
        before = allOf(m);
        due("fold(0, 3, 0, 0): it would tear", m.fold(0, 3, 0, 0), STATE);
        due("fold(0, 1, 0, 0): it would tear", m.fold(0, 1, 0, 0), STATE);
        dueSame("a fold that would tear", m, before);
        due("fold(0, 2, 0, 0)", m.fold(0, 2, 0, 0), 2);
        due("fold(0, 1, 0, 0): it would tear", m.fold(0, 1, 0, 0), STATE);
        due("fold(1, 1, 1, 1)", m.fold(1, 1, 1, 1), 4);
        FoldedMap often = read("map 2 1;");
        for (int i = 1; i <= 3; i++) {
            due("fold(0, 1, 1, 0)", often.fold(0, 1, 1, 0), 2);
            due("day()", often.day(), i);
        }
        due("fold(0, 1, 1, 0): more than three times", often.fold(0, 1, 1, 0), STATE);
    }

    private static void promise8() {
        promise = "promise 8, undo";
        FoldedMap m = read("map 4 4;tear 1;");
        due("undo()", m.undo(), STATE);
        String[] states = new String[7];
        int[][] folds = {{0, 3, 1, 1}, {1, 1, 0, 0}, {0, 2, 1, 0}, {1, 2, 0, 1}, {0, 1, 0, 0}, {1, 1, 1, 1}};
        for (int i = 0; i < 6; i++) {
            states[i] = allOf(m);
            int[] f = folds[i];
            due("fold " + i + " is not refused", m.fold(f[0], f[1], f[2], f[3]) > 0 ? 1 : 0, 1);
            due("count(6)", m.count(6), i + 1);
        }
        due("packet(2)", m.packet(2), 16);
        for (int i = 5; i >= 0; i--) {
            due("undo()", m.undo(), i);
            dueSame("undo() to " + i, m, states[i]);
        }
        due("undo()", m.undo(), STATE);
        dueSame("undo() of nothing", m, states[0]);
        m.fold(0, 2, 0, 0);
        m.rate(0, 0);
        due("undo()", m.undo(), 0);
        due("trace() goes on", m.trace(), 1);
        m.fold(0, 2, 0, 0);
        m.day();
        due("undo() in a new day", m.undo(), STATE);
        due("bent(1, 2)", m.bent(1, 2), 1);
    }

    private static void promise9() {
        promise = "promise 9, day";
        FoldedMap m = new FoldedMap();
        m.fold(0, 1, 0, 1);
        m.saw(0, 1);
        m.keep(0);
        for (int i = 1; i <= 20; i++) {
            due("day()", m.day(), i);
            due("count(5)", m.count(5), i);
        }
        due("packet(0)", m.packet(0), 3);
        due("packet(2)", m.packet(2), 1);
        due("cell(0, 3)", m.cell(0, 3), 1);
        due("cell(0, 2)", m.cell(0, 2), 0);
        due("bent(0, 1)", m.bent(0, 1), 1);
        due("bent(3, 4)", m.bent(3, 4), 1);
        due("count(6)", m.count(6), 0);
        due("undo()", m.undo(), STATE);
        due("count(4)", m.count(4), 1);
        due("back(0)", m.back(0), 0);
    }

    private static void promise10() {
        promise = "promise 10, bent";
        FoldedMap m = new FoldedMap();
        m.fold(0, 1, 1, 1);
        due("bent(0, 1)", m.bent(0, 1), 1);
        due("bent(1, 0)", m.bent(1, 0), 1);
        due("bent(4, 3)", m.bent(4, 3), 1);
        due("bent(1, 2)", m.bent(1, 2), 0);
        due("bent(0, 3)", m.bent(0, 3), 0);
        m.fold(1, 1, 0, 0);
        due("bent(0, 3)", m.bent(0, 3), 1);
        due("bent(5, 2)", m.bent(5, 2), 1);
        m.day();
        m.fold(0, 1, 0, 0);
        due("bent(0, 1)", m.bent(0, 1), 2);
        due("bent(0, 0)", m.bent(0, 0), BAD);
        due("bent(2, 3)", m.bent(2, 3), BAD);
        due("bent(0, 2)", m.bent(0, 2), BAD);
        due("bent(0, 4)", m.bent(0, 4), BAD);
        due("bent(5, 6)", m.bent(5, 6), BAD);
        due("bent(3, 6)", m.bent(3, 6), BAD);
        due("bent(-1, 0)", m.bent(-1, 0), BAD);
        for (int far : FAR) {
            due("bent(" + far + ", 0)", m.bent(far, 0), BAD);
            due("bent(0, " + far + ")", m.bent(0, far), BAD);
            due("bent(far, far + 1)", m.bent(far, far + 1), BAD);
        }
    }

    private static void promise11() {
        promise = "promise 11, touch";
        FoldedMap m = read("map 4 1;");
        due("touch(0, 1) when flat", m.touch(0, 1), 0);
        m.fold(0, 1, 0, 0);
        due("touch(0, 1)", m.touch(0, 1), 2);
        due("touch(1, 0)", m.touch(1, 0), 2);
        m.fold(0, 1, 0, 1);
        due("touch(0, 2)", m.touch(0, 2), 0);
        due("touch(1, 2)", m.touch(1, 2), 1);
        due("touch(2, 1)", m.touch(2, 1), 1);
        m.fold(0, 1, 1, 0);
        due("touch(3, 2)", m.touch(3, 2), 2);
        due("touch(3, 1)", m.touch(3, 1), 0);
        m.day();
        m.fold(0, 2, 0, 1);
        m.fold(0, 1, 1, 1);
        due("touch(1, 0)", m.touch(1, 0), 2);
        m.day();
        m.fold(0, 1, 0, 1);
        m.fold(0, 1, 0, 1);
        due("touch(0, 2)", m.touch(0, 2), 3);
        due("touch(2, 0)", m.touch(2, 0), 3);
        due("touch(0, 0)", m.touch(0, 0), BAD);
        due("touch(0, 4)", m.touch(0, 4), BAD);
        due("touch(4, 0)", m.touch(4, 0), BAD);
        due("touch(-1, 0)", m.touch(-1, 0), BAD);
        due("touch(0, -1)", m.touch(0, -1), BAD);
        for (int far : FAR) {
            due("touch(" + far + ", 0)", m.touch(far, 0), BAD);
            due("touch(0, " + far + ")", m.touch(0, far), BAD);
        }
    }

    private static void promise12() {
        promise = "promise 12, packet";
        FoldedMap m = read("map 4 3;quarrel 0 3;quarrel 3 0;quarrel 4 8;quarrel 1 6;");
        int[] flat = {4, 3, 1, 0, 0};
        for (int what = 0; what <= 4; what++) {
            due("packet(" + what + ") flat", m.packet(what), flat[what]);
        }
        m.fold(0, 2, 0, 1);
        int[] once = {2, 3, 2, 2, 6};
        for (int what = 0; what <= 4; what++) {
            due("packet(" + what + ") folded", m.packet(what), once[what]);
        }
        m.fold(1, 2, 1, 0);
        int[] twice = {2, 2, 4, 2, 6};
        for (int what = 0; what <= 4; what++) {
            due("packet(" + what + ") folded twice", m.packet(what), twice[what]);
        }
        FoldedMap most = read("map 4 4;quarrel 0 3;quarrel 1 2;quarrel 0 1;quarrel 12 15;quarrel 2 1;quarrel 3 4;");
        due("packet(3) of the largest map", most.packet(3), 0);
        due("packet(4) of the largest map", most.packet(4), 0);
        most.fold(0, 2, 0, 1);
        due("packet(3): a quarrel told twice counts twice", most.packet(3), 4);
        due("packet(4)", most.packet(4), 8);
        due("packet(-1)", m.packet(-1), BAD);
        due("packet(5)", m.packet(5), BAD);
        for (int far : FAR) {
            due("packet(" + far + ")", m.packet(far), BAD);
        }
    }

    private static void promise13() {
        promise = "promise 13, reach";
        FoldedMap m = read("map 4 4;tear 1;");
        String before = allOf(m);
        due("reach(5, 6, -1)", m.reach(5, 6, -1), 1);
        due("reach(5, 6, 0)", m.reach(5, 6, 0), 4 + 8);
        due("reach(5, 6, 1)", m.reach(5, 6, 1), NOT_SO_MANY);
        due("reach(5, 6, MAX)", m.reach(5, 6, Integer.MAX_VALUE), NOT_SO_MANY);
        due("reach(12, 0, 0)", m.reach(12, 0, 0), 1 + 4 + 8);
        due("reach(4, 8, 0)", m.reach(4, 8, 0), 1 + 4 + 8);
        due("reach(12, 8, 0)", m.reach(12, 8, 0), 1 + 4 + 16);
        due("reach(0, 15, 0)", m.reach(0, 15, 0), NONE);
        due("reach(0, 15, 7)", m.reach(0, 15, 7), NONE);
        due("reach(0, 15, -2)", m.reach(0, 15, -2), BAD);
        dueSame("reach()", m, before);
        m.fold(0, 2, 0, 1);
        due("reach(1, 2, -1)", m.reach(1, 2, -1), 0);
        due("reach(1, 2, 0)", m.reach(1, 2, 0), NOT_SO_MANY);
        due("reach(0, 1, -1): two that the first fold laid back out", m.reach(0, 1, -1), NONE);
        m.day();
        due("reach(1, 2, -1): creases are not asked", m.reach(1, 2, -1), 1);
        FoldedMap covered = read("map 3 1;");
        covered.fold(0, 1, 0, 1);
        due("reach(1, 2, -1): 0 lies on 1", covered.reach(1, 2, -1), NONE);
        promise13Wrong(new FoldedMap());
    }

    private static void promise13Wrong(FoldedMap m) {
        due("reach(0, 5, 0)", m.reach(0, 5, 0), 1);
        due("reach(0, 5, 1)", m.reach(0, 5, 1), 4);
        due("reach(0, 5, 2)", m.reach(0, 5, 2), 4);
        due("reach(0, 5, 3)", m.reach(0, 5, 3), NOT_SO_MANY);
        due("reach(0, 0, -1)", m.reach(0, 0, -1), BAD);
        due("reach(0, 6, -1)", m.reach(0, 6, -1), BAD);
        due("reach(6, 0, -1)", m.reach(6, 0, -1), BAD);
        due("reach(-1, 0, -1)", m.reach(-1, 0, -1), BAD);
        due("reach(0, 1, MIN)", m.reach(0, 1, Integer.MIN_VALUE), BAD);
        for (int far : FAR) {
            due("reach(" + far + ", 0, 0)", m.reach(far, 0, 0), BAD);
            due("reach(0, " + far + ", 0)", m.reach(0, far, 0), BAD);
        }
    }

    private static void promise14() {
        promise = "promise 14, serves";
        FoldedMap m = read("map 3 3;worth 1 0;worth 3 0;worth 4 9;worth 0 5;tear 1;");
        String before = allOf(m);
        due("serves(4, -1): none is worth more", m.serves(4, -1), 1);
        due("serves(4, 0)", m.serves(4, 0), 4 + 8);
        due("serves(4, 1)", m.serves(4, 1), NOT_SO_MANY);
        due("serves(5, -1)", m.serves(5, -1), 9);
        due("serves(5, 0)", m.serves(5, 0), 4 + 8);
        due("serves(3, -1)", m.serves(3, -1), 9);
        due("serves(3, 0)", m.serves(3, 0), 4);
        due("serves(0, -1)", m.serves(0, -1), 0);
        due("serves(0, 0): no fold is the fewest", m.serves(0, 0), NOT_SO_MANY);
        dueSame("serves()", m, before);
        m.fold(0, 1, 0, 1);
        due("serves(4, -1)", m.serves(4, -1), 0);
        m.day();
        due("serves(3, -1): creases are not asked", m.serves(3, -1), 9);
        promise14Twice();
        due("serves(9, -1)", m.serves(9, -1), BAD);
        due("serves(-1, -1)", m.serves(-1, -1), BAD);
        due("serves(0, -2)", m.serves(0, -2), BAD);
        due("serves(0, MIN)", m.serves(0, Integer.MIN_VALUE), BAD);
        due("serves(0, MAX)", m.serves(0, Integer.MAX_VALUE), NOT_SO_MANY);
        for (int far : FAR) {
            due("serves(" + far + ", 0)", m.serves(far, 0), BAD);
        }
    }

    private static void promise14Twice() {
        FoldedMap m = read("map 4 1;worth 0 6;");
        m.fold(0, 3, 0, 0);
        due("serves(2, 0)", m.serves(2, 0), 0);
        due("serves(2, 1)", m.serves(2, 1), NOT_SO_MANY);
        due("serves(3, -1)", m.serves(3, -1), 6);
        due("serves(3, 0)", m.serves(3, 0), 0);
        due("serves(3, 1)", m.serves(3, 1), 0);
        due("serves(3, 2)", m.serves(3, 2), NOT_SO_MANY);
        due("reach(0, 3, -1)", m.reach(0, 3, -1), 2);
    }

    private static void promise15() {
        promise = "promise 15, saw";
        FoldedMap m = new FoldedMap();
        due("saw(0, 0)", m.saw(0, 0), BAD);
        due("saw(0, 6)", m.saw(0, 6), BAD);
        due("saw(6, 0)", m.saw(6, 0), BAD);
        due("saw(-1, 0)", m.saw(-1, 0), BAD);
        due("saw(0, -1)", m.saw(0, -1), BAD);
        for (int far : FAR) {
            due("saw(" + far + ", 0)", m.saw(far, 0), BAD);
            due("saw(0, " + far + ")", m.saw(0, far), BAD);
        }
        due("count(4)", m.count(4), 0);
        for (int i = 1; i <= 6; i++) {
            due("saw(0, 5)", m.saw(0, 5), i);
        }
        due("saw(0, 1)", m.saw(0, 1), FULL);
        due("saw(1, 1) when full", m.saw(1, 1), BAD);
        due("count(4)", m.count(4), 6);
    }

    private static void promise16() {
        promise = "promise 16, forget";
        FoldedMap m = new FoldedMap();
        due("forget()", m.forget(), 0);
        m.saw(0, 2);
        m.saw(1, 2);
        due("forget()", m.forget(), 2);
        due("count(4)", m.count(4), 0);
        due("fits(0)", m.fits(0), 1);
        due("saw(0, 1)", m.saw(0, 1), 1);
    }

    private static void promise17() {
        promise = "promise 17, fits";
        FoldedMap m = read("map 4 4;tear 1;");
        due("fits(0)", m.fits(0), 1);
        due("fits(1)", m.fits(1), 24);
        due("fits(2)", m.fits(2), 448);
        m.fold(0, 2, 0, 0);
        m.day();
        m.fold(1, 1, 0, 0);
        due("fits(1): from the flat map, creases are not asked", m.fits(1), 24);
        m.saw(2, 1);
        due("fits(0)", m.fits(0), 0);
        due("fits(1): any way", m.fits(1), 4);
        m.saw(0, 3);
        due("fits(1)", m.fits(1), 4);
        m.saw(0, 4);
        due("fits(1)", m.fits(1), 0);
        due("fits(2)", m.fits(2), 16);
        due("fits(-1)", m.fits(-1), BAD);
        due("fits(3)", m.fits(3), BAD);
        for (int far : FAR) {
            due("fits(" + far + ")", m.fits(far), BAD);
        }
        FoldedMap single = read("map 1 1;");
        due("fits(0) of one cell", single.fits(0), 1);
        due("fits(1) of one cell", single.fits(1), 0);
        due("fits(2) of one cell", single.fits(2), 0);
    }

    private static void promise18() {
        promise = "promise 18, rate";
        FoldedMap m = read("map 2 1;worth 0 4;worth 1 7;");
        m.day();
        m.day();
        m.fold(0, 1, 0, 1);
        int[] rates = {4, 4 + 7, 4 - 1, 2 * (4 + 7), 4 - 1 + 1, 4 + 2};
        long[] marks = {1, 11, 101, 1011, 10101, 100001};
        long sum = 0;
        for (int kind = 0; kind <= 5; kind++) {
            due("rate(" + kind + ", 0)", m.rate(kind, 0), rates[kind]);
            sum += marks[kind];
            due("trace()", m.trace(), sum);
        }
        due("rate(-1, 0)", m.rate(-1, 0), NO);
        due("rate(6, 0)", m.rate(6, 0), NO);
        due("rate(0, 2)", m.rate(0, 2), NO);
        due("rate(0, -1)", m.rate(0, -1), NO);
        for (int far : FAR) {
            due("rate(" + far + ", 0)", m.rate(far, 0), NO);
            due("rate(0, " + far + ")", m.rate(0, far), NO);
        }
        due("trace() behind what is refused", m.trace(), sum);
        FoldedMap below = read("map 4 1;worth 0 0;");
        below.fold(0, 2, 0, 1);
        below.fold(0, 1, 0, 1);
        due("rate(2, 0): below 0", below.rate(2, 0), -below.cell(0, 2));
        due("cell(0, 2)", below.cell(0, 2), 1);
    }

    private static void promise19() {
        promise = "promise 19, keep";
        FoldedMap m = new FoldedMap();
        due("keep(-1)", m.keep(-1), BAD);
        due("keep(2)", m.keep(2), BAD);
        for (int far : FAR) {
            due("keep(" + far + ")", m.keep(far), BAD);
        }
        due("back(0)", m.back(0), STATE);
        due("keep(0)", m.keep(0), 0);
        due("back(1)", m.back(1), STATE);
        m.day();
        due("keep(1)", m.keep(1), 1);
        m.day();
        due("keep(0)", m.keep(0), 2);
        m.day();
        due("back(1)", m.back(1), 1);
        due("back(0)", m.back(0), 2);
    }

    private static void promise20() {
        promise = "promise 20, back";
        FoldedMap m = read("map 3 2;tear 2;");
        m.day();
        m.fold(0, 1, 0, 1);
        m.fold(1, 1, 1, 0);
        String kept = allOf(m);
        m.keep(0);
        m.fold(0, 1, 0, 1);
        m.day();
        m.fold(0, 1, 0, 1);
        due("back(0)", m.back(0), 1);
        dueSame("back(0)", m, kept);
        due("undo()", m.undo(), 1);
        due("undo()", m.undo(), 0);
        due("bent(0, 1)", m.bent(0, 1), 0);
        m.fold(0, 2, 0, 0);
        due("back(0): an image stays, and is not what is undone", m.back(0), 1);
        dueSame("back(0)", m, kept);
        m.saw(0, 1);
        m.rate(0, 0);
        type(m, "tear");
        m.back(0);
        due("count(4): nothing else", m.count(4), 1);
        due("count(7): nothing else", m.count(7), 4);
        due("trace() goes on", m.trace(), 1);
        due("back(1)", m.back(1), STATE);
        due("back(-1)", m.back(-1), BAD);
        due("back(2)", m.back(2), BAD);
        for (int far : FAR) {
            due("back(" + far + ")", m.back(far), BAD);
        }
    }

    private static void promise21() {
        promise = "promise 21, count";
        FoldedMap m = read("map 2 4;quarrel 0 1;quarrel 2 1;tear 9;");
        m.saw(0, 1);
        m.saw(0, 2);
        m.saw(0, 3);
        m.day();
        m.day();
        m.day();
        m.day();
        m.fold(1, 1, 0, 0);
        type(m, "worth");
        int[] told = {2, 4, 2, 9, 3, 4, 1, 5};
        for (int what = 0; what <= 7; what++) {
            due("count(" + what + ")", m.count(what), told[what]);
        }
        due("count(-1)", m.count(-1), BAD);
        due("count(8)", m.count(8), BAD);
        for (int far : FAR) {
            due("count(" + far + ")", m.count(far), BAD);
        }
    }

    private static void promise22() {
        promise = "promise 22, trace";
        FoldedMap m = new FoldedMap();
        due("trace()", m.trace(), 0);
        for (int i = 1; i <= 250; i++) {
            m.rate(5, 0);
            due("trace()", m.trace(), 100001L * i);
        }
        m.undo();
        m.day();
        m.map();
        due("trace()", m.trace(), 25000250L);
    }

    public static void main(String[] args) {
        face();
        promise1();
        promise2();
        promise3();
        promise4();
        promise5();
        promise6();
        promise7();
        promise8();
        promise9();
        promise10();
        promise11();
        promise12();
        promise13();
        promise14();
        promise15();
        promise16();
        promise17();
        promise18();
        promise19();
        promise20();
        promise21();
        promise22();
        System.out.println(wrong == 0 ? "all answers are as due" : wrong + " answers are not as due");
        if (wrong != 0) {
            System.exit(1);
        }
    }
}
