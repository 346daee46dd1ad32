import java.nio.charset.StandardCharsets;
import java.util.ArrayList;
import java.util.HashMap;
import java.util.List;
import java.util.Map;
import java.util.Random;
import java.util.regex.Matcher;
import java.util.regex.Pattern;

/**
 * Long runs of calls on FoldedMap and on a model that is written from the document alone, in
 * another way: stacks of cells, whole states kept for what is undone, all plans tried.
 */
public final class FoldedMapAgainstModel {
    private static final int BAD = -1, STATE = -2, FULL = -3, NONE = -9;

    /** The packet, as a stack of cells at each place. */
    private static final class Stacks {
        Map<List<Integer>, List<Integer>> at = new HashMap<>();
        boolean[] down = new boolean[16];

        static Stacks flat(int wide, int high) {
            Stacks s = new Stacks();
            for (int c = 0; c < wide * high; c++) {
                s.at.put(List.of(c % wide, c / wide), new ArrayList<>(List.of(c)));
            }
            return s;
        }

        int extent(int axis) {
            return at.keySet().stream().mapToInt(p -> p.get(axis)).max().getAsInt() + 1;
        }

        Stacks folded(int axis, int line, int part, int over) {
            Stacks s = new Stacks();
            s.down = down.clone();
            at.forEach((place, stack) -> {
                if (place.get(axis) < line != (part == 0)) {
                    s.at.put(place, new ArrayList<>(stack));
                }
            });
            at.forEach((place, stack) -> {
                if (place.get(axis) < line == (part == 0)) {
                    int to = 2 * line - 1 - place.get(axis);
                    List<Integer> target = axis == 0 ? List.of(to, place.get(1)) : List.of(place.get(0), to);
                    List<Integer> there = s.at.computeIfAbsent(target, t -> new ArrayList<>());
                    List<Integer> turned = new ArrayList<>();
                    for (int c : stack) {
                        turned.add(0, c);
                        s.down[c] = !s.down[c];
                    }
                    there.addAll(over == 1 ? there.size() : 0, turned);
                }
            });
            int least = s.at.keySet().stream().mapToInt(p -> p.get(axis)).min().getAsInt();
            Map<List<Integer>, List<Integer>> shifted = new HashMap<>();
            s.at.forEach((p, stack) -> shifted.put(
                axis == 0 ? List.of(p.get(0) - least, p.get(1)) : List.of(p.get(0), p.get(1) - least), stack));
            s.at = shifted;
            return s;
        }

        Stacks folded(int number) {
            int axis = number % 2;
            int line = number / 8 + 1;
            return line >= extent(axis) ? null : folded(axis, line, number / 2 % 2, number / 4 % 2);
        }

        List<Integer> placeOf(int c) {
            for (var entry : at.entrySet()) {
                if (entry.getValue().contains(c)) {
                    return entry.getKey();
                }
            }
            return null;
        }

        int layerOf(int c) {
            return at.get(placeOf(c)).indexOf(c);
        }

        int touch(int a, int b) {
            for (List<Integer> stack : at.values()) {
                for (int i = 0; i + 1 < stack.size(); i++) {
                    int low = stack.get(i);
                    int top = stack.get(i + 1);
                    if (low == a && top == b || low == b && top == a) {
                        return down[low] == down[top] ? 3 : down[top] ? 1 : 2;
                    }
                }
            }
            return 0;
        }

        int thickest() {
            return at.values().stream().mapToInt(List::size).max().getAsInt();
        }
    }

    /** What an image keeps. */
    private record Now(Stacks stacks, Map<List<Integer>, Integer> bent, int day, List<Now> before) {
    }

    private static final class Model {
        StringBuilder text = new StringBuilder();
        int wide, high, tear;
        int[] worth;
        List<int[]> quarrels;
        List<int[]> seen = new ArrayList<>();
        Now now;
        Now[] images = new Now[2];
        long trace = 0;

        Model() {
            begin();
            anew();
        }

        void begin() {
            wide = 3;
            high = 2;
            tear = 3;
            worth = new int[16];
            java.util.Arrays.fill(worth, 1);
            quarrels = new ArrayList<>();
        }

        void anew() {
            now = new Now(Stacks.flat(wide, high), new HashMap<>(), 0, List.of());
            images = new Now[2];
            seen.clear();
        }

        int type(long v, int n) {
            if (n < 1 || n > 8) {
                return BAD;
            }
            if (text.length() + n > 200) {
                return FULL;
            }
            for (int i = n - 1; i >= 0; i--) {
                text.append((char) (v >> (8 * i) & 255));
            }
            return text.length();
        }

        int clear() {
            int had = text.length();
            text.setLength(0);
            return had;
        }

        int map() {
            Model told = new Model();
            int answer = told.tell(text.toString());
            if (answer >= 0) {
                wide = told.wide;
                high = told.high;
                tear = told.tear;
                worth = told.worth;
                quarrels = told.quarrels;
                anew();
                text.setLength(0);
            }
            return answer;
        }

        /** Splits the text by tokens and walks a table of what may follow. */
        int tell(String all) {
            Matcher tokens = Pattern.compile(" *([a-z]+|[0-9]+|[^ ])", Pattern.DOTALL).matcher(all);
            List<String> item = new ArrayList<>();
            int items = 0;
            boolean tearTold = false;
            while (tokens.find()) {
                String token = tokens.group(1);
                int fault = -10 - tokens.start(1);
                item.add(token);
                String kind = item.get(0);
                int args = kind.equals("tear") ? 1 : 2;
                int k = item.size() - 1;
                if (k == 0) {
                    boolean may = kind.equals("map") && items == 0 || kind.equals("worth")
                        || kind.equals("quarrel") && quarrels.size() < 6 || kind.equals("tear") && !tearTold;
                    if (!may) {
                        return fault;
                    }
                } else if (k <= args) {
                    if (!token.matches("0|[1-9][0-9]?")) {
                        return fault;
                    }
                    int number = Integer.parseInt(token);
                    boolean may = switch (kind) {
                        case "map" -> number >= 1 && number <= 4;
                        case "tear" -> number >= 1 && number <= 9;
                        case "worth" -> k == 1 ? number < wide * high : number <= 9;
                        default -> number < wide * high && (k == 1 || !item.get(1).equals(token));
                    };
                    if (!may) {
                        return fault;
                    }
                } else if (!token.equals(";")) {
                    return fault;
                } else {
                    int a = Integer.parseInt(item.get(1));
                    int b = args == 2 ? Integer.parseInt(item.get(2)) : 0;
                    switch (kind) {
                        case "map" -> {
                            wide = a;
                            high = b;
                        }
                        case "worth" -> worth[a] = b;
                        case "quarrel" -> quarrels.add(new int[] {a, b});
                        default -> {
                            tear = a;
                            tearTold = true;
                        }
                    }
                    items++;
                    item.clear();
                }
            }
            return item.isEmpty() ? items : -10 - all.length();
        }

        boolean is(int c) {
            return c >= 0 && c < wide * high;
        }

        boolean two(int a, int b) {
            return is(a) && is(b) && a != b;
        }

        int gain(Stacks s, int c) {
            int gain = 0;
            for (int d = 0; d < wide * high; d++) {
                if (d != c && s.touch(c, d) == 1) {
                    gain += worth[d];
                }
            }
            return gain;
        }

        int cell(int c, int what) {
            if (!is(c) || what < 0 || what > 5) {
                return BAD;
            }
            List<Integer> place = now.stacks.placeOf(c);
            return List.of(place.get(0), place.get(1), now.stacks.layerOf(c), now.stacks.down[c] ? 0 : 1, worth[c],
                gain(now.stacks, c)).get(what);
        }

        int at(int x, int y, int layer) {
            if (x < 0 || y < 0 || layer < 0) {
                return BAD;
            }
            List<Integer> stack = now.stacks.at.getOrDefault(List.of(x, y), List.of());
            return layer < stack.size() ? stack.get(layer) : NONE;
        }

        boolean sideBySide(int a, int b) {
            return Math.abs(a % wide - b % wide) + Math.abs(a / wide - b / wide) == 1;
        }

        int fold(int axis, int line, int part, int over) {
            if ((axis & ~1) != 0 || (part & ~1) != 0 || (over & ~1) != 0 || line < 1 || line > 3) {
                return BAD;
            }
            if (line >= now.stacks.extent(axis)) {
                return STATE;
            }
            Map<List<Integer>, Integer> bent = new HashMap<>(now.bent);
            for (int a = 0; a < wide * high; a++) {
                for (int b = 0; b < wide * high; b++) {
                    List<Integer> p = now.stacks.placeOf(a);
                    List<Integer> q = now.stacks.placeOf(b);
                    if (sideBySide(a, b) && p.get(axis) == line - 1 && q.get(axis) == line
                        && p.get(1 - axis).equals(q.get(1 - axis))) {
                        if (bent.merge(List.of(Math.min(a, b), Math.max(a, b)), 1, Integer::sum) > tear) {
                            return STATE;
                        }
                    }
                }
            }
            List<Now> before = new ArrayList<>(now.before);
            before.add(now);
            now = new Now(now.stacks.folded(axis, line, part, over), bent, now.day, before);
            return now.stacks.thickest();
        }

        int undo() {
            if (now.before.isEmpty()) {
                return STATE;
            }
            now = now.before.get(now.before.size() - 1);
            return now.before.size();
        }

        int day() {
            now = new Now(Stacks.flat(wide, high), now.bent, now.day + 1, List.of());
            return now.day;
        }

        int bent(int a, int b) {
            return is(a) && is(b) && sideBySide(a, b)
                ? now.bent.getOrDefault(List.of(Math.min(a, b), Math.max(a, b)), 0) : BAD;
        }

        int touch(int a, int b) {
            return two(a, b) ? now.stacks.touch(a, b) : BAD;
        }

        int packet(int what) {
            int pairs = 0;
            for (int a = 0; a < wide * high; a++) {
                for (int b = 0; b < a; b++) {
                    pairs += now.stacks.touch(a, b) == 1 ? 1 : 0;
                }
            }
            return switch (what) {
                case 0 -> now.stacks.extent(0);
                case 1 -> now.stacks.extent(1);
                case 2 -> now.stacks.thickest();
                case 3 -> (int) quarrels.stream().filter(q -> now.stacks.touch(q[0], q[1]) == 1).count();
                case 4 -> pairs;
                default -> BAD;
            };
        }

        /** All plans of n folds from a packet, first by numbers, each with the packet behind it. */
        void plans(Stacks s, int n, List<Integer> sofar, List<List<Integer>> plans, List<Stacks> packets) {
            if (n == 0) {
                plans.add(new ArrayList<>(sofar));
                packets.add(s);
                return;
            }
            for (int number = 0; number < 24; number++) {
                Stacks next = s.folded(number);
                if (next != null) {
                    sofar.add(number);
                    plans(next, n - 1, sofar, plans, packets);
                    sofar.remove(sofar.size() - 1);
                }
            }
        }

        int reach(int a, int b, int i) {
            if (!two(a, b) || i < -1) {
                return BAD;
            }
            for (int n = 0; n <= 3; n++) {
                List<List<Integer>> plans = new ArrayList<>();
                List<Stacks> packets = new ArrayList<>();
                plans(now.stacks, n, new ArrayList<>(), plans, packets);
                for (int k = 0; k < plans.size(); k++) {
                    if (packets.get(k).touch(a, b) == 1) {
                        return i == -1 ? n : i < n ? plans.get(k).get(i) : -5;
                    }
                }
            }
            return NONE;
        }

        int serves(int c, int i) {
            if (!is(c) || i < -1) {
                return BAD;
            }
            int best = -1;
            List<Integer> plan = List.of();
            for (int n = 0; n <= 2; n++) {
                List<List<Integer>> plans = new ArrayList<>();
                List<Stacks> packets = new ArrayList<>();
                plans(now.stacks, n, new ArrayList<>(), plans, packets);
                for (int k = 0; k < plans.size(); k++) {
                    int gain = gain(packets.get(k), c);
                    if (gain > best) {
                        best = gain;
                        plan = plans.get(k);
                    }
                }
            }
            return i == -1 ? best : i < plan.size() ? plan.get(i) : -5;
        }

        int saw(int a, int b) {
            if (!two(a, b)) {
                return BAD;
            }
            if (seen.size() == 6) {
                return FULL;
            }
            seen.add(new int[] {a, b});
            return seen.size();
        }

        int forget() {
            int had = seen.size();
            seen.clear();
            return had;
        }

        int fits(int n) {
            if (n < 0 || n > 2) {
                return BAD;
            }
            List<Stacks> packets = new ArrayList<>();
            plans(Stacks.flat(wide, high), n, new ArrayList<>(), new ArrayList<>(), packets);
            return (int) packets.stream().filter(s -> seen.stream().allMatch(p -> s.touch(p[0], p[1]) != 0)).count();
        }

        int rate(int kind, int c) {
            if (kind < 0 || kind > 5 || !is(c)) {
                return -1000000;
            }
            int[] above = {-1, 0, 0, 1, 2, 0};
            long mark = 1;
            for (int k = 0; k < kind; k++) {
                mark *= 10;
            }
            trace += mark;
            int up = kind == 0 ? 0 : rate(above[kind], c);
            return switch (kind) {
                case 0 -> worth[c];
                case 1 -> up + gain(now.stacks, c);
                case 2 -> up - now.stacks.layerOf(c);
                case 3 -> 2 * up;
                case 4 -> up + now.before.size();
                default -> up + now.day;
            };
        }

        int keep(int image) {
            if (image < 0 || image > 1) {
                return BAD;
            }
            images[image] = now;
            return now.day;
        }

        int back(int image) {
            if (image < 0 || image > 1) {
                return BAD;
            }
            if (images[image] == null) {
                return STATE;
            }
            now = images[image];
            return now.day;
        }

        int count(int what) {
            int[] all = {wide, high, quarrels.size(), tear, seen.size(), now.day, now.before.size(), text.length()};
            return what < 0 || what > 7 ? BAD : all[what];
        }
    }

    private static int wrong = 0;
    private static final Random RANDOM = new Random(20261118);
    private static FoldedMap map;
    private static Model model;
    private static StringBuilder run;

    private static void due(String call, long got, long want) {
        run.append(call).append(" = ").append(want).append("; ");
        if (got != want) {
            wrong++;
            if (wrong <= 5) {
                System.out.println(run);
                System.out.println("  the last answered " + got);
            }
        }
    }

    /** Mostly a number of the range, now and then one beside it. */
    private static int pick(int least, int most) {
        int r = RANDOM.nextInt(60);
        if (r == 0) {
            return least - 1;
        }
        if (r == 1) {
            return most + 1;
        }
        if (r == 2) {
            return RANDOM.nextInt();
        }
        return least + RANDOM.nextInt(most - least + 1);
    }

    private static int pickCell() {
        return pick(0, model.wide * model.high - 1);
    }

    private static String blanks() {
        return " ".repeat(RANDOM.nextInt(4) == 0 ? RANDOM.nextInt(3) : 1);
    }

    private static String someText() {
        StringBuilder text = new StringBuilder();
        int cells = 6;
        if (RANDOM.nextInt(5) != 0) {
            int wide = 1 + RANDOM.nextInt(4);
            int high = 1 + RANDOM.nextInt(4);
            cells = wide * high;
            text.append("map").append(blanks()).append(wide).append(" ").append(high).append(";");
        }
        int items = RANDOM.nextInt(9);
        for (int i = 0; i < items; i++) {
            int a = RANDOM.nextInt(cells);
            int b = RANDOM.nextInt(cells);
            text.append(blanks());
            switch (RANDOM.nextInt(5)) {
                case 0 -> text.append("tear").append(blanks()).append(1 + RANDOM.nextInt(9));
                case 1, 2 -> text.append("worth").append(blanks()).append(a).append(" ").append(RANDOM.nextInt(10));
                default -> text.append("quarrel").append(blanks()).append(a).append(" ").append(b);
            }
            text.append(blanks()).append(";");
        }
        if (RANDOM.nextInt(3) == 0) {
            spoil(text);
        }
        return text.toString();
    }

    private static void spoil(StringBuilder text) {
        String signs = "; 0199mapworthquarreltearXz@\t";
        int times = 1 + RANDOM.nextInt(2);
        for (int i = 0; i < times && text.length() > 0; i++) {
            int place = RANDOM.nextInt(text.length());
            switch (RANDOM.nextInt(4)) {
                case 0 -> text.deleteCharAt(place);
                case 1 -> text.setCharAt(place, signs.charAt(RANDOM.nextInt(signs.length())));
                case 2 -> text.insert(place, signs.charAt(RANDOM.nextInt(signs.length())));
                default -> text.setLength(place);
            }
        }
    }

    private static int typeText(String text) {
        byte[] bytes = text.getBytes(StandardCharsets.ISO_8859_1);
        int calls = 0;
        for (int i = 0; i < bytes.length; ) {
            int n = Math.min(1 + RANDOM.nextInt(8), bytes.length - i);
            long v = RANDOM.nextLong();
            for (int k = 0; k < n; k++) {
                v = v << 8 | bytes[i + k] & 255;
            }
            due("type(" + v + ", " + n + ")", map.type(v, n), model.type(v, n));
            i += n;
            calls++;
        }
        return calls;
    }

    private static int readAnew() {
        int calls = typeText(someText());
        due("map()", map.map(), model.map());
        if (RANDOM.nextInt(4) != 0) {
            due("clear()", map.clear(), model.clear());
        }
        return calls + 2;
    }

    private static void oneCall() {
        int a = pickCell();
        int b = pickCell();
        int i = pick(-1, 3);
        switch (RANDOM.nextInt(40)) {
            case 0, 1 -> due("cell(" + a + ", " + i + ")", map.cell(a, i), model.cell(a, i));
            case 2, 3 -> {
                int what = pick(0, 5);
                due("cell(" + a + ", " + what + ")", map.cell(a, what), model.cell(a, what));
            }
            case 4, 5 -> {
                int x = pick(0, 3);
                int y = pick(0, 2);
                int layer = pick(0, 4);
                due("at(" + x + ", " + y + ", " + layer + ")", map.at(x, y, layer), model.at(x, y, layer));
            }
            case 6, 7, 8, 9, 10, 11, 12, 13 -> {
                int axis = pick(0, 1);
                int line = pick(1, 3);
                int part = pick(0, 1);
                int over = pick(0, 1);
                due("fold(" + axis + ", " + line + ", " + part + ", " + over + ")", map.fold(axis, line, part, over),
                    model.fold(axis, line, part, over));
            }
            case 14, 15 -> due("undo()", map.undo(), model.undo());
            case 16, 17 -> due("day()", map.day(), model.day());
            case 18, 19 -> due("bent(" + a + ", " + b + ")", map.bent(a, b), model.bent(a, b));
            case 20, 21, 22 -> due("touch(" + a + ", " + b + ")", map.touch(a, b), model.touch(a, b));
            case 23, 24 -> {
                int what = pick(0, 4);
                due("packet(" + what + ")", map.packet(what), model.packet(what));
            }
            case 25 -> due("reach(" + a + ", " + b + ", " + i + ")", map.reach(a, b, i), model.reach(a, b, i));
            case 26 -> due("serves(" + a + ", " + i + ")", map.serves(a, i), model.serves(a, i));
            case 27 -> due("saw(" + a + ", " + b + ")", map.saw(a, b), model.saw(a, b));
            case 28 -> {
                if (RANDOM.nextInt(3) == 0) {
                    due("forget()", map.forget(), model.forget());
                }
            }
            case 29 -> {
                int n = pick(0, 2);
                due("fits(" + n + ")", map.fits(n), model.fits(n));
            }
            case 30, 31, 32 -> {
                int kind = pick(0, 5);
                due("rate(" + kind + ", " + a + ")", map.rate(kind, a), model.rate(kind, a));
            }
            case 33 -> {
                int image = pick(0, 1);
                due("keep(" + image + ")", map.keep(image), model.keep(image));
            }
            case 34, 35 -> {
                int image = pick(0, 1);
                due("back(" + image + ")", map.back(image), model.back(image));
            }
            case 36, 37, 38 -> {
                int what = pick(0, 7);
                due("count(" + what + ")", map.count(what), model.count(what));
            }
            default -> due("trace()", map.trace(), model.trace);
        }
    }

    private static void oneRun() {
        map = new FoldedMap();
        model = new Model();
        run = new StringBuilder();
        int calls = RANDOM.nextInt(10) == 0 ? 0 : readAnew();
        while (calls < 400) {
            if (RANDOM.nextInt(60) == 0) {
                calls += readAnew();
            } else {
                oneCall();
                calls++;
            }
        }
    }

    /** What plans answer for every cell and pair, from packets of every size of map. */
    private static void allPlans() {
        for (int size = 0; size < 16; size++) {
            String text = "map " + (size % 4 + 1) + " " + (size / 4 + 1) + ";worth 0 4;";
            for (int folds = 0; folds <= 2; folds++) {
                map = new FoldedMap();
                model = new Model();
                run = new StringBuilder();
                typeText(text);
                due("map()", map.map(), model.map());
                for (int i = 0; i < folds; i++) {
                    int axis = RANDOM.nextInt(2);
                    int line = 1 + RANDOM.nextInt(3);
                    int part = RANDOM.nextInt(2);
                    int over = RANDOM.nextInt(2);
                    due("fold(" + axis + ", " + line + ", " + part + ", " + over + ")",
                        map.fold(axis, line, part, over), model.fold(axis, line, part, over));
                }
                plansOfEach();
            }
        }
    }

    private static void plansOfEach() {
        int cells = model.wide * model.high;
        for (int a = 0; a < cells; a++) {
            for (int i = -1; i <= 2; i++) {
                due("serves(" + a + ", " + i + ")", map.serves(a, i), model.serves(a, i));
            }
            for (int k = 0; k < 3; k++) {
                int b = RANDOM.nextInt(cells);
                int i = RANDOM.nextInt(5) - 1;
                due("reach(" + a + ", " + b + ", " + i + ")", map.reach(a, b, i), model.reach(a, b, i));
            }
            int b = RANDOM.nextInt(cells);
            due("forget()", map.forget(), model.forget());
            due("saw(" + a + ", " + b + ")", map.saw(a, b), model.saw(a, b));
            due("fits(2)", map.fits(2), model.fits(2));
        }
    }

    public static void main(String[] args) {
        int runs = args.length > 0 ? Integer.parseInt(args[0]) : 60;
        allPlans();
        for (int i = 0; i < runs; i++) {
            oneRun();
        }
        System.out.println(wrong == 0 ? "all answers are as due" : wrong + " answers are not as due");
        if (wrong != 0) {
            System.exit(1);
        }
    }
}
