/** A map of cells that is folded each morning: who lies on whom, who touches whom, what is fought. */
public final class FoldedMap {
    public static final int BAD = -1, STATE = -2, FULL = -3, NONE = -9;
    public static final int NO = -1000000;

    private static final int NOT_SO_MANY = -5;
    private static final int FAULT_AT_0 = -10;
    private static final int MOST_BYTES = 200;
    private static final int MOST_SIDE = 4;
    private static final int MOST_CELLS = 16;
    private static final int MOST_CREASES = 24;
    private static final int MOST_PAIRS = 6;
    // Each fold makes the packet narrower or lower by one at least: three of each, no more.
    private static final int MOST_FOLDS = 6;
    private static final int LONGEST_FIT = 2;
    private static final int IMAGES = 2;
    private static final int KINDS = 6;
    private static final int FRONT_TO_FRONT = 1, BACK_TO_BACK = 2, FRONT_TO_BACK = 3;

    private final Reader reader = new Reader();
    private final Text text = reader.text;
    private final Duchy duchy = new Duchy();
    private final Packet flat = new Packet();
    private final Packet folded = new Packet();
    private final Creases creases = new Creases();
    private final Moment now = new Moment();
    private final Moment[] images = new Moment[IMAGES];
    private final Pairs seen = new Pairs();
    private final Plans plans = new Plans();
    private long traced = 0;

    public FoldedMap() {
        for (int i = 0; i < IMAGES; i++) {
            images[i] = new Moment();
        }
        beginAnew();
    }

    // ---- the duchy

    public int type(long v, int n) {
        if (n < 1 || n > 8) {
            return BAD;
        }
        if (text.length + n > MOST_BYTES) {
            return FULL;
        }
        for (int i = n - 1; i >= 0; i--) {
            text.append((int) (v >>> (8 * i)) & 255);
        }
        return text.length;
    }

    public int clear() {
        int had = text.length;
        text.length = 0;
        return had;
    }

    public int map() {
        if (!reader.readAll()) {
            return FAULT_AT_0 - text.start;
        }
        duchy.copyFrom(reader.draft);
        text.length = 0;
        beginAnew();
        return reader.items;
    }

    public int cell(int c, int what) {
        if (!isCell(c)) {
            return BAD;
        }
        switch (what) {
            case 0: return folded.x[c];
            case 1: return folded.y[c];
            case 2: return folded.layer[c];
            case 3: return folded.up[c];
            case 4: return duchy.worths[c];
            case 5: return folded.gainOf(c, duchy.worths);
            default: return BAD;
        }
    }

    public int at(int x, int y, int layer) {
        if (x < 0 || y < 0 || layer < 0) {
            return BAD;
        }
        for (int c = 0; c < folded.cells; c++) {
            if (folded.x[c] == x && folded.y[c] == y && folded.layer[c] == layer) {
                return c;
            }
        }
        return NONE;
    }

    // ---- folds

    public int fold(int axis, int line, int part, int over) {
        if (!isBit(axis) || !isBit(part) || !isBit(over) || line < 1 || line >= MOST_SIDE) {
            return BAD;
        }
        int number = axis + 2 * part + 4 * over + 8 * (line - 1);
        if (!folded.canBend(number) || creases.wouldTear(folded, number, duchy.tear)) {
            return STATE;
        }
        now.addFold(number);
        bendBy(number);
        return folded.thickest();
    }

    public int undo() {
        if (now.folds == 0) {
            return STATE;
        }
        now.folds--;
        foldAsNowTells();
        return now.folds;
    }

    public int day() {
        now.nextDay(creases);
        foldAsNowTells();
        return now.date;
    }

    public int bent(int a, int b) {
        int i = creases.find(a, b);
        return i == NONE ? BAD : creases.times[i];
    }

    public int touch(int a, int b) {
        return areTwoCells(a, b) ? folded.touching(a, b) : BAD;
    }

    public int packet(int what) {
        switch (what) {
            case 0: return folded.wide;
            case 1: return folded.high;
            case 2: return folded.thickest();
            case 3: return folded.countFought(duchy.quarrels);
            case 4: return folded.countFrontPairs();
            default: return BAD;
        }
    }

    // ---- plans

    public int reach(int a, int b, int i) {
        if (!areTwoCells(a, b) || i < -1) {
            return BAD;
        }
        plans.startFrom(folded);
        if (!plans.findMeeting(a, b)) {
            return NONE;
        }
        return i == -1 ? plans.foundFolds : plans.foundFold(i);
    }

    public int serves(int c, int i) {
        if (!isCell(c) || i < -1) {
            return BAD;
        }
        plans.startFrom(folded);
        int gain = plans.findBestGain(c, duchy.worths);
        return i == -1 ? gain : plans.foundFold(i);
    }

    public int saw(int a, int b) {
        if (!areTwoCells(a, b)) {
            return BAD;
        }
        if (seen.isFull()) {
            return FULL;
        }
        seen.add(a, b);
        return seen.size;
    }

    public int forget() {
        int had = seen.size;
        seen.size = 0;
        return had;
    }

    public int fits(int n) {
        if (n < 0 || n > LONGEST_FIT) {
            return BAD;
        }
        plans.startFrom(flat);
        return plans.countFitting(n, seen);
    }

    // ---- kinds, images

    public int rate(int kind, int c) {
        if (kind < 0 || kind >= KINDS || !isCell(c)) {
            return NO;
        }
        switch (kind) {
            case 1: return rateAsWell(c);
            case 2: return rateAsHermit(c);
            case 3: return rateAsLight(c);
            case 4: return rateAsFolder(c);
            case 5: return rateAsDuke(c);
            default: return rateAsCell(c);
        }
    }

    public int keep(int image) {
        if (!isImage(image)) {
            return BAD;
        }
        images[image].copyFrom(now);
        images[image].kept = true;
        return now.date;
    }

    public int back(int image) {
        if (!isImage(image)) {
            return BAD;
        }
        if (!images[image].kept) {
            return STATE;
        }
        now.copyFrom(images[image]);
        foldAsNowTells();
        return now.date;
    }

    public int count(int what) {
        switch (what) {
            case 0: return duchy.wide;
            case 1: return duchy.high;
            case 2: return duchy.quarrels.size;
            case 3: return duchy.tear;
            case 4: return seen.size;
            case 5: return now.date;
            case 6: return now.folds;
            case 7: return text.length;
            default: return BAD;
        }
    }

    public long trace() {
        return traced;
    }

    // ---- what the calls share

    private static boolean isBit(int n) {
        return n == 0 || n == 1;
    }

    private static boolean isImage(int image) {
        return image >= 0 && image < IMAGES;
    }

    private boolean isCell(int c) {
        return c >= 0 && c < folded.cells;
    }

    private boolean areTwoCells(int a, int b) {
        return isCell(a) && isCell(b) && a != b;
    }

    private void beginAnew() {
        flat.layFlat(duchy.wide, duchy.high);
        creases.layOut(flat);
        now.begin();
        for (int i = 0; i < IMAGES; i++) {
            images[i].kept = false;
        }
        seen.size = 0;
        foldAsNowTells();
    }

    /** The packet and the creases follow from the morning and the day's folds, so only these are kept. */
    private void foldAsNowTells() {
        folded.copyFrom(flat);
        System.arraycopy(now.bentAtDawn, 0, creases.times, 0, MOST_CREASES);
        for (int i = 0; i < now.folds; i++) {
            bendBy(now.numbers[i]);
        }
    }

    private void bendBy(int number) {
        creases.bend(folded, number);
        folded.bend(number);
    }

    private int rateAsCell(int c) {
        traced += 1;
        return duchy.worths[c];
    }

    private int rateAsWell(int c) {
        traced += 10;
        return rateAsCell(c) + folded.gainOf(c, duchy.worths);
    }

    private int rateAsHermit(int c) {
        traced += 100;
        return rateAsCell(c) - folded.layer[c];
    }

    private int rateAsLight(int c) {
        traced += 1000;
        return 2 * rateAsWell(c);
    }

    private int rateAsFolder(int c) {
        traced += 10000;
        return rateAsHermit(c) + now.folds;
    }

    private int rateAsDuke(int c) {
        traced += 100000;
        return rateAsCell(c) + now.date;
    }

    /** Pairs of cells, in the order in which they were told; one told twice counts twice. */
    private static final class Pairs {
        int size = 0;
        final int[] first = new int[MOST_PAIRS];
        final int[] second = new int[MOST_PAIRS];

        Pairs() {
        }

        boolean isFull() {
            return size >= MOST_PAIRS;
        }

        void add(int a, int b) {
            if (!isFull()) {
                first[size] = a;
                second[size] = b;
                size++;
            }
        }

        void copyFrom(Pairs other) {
            size = other.size;
            System.arraycopy(other.first, 0, first, 0, MOST_PAIRS);
            System.arraycopy(other.second, 0, second, 0, MOST_PAIRS);
        }
    }

    /** What a text tells: the map's size, the worths, the quarrels and when creases tear. */
    private static final class Duchy {
        int wide;
        int high;
        int tear;
        final int[] worths = new int[MOST_CELLS];
        final Pairs quarrels = new Pairs();

        Duchy() {
            becomeAsAtFirst();
        }

        void becomeAsAtFirst() {
            wide = 3;
            high = 2;
            tear = 3;
            for (int c = 0; c < MOST_CELLS; c++) {
                worths[c] = 1;
            }
            quarrels.size = 0;
        }

        void setWorth(int c, int worth) {
            if (c >= 0 && c < MOST_CELLS) {
                worths[c] = worth;
            }
        }

        void copyFrom(Duchy other) {
            wide = other.wide;
            high = other.high;
            tear = other.tear;
            System.arraycopy(other.worths, 0, worths, 0, MOST_CELLS);
            quarrels.copyFrom(other.quarrels);
        }
    }

    /** The text, and its tokens one after another. */
    private static final class Text {
        static final int NOTHING = 0, WRONG = 1, NUMBER = 2, END = 3;
        static final int MAP = 4, WORTH = 5, QUARREL = 6, TEAR = 7;

        int length = 0;
        final int[] bytes = new int[MOST_BYTES];
        // The token that was read last: its first byte's place, and the place behind it.
        int start = 0;
        int next = 0;
        int token = NOTHING;
        int value = 0;

        Text() {
        }

        void append(int b) {
            if (length < MOST_BYTES) {
                bytes[length] = b;
                length++;
            }
        }

        void rewind() {
            start = 0;
            next = 0;
            token = NOTHING;
            value = 0;
        }

        void readToken() {
            while (next < length && byteAt(next) == ' ') {
                next++;
            }
            start = next;
            int b = byteAt(start);
            if (b < 0) {
                token = NOTHING;
            } else if (isLetter(b)) {
                readWord();
            } else if (isDigit(b)) {
                readNumber();
            } else {
                token = b == ';' ? END : WRONG;
                next++;
            }
        }

        private void readWord() {
            while (next < length && isLetter(byteAt(next))) {
                next++;
            }
            if (isWord("map")) {
                token = MAP;
            } else if (isWord("worth")) {
                token = WORTH;
            } else if (isWord("quarrel")) {
                token = QUARREL;
            } else if (isWord("tear")) {
                token = TEAR;
            } else {
                token = WRONG;
            }
        }

        private boolean isWord(String word) {
            if (next - start != word.length()) {
                return false;
            }
            for (int i = 0; i < word.length(); i++) {
                if (byteAt(start + i) != word.charAt(i)) {
                    return false;
                }
            }
            return true;
        }

        private void readNumber() {
            value = 0;
            while (next < length && isDigit(byteAt(next))) {
                // Past two digits it is wrong anyhow: it must not grow until it wraps around.
                if (next - start < 2) {
                    value = 10 * value + byteAt(next) - '0';
                }
                next++;
            }
            int digits = next - start;
            boolean zeroAhead = digits > 1 && byteAt(start) == '0';
            token = digits > 2 || zeroAhead ? WRONG : NUMBER;
        }

        /** The byte at a place, or -1 behind the last one. */
        private int byteAt(int place) {
            return place >= 0 && place < length && place < MOST_BYTES ? bytes[place] : -1;
        }

        private static boolean isLetter(int b) {
            return b >= 'a' && b <= 'z';
        }

        private static boolean isDigit(int b) {
            return b >= '0' && b <= '9';
        }
    }

    /** Reads the text's items into a draft, so that a fault leaves the duchy as it is. */
    private static final class Reader {
        final Text text = new Text();
        final Duchy draft = new Duchy();
        int items = 0;
        // The item that is being told (NOTHING between two), and its numbers as far as they are.
        private int item = Text.NOTHING;
        private int told = 0;
        private int first = 0;
        private int second = 0;
        private boolean tearTold = false;

        Reader() {
        }

        /** Whether the text is without fault; if not, text.start is the fault's place. */
        boolean readAll() {
            draft.becomeAsAtFirst();
            items = 0;
            item = Text.NOTHING;
            tearTold = false;
            text.rewind();
            for (int i = 0; i <= MOST_BYTES; i++) {
                text.readToken();
                if (text.token == Text.NOTHING) {
                    return item == Text.NOTHING;
                }
                if (!takesToken()) {
                    return false;
                }
            }
            return false;
        }

        private boolean takesToken() {
            if (item == Text.NOTHING) {
                return takesWord();
            }
            int numbers = item == Text.TEAR ? 1 : 2;
            return told < numbers ? takesNumber() : takesEnd();
        }

        private boolean takesWord() {
            if (!mayBegin(text.token)) {
                return false;
            }
            item = text.token;
            told = 0;
            return true;
        }

        private boolean mayBegin(int word) {
            switch (word) {
                case Text.MAP: return items == 0;
                case Text.WORTH: return true;
                case Text.QUARREL: return !draft.quarrels.isFull();
                case Text.TEAR: return !tearTold;
                default: return false;
            }
        }

        private boolean takesNumber() {
            int least = item == Text.MAP || item == Text.TEAR ? 1 : 0;
            if (text.token != Text.NUMBER || text.value < least || text.value > mostNumber()) {
                return false;
            }
            if (told == 0) {
                first = text.value;
            } else if (item == Text.QUARREL && text.value == first) {
                return false;
            } else {
                second = text.value;
            }
            told++;
            return true;
        }

        private int mostNumber() {
            if (item == Text.MAP) {
                return MOST_SIDE;
            }
            boolean namesCell = item == Text.QUARREL || item == Text.WORTH && told == 0;
            return namesCell ? draft.wide * draft.high - 1 : 9;
        }

        private boolean takesEnd() {
            if (text.token != Text.END) {
                return false;
            }
            if (item == Text.MAP) {
                draft.wide = first;
                draft.high = second;
            } else if (item == Text.WORTH) {
                draft.setWorth(first, second);
            } else if (item == Text.QUARREL) {
                draft.quarrels.add(first, second);
            } else {
                draft.tear = first;
                tearTold = true;
            }
            item = Text.NOTHING;
            items++;
            return true;
        }
    }

    /**
     * Where each cell lies. A fold is told by its number: AXIS and 2 PART and 4 OVER and
     * 8 times (LINE less 1), together.
     */
    private static final class Packet {
        int cells = 0;
        int wide = 0;
        int high = 0;
        final int[] x = new int[MOST_CELLS];
        final int[] y = new int[MOST_CELLS];
        final int[] layer = new int[MOST_CELLS];
        final int[] up = new int[MOST_CELLS];
        private final int[] heights = new int[MOST_SIDE * MOST_SIDE];

        Packet() {
        }

        static int axisOf(int number) {
            return number & 1;
        }

        static int partOf(int number) {
            return number >> 1 & 1;
        }

        static int overOf(int number) {
            return number >> 2 & 1;
        }

        static int lineOf(int number) {
            return (number >> 3) + 1;
        }

        void layFlat(int newWide, int newHigh) {
            wide = Math.min(newWide, MOST_SIDE);
            high = Math.min(newHigh, MOST_SIDE);
            cells = 0;
            for (int row = 0; row < high; row++) {
                for (int column = 0; column < wide; column++) {
                    x[cells] = column;
                    y[cells] = row;
                    layer[cells] = 0;
                    up[cells] = 1;
                    cells++;
                }
            }
        }

        void copyFrom(Packet other) {
            cells = other.cells;
            wide = other.wide;
            high = other.high;
            System.arraycopy(other.x, 0, x, 0, cells);
            System.arraycopy(other.y, 0, y, 0, cells);
            System.arraycopy(other.layer, 0, layer, 0, cells);
            System.arraycopy(other.up, 0, up, 0, cells);
        }

        boolean canBend(int number) {
            int extent = axisOf(number) == 0 ? wide : high;
            return number >= 0 && lineOf(number) < extent;
        }

        /** A fold that can be: canBend() is asked ahead of it. */
        void bend(int number) {
            countHeights();
            int axis = axisOf(number);
            int line = lineOf(number);
            boolean over = overOf(number) == 1;
            int[] along = axis == 0 ? x : y;
            int shift = shiftOf(number);
            for (int c = 0; c < cells; c++) {
                int from = along[c];
                int mirrored = 2 * line - 1 - from;
                int met = axis == 0 ? heightAt(mirrored, y[c]) : heightAt(x[c], mirrored);
                if (partOf(number) == 0 ? from < line : from >= line) {
                    int turned = heightAt(x[c], y[c]) - 1 - layer[c];
                    layer[c] = over ? met + turned : turned;
                    up[c] = 1 - up[c];
                    along[c] = mirrored + shift;
                } else {
                    layer[c] += over ? 0 : met;
                    along[c] = from + shift;
                }
            }
            shrink(axis, line);
        }

        /** What all places of the axis grow by, so that the least is 0 again. */
        private int shiftOf(int number) {
            int line = lineOf(number);
            int extent = axisOf(number) == 0 ? wide : high;
            return partOf(number) == 0 ? -line : Math.max(0, extent - 2 * line);
        }

        private void shrink(int axis, int line) {
            if (axis == 0) {
                wide = Math.max(line, wide - line);
            } else {
                high = Math.max(line, high - line);
            }
        }

        private void countHeights() {
            for (int i = 0; i < MOST_SIDE * MOST_SIDE; i++) {
                heights[i] = 0;
            }
            for (int c = 0; c < cells; c++) {
                if (isPlace(x[c], y[c])) {
                    heights[MOST_SIDE * y[c] + x[c]]++;
                }
            }
        }

        private int heightAt(int placeX, int placeY) {
            return isPlace(placeX, placeY) ? heights[MOST_SIDE * placeY + placeX] : 0;
        }

        private static boolean isPlace(int placeX, int placeY) {
            return placeX >= 0 && placeX < MOST_SIDE && placeY >= 0 && placeY < MOST_SIDE;
        }

        /** Whether a fold's line lies between two cells. */
        boolean isParted(int a, int b, int number) {
            int[] along = axisOf(number) == 0 ? x : y;
            int[] across = axisOf(number) == 0 ? y : x;
            int line = lineOf(number);
            return across[a] == across[b]
                && Math.min(along[a], along[b]) == line - 1
                && Math.max(along[a], along[b]) == line;
        }

        int thickest() {
            int most = 0;
            for (int c = 0; c < cells; c++) {
                most = Math.max(most, layer[c] + 1);
            }
            return most;
        }

        int touching(int a, int b) {
            if (x[a] != x[b] || y[a] != y[b] || Math.abs(layer[a] - layer[b]) != 1) {
                return 0;
            }
            if (up[a] == up[b]) {
                return FRONT_TO_BACK;
            }
            int lower = layer[a] < layer[b] ? a : b;
            return up[lower] == 1 ? FRONT_TO_FRONT : BACK_TO_BACK;
        }

        int gainOf(int c, int[] worths) {
            int gain = 0;
            for (int other = 0; other < cells; other++) {
                if (other != c && touching(c, other) == FRONT_TO_FRONT) {
                    gain += worths[other];
                }
            }
            return gain;
        }

        int countFought(Pairs quarrels) {
            int fought = 0;
            for (int i = 0; i < quarrels.size; i++) {
                if (touching(quarrels.first[i], quarrels.second[i]) == FRONT_TO_FRONT) {
                    fought++;
                }
            }
            return fought;
        }

        int countFrontPairs() {
            int pairs = 0;
            for (int a = 0; a < cells; a++) {
                for (int b = a + 1; b < cells; b++) {
                    if (touching(a, b) == FRONT_TO_FRONT) {
                        pairs++;
                    }
                }
            }
            return pairs;
        }

        boolean allTouch(Pairs pairs) {
            for (int i = 0; i < pairs.size; i++) {
                if (touching(pairs.first[i], pairs.second[i]) == 0) {
                    return false;
                }
            }
            return true;
        }

        /**
         * The first fold by numbers that lays two cells front to front, or NONE. Only the line
         * midway between them can: over, if both are the highest and up; beneath, if both are
         * the lowest and down. Two that lie at one place already stay as they lie.
         */
        int meetingFold(int a, int b) {
            boolean sameX = x[a] == x[b];
            boolean sameY = y[a] == y[b];
            if (sameX == sameY || up[a] != up[b]) {
                return NONE;
            }
            int axis = sameY ? 0 : 1;
            int sum = sameY ? x[a] + x[b] : y[a] + y[b];
            int over = up[a];
            // An even sum has a cell midway, and no line.
            if (sum % 2 == 0 || !isOutermost(a, over) || !isOutermost(b, over)) {
                return NONE;
            }
            int line = (sum + 1) / 2;
            return axis + 4 * over + 8 * (line - 1);
        }

        /** Whether no cell at its place lies above it (top 1) or beneath it (top 0). */
        private boolean isOutermost(int c, int top) {
            if (top == 0) {
                return layer[c] == 0;
            }
            for (int other = 0; other < cells; other++) {
                if (x[other] == x[c] && y[other] == y[c] && layer[other] > layer[c]) {
                    return false;
                }
            }
            return true;
        }
    }

    /** The creases of a map, and how often each is bent. */
    private static final class Creases {
        int size = 0;
        final int[] first = new int[MOST_CREASES];
        final int[] second = new int[MOST_CREASES];
        final int[] times = new int[MOST_CREASES];

        Creases() {
        }

        void layOut(Packet flat) {
            size = 0;
            for (int a = 0; a < flat.cells; a++) {
                for (int b = a + 1; b < flat.cells; b++) {
                    int apart = Math.abs(flat.x[a] - flat.x[b]) + Math.abs(flat.y[a] - flat.y[b]);
                    if (apart == 1 && size < MOST_CREASES) {
                        first[size] = a;
                        second[size] = b;
                        size++;
                    }
                }
            }
        }

        /** Which crease is that of two cells; NONE where they are not side by side, or no cells. */
        int find(int a, int b) {
            int lower = Math.min(a, b);
            int higher = Math.max(a, b);
            for (int i = 0; i < size; i++) {
                if (first[i] == lower && second[i] == higher) {
                    return i;
                }
            }
            return NONE;
        }

        boolean wouldTear(Packet packet, int number, int tear) {
            for (int i = 0; i < size; i++) {
                if (times[i] >= tear && packet.isParted(first[i], second[i], number)) {
                    return true;
                }
            }
            return false;
        }

        /** Asked ahead of the packet's own fold: the line lies where the cells lie then. */
        void bend(Packet packet, int number) {
            for (int i = 0; i < size; i++) {
                if (packet.isParted(first[i], second[i], number)) {
                    times[i]++;
                }
            }
        }
    }

    /** The day, how the creases were bent in its morning, and its folds: all that an image keeps. */
    private static final class Moment {
        boolean kept = false;
        int date = 0;
        int folds = 0;
        final int[] numbers = new int[MOST_FOLDS];
        final int[] bentAtDawn = new int[MOST_CREASES];

        Moment() {
        }

        void begin() {
            date = 0;
            folds = 0;
            for (int i = 0; i < MOST_CREASES; i++) {
                bentAtDawn[i] = 0;
            }
        }

        void addFold(int number) {
            if (folds < MOST_FOLDS) {
                numbers[folds] = number;
                folds++;
            }
        }

        void nextDay(Creases creases) {
            date++;
            folds = 0;
            System.arraycopy(creases.times, 0, bentAtDawn, 0, MOST_CREASES);
        }

        void copyFrom(Moment other) {
            date = other.date;
            folds = other.folds;
            System.arraycopy(other.numbers, 0, numbers, 0, MOST_FOLDS);
            System.arraycopy(other.bentAtDawn, 0, bentAtDawn, 0, MOST_CREASES);
        }
    }

    /**
     * Looks through plans. A fold of PART 1 leaves the same packet as that of PART 0 with the
     * same axis, line and OVER, but mirrored and turned upside down: the same cells touch the
     * same way, and the same can be reached from it by as many folds. As PART 0 is the first by
     * numbers, plans of PART 0 alone are looked through; where plans are counted, each of their
     * folds stands for two.
     */
    private static final class Plans {
        private static final int CHOICES = 12;
        private static final int[] CHOICE = {0, 1, 4, 5, 8, 9, 12, 13, 16, 17, 20, 21};
        private static final int[] PLANS_OF = {1, 12, 144};

        int foundFolds = 0;
        private final int[] found = new int[LONGEST_FIT + 1];
        private final int[] laid = new int[LONGEST_FIT];
        // The packet behind none, one, two folds of the plan that is laid.
        private final Packet[] stages = new Packet[LONGEST_FIT + 1];
        private boolean firstLaid = false;

        Plans() {
            for (int i = 0; i <= LONGEST_FIT; i++) {
                stages[i] = new Packet();
            }
        }

        void startFrom(Packet packet) {
            stages[0].copyFrom(packet);
            foundFolds = 0;
        }

        int foundFold(int i) {
            return i >= 0 && i < foundFolds && i <= LONGEST_FIT ? found[i] : NOT_SO_MANY;
        }

        boolean findMeeting(int a, int b) {
            if (stages[0].touching(a, b) == FRONT_TO_FRONT) {
                return true;
            }
            for (int n = 0; n <= LONGEST_FIT; n++) {
                for (int plan = 0; plan < PLANS_OF[n]; plan++) {
                    int last = lay(n, plan) ? stages[n].meetingFold(a, b) : NONE;
                    if (last != NONE) {
                        noteFound(n);
                        found[n] = last;
                        foundFolds = n + 1;
                        return true;
                    }
                }
            }
            return false;
        }

        int findBestGain(int c, int[] worths) {
            int best = stages[0].gainOf(c, worths);
            for (int n = 1; n <= LONGEST_FIT; n++) {
                for (int plan = 0; plan < PLANS_OF[n]; plan++) {
                    int gain = lay(n, plan) ? stages[n].gainOf(c, worths) : 0;
                    if (gain > best) {
                        best = gain;
                        noteFound(n);
                    }
                }
            }
            return best;
        }

        int countFitting(int n, Pairs seen) {
            if (n < 0 || n > LONGEST_FIT) {
                return 0;
            }
            int fitting = 0;
            for (int plan = 0; plan < PLANS_OF[n]; plan++) {
                if (lay(n, plan) && stages[n].allTouch(seen)) {
                    fitting++;
                }
            }
            return fitting << n;
        }

        private void noteFound(int n) {
            System.arraycopy(laid, 0, found, 0, n);
            foundFolds = n;
        }

        /**
         * Lays the plan-th plan of n folds, if it can be. Plans are asked for one after another
         * from 0, so the first fold is laid anew only when it changes.
         */
        private boolean lay(int n, int plan) {
            if (n == 0) {
                return true;
            }
            if (n == 1) {
                return layFold(0, plan);
            }
            int second = plan % CHOICES;
            if (second == 0) {
                firstLaid = layFold(0, plan / CHOICES);
            }
            return firstLaid && layFold(1, second);
        }

        private boolean layFold(int stage, int choice) {
            if (stage < 0 || stage >= LONGEST_FIT || choice < 0 || choice >= CHOICES) {
                return false;
            }
            int number = CHOICE[choice];
            if (!stages[stage].canBend(number)) {
                return false;
            }
            laid[stage] = number;
            stages[stage + 1].copyFrom(stages[stage]);
            stages[stage + 1].bend(number);
            return true;
        }
    }
}
