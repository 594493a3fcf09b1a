/** A macro assembler: LINES are told, expanded to ITEMS, laid out with short branches, and asked about. */
public final class BranchPress {
    private static final int NONE = -1;
    private static final int NO_FAULT = 0;

    private static final int LABEL = 0;
    private static final int SET = 1;
    private static final int DATA = 2;
    private static final int JUMP = 3;
    private static final int IF = 4;
    private static final int LOAD = 5;
    private static final int POOL = 6;
    private static final int ALIGN = 7;
    private static final int WHEN = 8;
    private static final int END = 9;
    private static final int CALL = 10;

    private static final int MAIN = 0;
    private static final int ROWS = 5;
    private static final int MOST_IN_MAIN = 40;
    private static final int MOST_IN_MACRO = 10;
    private static final int MOST_DATA_MORE = 20;

    private static final int NAMES = 8;
    private static final int FIRST_LOCAL = 8;
    private static final int LAST_LOCAL = 9;
    private static final int LOCALS = 2;
    private static final int LAST_REFERENCE = 11;

    private static final int MOST_N = 99;
    private static final int MOST_DEPTH = 5;
    private static final int MOST_ITEMS = 120;
    private static final int MOST_EXPANDED = 400;
    private static final int LEAST_SHORT = -8;
    private static final int MOST_SHORT = 7;
    private static final int MOST_ABOVE_LOAD = 16;

    private static final int TOO_DEEP = 1;
    private static final int TOO_MUCH = 2;
    private static final int NOT_SET = 3;
    private static final int NAMED_TWICE = 4;
    private static final int NO_VALUE = 5;
    private static final int TOO_FAR = 6;

    private static final int MANY_MAIN_LINES = 0;
    private static final int MANY_LINES = 1;
    private static final int MANY_ITEMS = 2;
    private static final int MANY_WORDS = 3;
    private static final int MANY_BRANCHES = 4;
    private static final int MANY_LONG = 5;
    private static final int MANY_ROUNDS = 6;
    private static final int MANY_LOADS = 7;
    private static final int MANY_POOL_WORDS = 8;
    private static final int MANY_ALIGN_WORDS = 9;
    private static final int MANY_CODE_WORDS = 10;
    private static final int MANY_OTHER_WORDS = 11;

    private final Source source;
    private final Assembly now;
    private final Source otherSource;
    private final Assembly other;

    /** Creates a press without LINES. */
    public BranchPress() {
        source = new Source(MOST_IN_MAIN);
        now = new Assembly(source);
        // longBy may ask for a MAIN with more LINES than one can be told
        otherSource = new Source(MOST_IN_MAIN + MOST_DATA_MORE);
        other = new Assembly(otherSource);
        assembleNow();
    }

    // ---- lines

    /** Adds a LINE at the end of a ROW; returns its number there. */
    public int add(int row, int kind, int x, int y, int n, boolean isRelative)
            throws IndexOutOfBoundsException, IllegalArgumentException, IllegalStateException {
        if (!source.hasRow(row)) {
            throw new IndexOutOfBoundsException("no such ROW");
        }
        if (!Line.isAllowed(kind, x, y, n, isRelative)) {
            throw new IllegalArgumentException("no such LINE can be");
        }
        if (source.isFull(row)) {
            throw new IllegalStateException("the ROW is full");
        }
        int line = source.countOf(row);
        source.insert(row, line, new Line(kind, x, y, n, isRelative));
        assembleNow();
        return line;
    }

    /** Puts a LINE in place of another one; returns the KIND of that before. */
    public int put(int row, int line, int kind, int x, int y, int n, boolean isRelative)
            throws IndexOutOfBoundsException, IllegalArgumentException {
        Line before = lineThere(row, line);
        if (!Line.isAllowed(kind, x, y, n, isRelative)) {
            throw new IllegalArgumentException("no such LINE can be");
        }
        source.replace(row, line, new Line(kind, x, y, n, isRelative));
        assembleNow();
        return before.kind;
    }

    /** Cuts a LINE; returns how many are left in the ROW. */
    public int cut(int row, int line) throws IndexOutOfBoundsException {
        if (!source.hasLine(row, line)) {
            throw new IndexOutOfBoundsException("no such LINE");
        }
        source.remove(row, line);
        assembleNow();
        return source.countOf(row);
    }

    /** Returns a part of a LINE: 0 its KIND, 1 x, 2 y, 3 n, 4 whether it is RELATIVE. */
    public int ofLine(int row, int line, int what) throws IndexOutOfBoundsException, IllegalArgumentException {
        Line asked = lineThere(row, line);
        switch (what) {
            case 0:
                return asked.kind;
            case 1:
                return asked.x;
            case 2:
                return asked.y;
            case 3:
                return asked.n;
            case 4:
                return asked.isRelative ? 1 : 0;
            default:
                throw new IllegalArgumentException("what is not 0 to 4");
        }
    }

    // ---- what comes of it

    /** Returns the FAULT; 0 without one. */
    public int fault() {
        return now.faultNumber;
    }

    /** Returns the LINE of MAIN at which the FAULT came; NONE without one. */
    public int faultAt() {
        return now.faultLine;
    }

    /** Returns a part of an ITEM, as the document numbers them. */
    public int ofItem(int item, int what) throws IndexOutOfBoundsException, IllegalArgumentException {
        Item asked = itemThere(item);
        switch (what) {
            case 0:
                return asked.kind;
            case 1:
                return asked.address;
            case 2:
                return asked.size;
            case 3:
                return asked.mainLine;
            case 4:
                return asked.depth;
            case 5:
                return asked.n;
            case 6:
                return asked.isLong ? 1 : 0;
            case 7:
                return asked.isFollowed ? 1 : 0;
            default:
                throw new IllegalArgumentException("what is not 0 to 7");
        }
    }

    /** Returns the word at an address. */
    public int word(int address) throws IndexOutOfBoundsException {
        Item holder = itemThere(now.items.holderOf(address));
        return now.items.wordOf(holder, address - holder.address);
    }

    /** Returns the ITEM of the word at an address. */
    public int itemOf(int address) throws IndexOutOfBoundsException {
        int holder = now.items.holderOf(address);
        if (holder == NONE) {
            throw new IndexOutOfBoundsException("no such word");
        }
        return holder;
    }

    /** Returns whether the word at an address is CODE. */
    public boolean isCode(int address) throws IndexOutOfBoundsException {
        return itemThere(now.items.holderOf(address)).isFollowed;
    }

    /** Returns the address of a NAME's LABEL, or what its last SET says; NONE without any. */
    public int value(int name) throws IndexOutOfBoundsException {
        if (now.faultNumber != NO_FAULT) {
            throw new IndexOutOfBoundsException("there is a FAULT");
        }
        if (name < 0 || name >= NAMES) {
            throw new IndexOutOfBoundsException("no such NAME");
        }
        Item giver = now.items.giverOf(name, now.items.count);
        return giver == null ? NONE : giver.gives;
    }

    /** Returns how many there are of what the document numbers 0 to 11. */
    public int many(int what) throws IllegalArgumentException {
        if (what < 0 || what > MANY_OTHER_WORDS) {
            throw new IllegalArgumentException("what is not 0 to 11");
        }
        if (what == MANY_MAIN_LINES) {
            return source.countOf(MAIN);
        }
        if (what == MANY_LINES) {
            return source.countOfAll();
        }
        if (now.faultNumber != NO_FAULT) {
            return NONE;
        }
        return what == MANY_ROUNDS ? now.rounds : now.items.tally(what);
    }

    /** Returns the mean SIZE of the ITEMS, not cut; 0 with a FAULT. */
    public double meanSize() {
        int items = now.items.count;
        if (items == 0) {
            return 0;
        }
        return (double) now.items.tally(MANY_WORDS) / items;
    }

    // ---- what would be (nothing is changed)

    /** Returns how many words there would be without a LINE; -10 - FAULT with one. */
    public int wordsWithout(int row, int line) throws IndexOutOfBoundsException {
        if (!source.hasLine(row, line)) {
            throw new IndexOutOfBoundsException("no such LINE");
        }
        otherSource.copyFrom(source);
        otherSource.remove(row, line);
        other.assemble();
        return other.wordsOrFault();
    }

    /** Returns how many words there would be if a LINE had another n; -10 - FAULT with one. */
    public int wordsWith(int row, int line, int n) throws IndexOutOfBoundsException, IllegalArgumentException {
        Line is = lineThere(row, line);
        if (!Line.isAllowed(is.kind, is.x, is.y, n, is.isRelative)) {
            throw new IllegalArgumentException("that LINE cannot have that n");
        }
        otherSource.copyFrom(source);
        otherSource.replace(row, line, new Line(is.kind, is.x, is.y, n, is.isRelative));
        other.assemble();
        return other.wordsOrFault();
    }

    /** Returns the DISTANCE of a JUMP or IF, as it is laid out. */
    public int distance(int item) throws IndexOutOfBoundsException {
        Item asked = itemThere(item);
        if (!asked.isBranch()) {
            throw new IndexOutOfBoundsException("no such JUMP or IF");
        }
        return asked.distanceHere();
    }

    /** Returns how many LONG JUMPS and IFS would be near enough if that one alone was SHORT. */
    public int wrongly() {
        return now.items.countNeedlesslyLong();
    }

    /** Returns how many JUMPS and IFS more would be LONG with so many DATA of 0 ahead of a LINE of MAIN. */
    public int longBy(int line, int many) throws IndexOutOfBoundsException, IllegalArgumentException {
        if (line < 0 || line > source.countOf(MAIN)) {
            throw new IndexOutOfBoundsException("no such LINE");
        }
        if (many < 1 || many > MOST_DATA_MORE) {
            throw new IllegalArgumentException("many is not 1 to 20");
        }
        if (now.faultNumber != NO_FAULT) {
            return 0;
        }
        otherSource.copyFrom(source);
        Line zero = new Line(DATA, NONE, NONE, 0, false);
        for (int i = 0; i < many; i++) {
            otherSource.insert(MAIN, line, zero);
        }
        other.assemble();
        if (other.faultNumber != NO_FAULT) {
            return -1000 - other.faultNumber;
        }
        return other.items.tally(MANY_LONG) - now.items.tally(MANY_LONG);
    }

    /** Computes the checksum over all answers that the document lists for it. */
    public long digest() {
        long d = 7619;
        for (int what = 0; what <= MANY_OTHER_WORDS; what++) {
            d = d * 31 + many(what);
        }
        d = d * 31 + now.faultNumber;
        d = d * 31 + now.faultLine;
        int lines = source.countOf(MAIN);
        for (int line = 0; line < lines; line++) {
            d = d * 31 + wordsWithout(MAIN, line);
        }
        return now.faultNumber == NO_FAULT ? digestOfItems(d) : d;
    }

    private long digestOfItems(long before) {
        long d = before;
        for (int item = 0; item < now.items.count; item++) {
            for (int what = 0; what <= 7; what++) {
                d = d * 31 + ofItem(item, what);
            }
        }
        int words = now.items.tally(MANY_WORDS);
        for (int address = 0; address < words; address++) {
            d = d * 31 + word(address);
        }
        for (int name = 0; name < NAMES; name++) {
            d = d * 31 + value(name);
        }
        return d * 31 + wrongly();
    }

    private void assembleNow() {
        now.assemble();
        now.follow();
    }

    private Line lineThere(int row, int line) {
        Line found = source.lineAt(row, line);
        if (found == null) {
            throw new IndexOutOfBoundsException("no such LINE");
        }
        return found;
    }

    private Item itemThere(int item) {
        Item found = now.items.itemAt(item);
        if (found == null) {
            throw new IndexOutOfBoundsException("no such ITEM");
        }
        return found;
    }

    /** A LINE as it was told; it never changes. */
    private static final class Line {
        final int kind;
        final int x;
        final int y;
        final int n;
        final boolean isRelative;

        Line(int kind, int x, int y, int n, boolean isRelative) {
            this.kind = kind;
            this.x = x;
            this.y = y;
            this.n = n;
            this.isRelative = isRelative;
        }

        boolean isItem() {
            return kind != WHEN && kind != END && kind != CALL;
        }

        static boolean isAllowed(int kind, int x, int y, int n, boolean isRelative) {
            return kind >= LABEL && kind <= CALL
                    && isXOf(kind, x) && isYOf(kind, y) && isNOf(kind, n)
                    && (!isRelative || canBeRelative(kind));
        }

        private static boolean isXOf(int kind, int x) {
            switch (kind) {
                case LABEL:
                    return x >= 0 && x <= LAST_LOCAL;
                case SET:
                    return x >= 0 && x < NAMES;
                case DATA:
                case JUMP:
                case IF:
                    return x >= NONE && x <= LAST_REFERENCE;
                case WHEN:
                    return x >= NONE && x < NAMES;
                case CALL:
                    return x > MAIN && x < ROWS;
                default:
                    return x == NONE;
            }
        }

        private static boolean isYOf(int kind, int y) {
            switch (kind) {
                case SET:
                case WHEN:
                    return y >= NONE && y < NAMES;
                case DATA:
                    return y >= NONE && y <= LAST_REFERENCE;
                default:
                    return y == NONE;
            }
        }

        private static boolean isNOf(int kind, int n) {
            switch (kind) {
                case LABEL:
                case POOL:
                case END:
                    return n == 0;
                case ALIGN:
                    return n == 2 || n == 4 || n == 8;
                default:
                    return n >= -MOST_N && n <= MOST_N;
            }
        }

        private static boolean canBeRelative(int kind) {
            return kind != LABEL && kind != POOL && kind != END && kind != ALIGN;
        }
    }

    /** The LINES of one ROW, in their order. */
    private static final class Row {
        final Line[] lines;
        int count;

        Row(int most) {
            lines = new Line[Math.max(0, most)];
            count = 0;
        }

        void insert(int at, Line line) {
            if (count >= lines.length || at < 0 || at > count) {
                return;
            }
            for (int i = count; i > at; i--) {
                lines[i] = lines[i - 1];
            }
            lines[at] = line;
            count++;
        }

        void remove(int at) {
            if (at < 0 || at >= count) {
                return;
            }
            count--;
            for (int i = at; i < count; i++) {
                lines[i] = lines[i + 1];
            }
        }

        void copyFrom(Row from) {
            count = Math.min(from.count, lines.length);
            for (int i = 0; i < count; i++) {
                lines[i] = from.lines[i];
            }
        }
    }

    /** All ROWS. */
    private static final class Source {
        private final Row[] rows;

        Source(int mostInMain) {
            rows = new Row[ROWS];
            for (int row = 0; row < ROWS; row++) {
                rows[row] = new Row(row == MAIN ? mostInMain : MOST_IN_MACRO);
            }
        }

        boolean hasRow(int row) {
            return row >= 0 && row < ROWS;
        }

        boolean hasLine(int row, int line) {
            return hasRow(row) && line >= 0 && line < rows[row].count;
        }

        boolean isFull(int row) {
            return hasRow(row) && rows[row].count >= rows[row].lines.length;
        }

        int countOf(int row) {
            return hasRow(row) ? rows[row].count : 0;
        }

        int countOfAll() {
            int all = 0;
            for (int row = 0; row < ROWS; row++) {
                all += rows[row].count;
            }
            return all;
        }

        Line lineAt(int row, int line) {
            return hasLine(row, line) ? rows[row].lines[line] : null;
        }

        void insert(int row, int at, Line line) {
            if (hasRow(row)) {
                rows[row].insert(at, line);
            }
        }

        void replace(int row, int at, Line line) {
            if (hasLine(row, at)) {
                rows[row].lines[at] = line;
            }
        }

        void remove(int row, int at) {
            if (hasLine(row, at)) {
                rows[row].remove(at);
            }
        }

        void copyFrom(Source from) {
            for (int row = 0; row < ROWS; row++) {
                rows[row].copyFrom(from.rows[row]);
            }
        }
    }

    /** An ITEM; made once, and told anew each time that the LINES are expanded. */
    private static final class Item {
        int kind;
        int x;
        int y;
        int n;
        int gives;
        int mainLine;
        int depth;
        Item xGiver;
        Item yGiver;
        Item pool;
        int place;
        int different;
        int address;
        int size;
        boolean isLong;
        boolean isFollowed;

        void tell(Line line, int withArg, int says, int ofMainLine, int atDepth) {
            kind = line.kind;
            x = line.x;
            y = line.y;
            n = withArg;
            gives = says;
            mainLine = ofMainLine;
            depth = atDepth;
            xGiver = null;
            yGiver = null;
            pool = null;
            place = 0;
            different = 0;
            address = 0;
            size = 0;
            isLong = false;
            isFollowed = false;
        }

        boolean isBranch() {
            return kind == JUMP || kind == IF;
        }

        boolean hasValue() {
            return kind == DATA || isBranch();
        }

        int valueHere() {
            int plus = xGiver == null ? 0 : xGiver.gives;
            int less = yGiver == null ? 0 : yGiver.gives;
            return n + plus - less;
        }

        int distanceHere() {
            return valueHere() - (address + 1);
        }

        boolean isNear() {
            int far = distanceHere();
            return far >= LEAST_SHORT && far <= MOST_SHORT;
        }

        /** Of a LOAD: how far its N lies above it. */
        int aboveLoad() {
            return pool == null ? 0 : pool.address + place - address;
        }

        boolean canBeFollowed() {
            if (kind == POOL || kind == ALIGN) {
                return size == 0;
            }
            return kind != DATA;
        }

        int sizeAt(int start) {
            switch (kind) {
                case DATA:
                case LOAD:
                    return 1;
                case JUMP:
                    return isLong ? 2 : 1;
                case IF:
                    return isLong ? 3 : 1;
                case POOL:
                    return different;
                case ALIGN:
                    return n > 0 ? (n - start % n) % n : 0;
                default:
                    return 0;
            }
        }

        int branchWord(int offset) {
            if (!isLong) {
                return (kind == IF ? 4008 : 3008) + distanceHere();
            }
            // a LONG IF is its own word and then a LONG JUMP
            int ofJump = kind == IF ? offset - 1 : offset;
            if (ofJump < 0) {
                return 4100;
            }
            return ofJump == 0 ? 3100 : valueHere();
        }

        /** What many() of that number counts of this ITEM. */
        int shareOf(int what) {
            switch (what) {
                case MANY_ITEMS:
                    return 1;
                case MANY_WORDS:
                    return size;
                case MANY_BRANCHES:
                    return isBranch() ? 1 : 0;
                case MANY_LONG:
                    return isLong ? 1 : 0;
                case MANY_LOADS:
                    return kind == LOAD ? 1 : 0;
                case MANY_POOL_WORDS:
                    return kind == POOL ? size : 0;
                case MANY_ALIGN_WORDS:
                    return kind == ALIGN ? size : 0;
                case MANY_CODE_WORDS:
                    return isFollowed ? size : 0;
                case MANY_OTHER_WORDS:
                    return !isFollowed && (isBranch() || kind == LOAD) ? size : 0;
                default:
                    return 0;
            }
        }
    }

    /** The ITEMS, in their order; none while there is a FAULT. */
    private static final class Items {
        private final Item[] all;
        int count;

        Items() {
            // one more for the POOL behind all
            all = new Item[MOST_ITEMS + 1];
            for (int i = 0; i < all.length; i++) {
                all[i] = new Item();
            }
            count = 0;
        }

        void clear() {
            count = 0;
        }

        void append(Line line, int n, int says, int mainLine, int depth) {
            if (count < all.length) {
                all[count].tell(line, n, says, mainLine, depth);
                count++;
            }
        }

        Item itemAt(int item) {
            return item >= 0 && item < count ? all[item] : null;
        }

        Item nearestAhead(int kind, int x, int at) {
            for (int i = Math.min(at, count) - 1; i >= 0; i--) {
                if (all[i].kind == kind && all[i].x == x) {
                    return all[i];
                }
            }
            return null;
        }

        Item nearestBehind(int kind, int x, int at) {
            for (int i = Math.max(at, NONE) + 1; i < count; i++) {
                if (all[i].kind == kind && all[i].x == x) {
                    return all[i];
                }
            }
            return null;
        }

        /** The LABEL or SET that gives the VALUE of an x or y at an ITEM; null if there is none. */
        Item giverOf(int reference, int at) {
            if (reference > LAST_LOCAL) {
                return nearestBehind(LABEL, reference - LOCALS, at);
            }
            Item giver = nearestAhead(LABEL, reference, at);
            if (giver == null && reference < FIRST_LOCAL) {
                giver = nearestBehind(LABEL, reference, at);
            }
            if (giver == null && reference < FIRST_LOCAL) {
                giver = nearestAhead(SET, reference, at);
            }
            return giver;
        }

        /** Finds what each x and y stands for; returns the first ITEM of FAULT 5, or NONE. */
        int linkValues() {
            for (int i = 0; i < count; i++) {
                Item item = all[i];
                if (!item.hasValue()) {
                    continue;
                }
                item.xGiver = item.x == NONE ? null : giverOf(item.x, i);
                item.yGiver = item.y == NONE ? null : giverOf(item.y, i);
                if (item.x != NONE && item.xGiver == null || item.y != NONE && item.yGiver == null) {
                    return i;
                }
            }
            return NONE;
        }

        /** Gives each LOAD its POOL and its place there, and each POOL its number of different N. */
        void linkPools() {
            int first = 0;
            int different = 0;
            for (int i = 0; i < count; i++) {
                if (all[i].kind == LOAD) {
                    Item same = loadOfSame(first, i);
                    all[i].place = same == null ? different : same.place;
                    different += same == null ? 1 : 0;
                } else if (all[i].kind == POOL) {
                    all[i].different = different;
                    tellPool(first, i);
                    first = i + 1;
                    different = 0;
                }
            }
        }

        private Item loadOfSame(int first, int load) {
            for (int i = first; i < load; i++) {
                if (all[i].kind == LOAD && all[i].n == all[load].n) {
                    return all[i];
                }
            }
            return null;
        }

        private void tellPool(int first, int pool) {
            for (int i = first; i < pool; i++) {
                all[i].pool = all[i].kind == LOAD ? all[pool] : null;
            }
        }

        /** Gives all ITEMS their SIZES and addresses. */
        void place() {
            int address = 0;
            for (int i = 0; i < count; i++) {
                all[i].address = address;
                all[i].size = all[i].sizeAt(address);
                all[i].gives = all[i].kind == LABEL ? address : all[i].gives;
                address += all[i].size;
            }
        }

        /** Makes LONG what is too far, all by the same addresses; returns whether there was any. */
        boolean lengthen() {
            boolean isAny = false;
            for (int i = 0; i < count; i++) {
                if (all[i].isBranch() && !all[i].isLong && !all[i].isNear()) {
                    all[i].isLong = true;
                    isAny = true;
                }
            }
            return isAny;
        }

        /** The first LOAD of FAULT 6, or NONE. */
        int firstFarLoad() {
            for (int i = 0; i < count; i++) {
                if (all[i].kind == LOAD && all[i].aboveLoad() > MOST_ABOVE_LOAD) {
                    return i;
                }
            }
            return NONE;
        }

        int countNeedlesslyLong() {
            int found = 0;
            for (int i = 0; i < count; i++) {
                if (all[i].isLong) {
                    all[i].isLong = false;
                    place();
                    found += all[i].isNear() ? 1 : 0;
                    all[i].isLong = true;
                }
            }
            place();
            return found;
        }

        int tally(int what) {
            int sum = 0;
            for (int i = 0; i < count; i++) {
                sum += all[i].shareOf(what);
            }
            return sum;
        }

        /** The ITEM of the word at an address, or NONE. */
        int holderOf(int address) {
            for (int i = 0; i < count; i++) {
                int start = all[i].address;
                if (address >= start && address < start + all[i].size) {
                    return i;
                }
            }
            return NONE;
        }

        /** The first ITEM with the address of a word, or NONE. */
        int firstWith(int address) {
            if (holderOf(address) == NONE) {
                return NONE;
            }
            for (int i = 0; i < count; i++) {
                if (all[i].address == address) {
                    return i;
                }
            }
            return NONE;
        }

        int wordOf(Item item, int offset) {
            switch (item.kind) {
                case DATA:
                    return item.valueHere();
                case JUMP:
                case IF:
                    return item.branchWord(offset);
                case LOAD:
                    return 5000 + item.aboveLoad() - 1;
                case POOL:
                    return wordOfPool(item, offset);
                default:
                    return 0;
            }
        }

        private int wordOfPool(Item pool, int place) {
            for (int i = 0; i < count; i++) {
                if (all[i].pool == pool && all[i].place == place) {
                    return all[i].n;
                }
            }
            return 0;
        }
    }

    /** The NAMES, as they are LABELS or SET so far in expanding. */
    private static final class Names {
        private final boolean[] hasLabel;
        private final boolean[] isSet;
        private final int[] says;

        Names() {
            hasLabel = new boolean[NAMES];
            isSet = new boolean[NAMES];
            says = new int[NAMES];
        }

        void clear() {
            for (int name = 0; name < NAMES; name++) {
                hasLabel[name] = false;
                isSet[name] = false;
                says[name] = 0;
            }
        }

        boolean isLabel(int x) {
            return x >= 0 && x < NAMES && hasLabel[x];
        }

        boolean isSetSoFar(int x) {
            return x >= 0 && x < NAMES && isSet[x];
        }

        boolean isNoneOrSet(int x) {
            return x == NONE || x >= 0 && x < NAMES && isSet[x];
        }

        int soFar(int x) {
            return x >= 0 && x < NAMES && isSet[x] ? says[x] : 0;
        }

        /** A LOCAL is no NAME, and is not noted. */
        void noteLabel(int x) {
            if (x >= 0 && x < NAMES) {
                hasLabel[x] = true;
            }
        }

        void noteSet(int x, int to) {
            if (x >= 0 && x < NAMES) {
                isSet[x] = true;
                says[x] = to;
            }
        }
    }

    /** Makes ITEMS of the LINES. */
    private static final class Expander {
        private final Source source;
        private final Items items;
        private final Names names;
        private int expanded;
        int faultNumber;
        /** The LINE of MAIN that is expanded; with a FAULT the one at which it came. */
        int mainLine;

        Expander(Source source, Items items) {
            this.source = source;
            this.items = items;
            names = new Names();
            expanded = 0;
            faultNumber = NO_FAULT;
            mainLine = 0;
        }

        void startOver() {
            items.clear();
            names.clear();
            expanded = 0;
            faultNumber = NO_FAULT;
            mainLine = 0;
        }

        private void expandRow(int row, int arg, int depth) {
            int openLeftOut = 0;
            int lines = source.countOf(row);
            for (int at = 0; at < lines && faultNumber == NO_FAULT; at++) {
                Line line = source.lineAt(row, at);
                if (line == null) {
                    return;
                }
                mainLine = depth == 0 ? at : mainLine;
                if (openLeftOut > 0) {
                    openLeftOut += line.kind == WHEN ? 1 : line.kind == END ? -1 : 0;
                }
                // an END that closes what is left out is expanded itself
                if (openLeftOut == 0 && !expandLine(line, arg, depth)) {
                    openLeftOut = 1;
                }
            }
        }

        /** Returns false of a WHEN that leaves out what is behind it. */
        private boolean expandLine(Line line, int arg, int depth) {
            int n = line.isRelative ? line.n + arg : line.n;
            expanded++;
            if (expanded > MOST_EXPANDED || line.isItem() && items.count >= MOST_ITEMS) {
                faultNumber = TOO_MUCH;
                return true;
            }
            switch (line.kind) {
                case CALL:
                    expandCall(line.x, n, depth);
                    return true;
                case WHEN:
                    return goesOn(line, n);
                case END:
                    return true;
                case LABEL:
                    expandLabel(line.x);
                    break;
                case SET:
                    expandSet(line, n);
                    break;
                default:
                    break;
            }
            int says = line.kind == SET ? names.soFar(line.x) : 0;
            items.append(line, n, says, mainLine, depth);
            return true;
        }

        private void expandCall(int row, int arg, int depth) {
            if (depth >= MOST_DEPTH) {
                faultNumber = TOO_DEEP;
                return;
            }
            expandRow(row, arg, depth + 1);
        }

        private boolean goesOn(Line line, int n) {
            if (!names.isNoneOrSet(line.x) || !names.isNoneOrSet(line.y)) {
                faultNumber = NOT_SET;
                return true;
            }
            return n + names.soFar(line.x) - names.soFar(line.y) > 0;
        }

        private void expandLabel(int name) {
            if (names.isLabel(name) || names.isSetSoFar(name)) {
                faultNumber = NAMED_TWICE;
                return;
            }
            names.noteLabel(name);
        }

        private void expandSet(Line line, int n) {
            if (!names.isNoneOrSet(line.y)) {
                faultNumber = NOT_SET;
            } else if (names.isLabel(line.x)) {
                faultNumber = NAMED_TWICE;
            } else {
                names.noteSet(line.x, names.soFar(line.y) + n);
            }
        }
    }

    /** What comes of the LINES of a Source. */
    private static final class Assembly {
        final Items items;
        private final Expander expander;
        private final Line lastPool;
        private final int[] queue;
        private int queued;
        int faultNumber;
        int faultLine;
        int rounds;

        Assembly(Source source) {
            items = new Items();
            expander = new Expander(source, items);
            lastPool = new Line(POOL, NONE, NONE, 0, false);
            queue = new int[MOST_ITEMS + 1];
            queued = 0;
            faultNumber = NO_FAULT;
            faultLine = NONE;
            rounds = 0;
        }

        void assemble() {
            faultNumber = NO_FAULT;
            faultLine = NONE;
            rounds = 0;
            expander.startOver();
            expander.expandRow(MAIN, 0, 0);
            if (expander.faultNumber != NO_FAULT) {
                failAt(expander.faultNumber, expander.mainLine);
                return;
            }
            items.append(lastPool, 0, 0, NONE, 0);
            if (failsAtItem(NO_VALUE, items.linkValues())) {
                return;
            }
            items.linkPools();
            boolean isLonger = true;
            // each ROUND but the last makes one of the ITEMS LONG
            while (isLonger && rounds <= MOST_ITEMS) {
                rounds++;
                items.place();
                isLonger = items.lengthen();
            }
            failsAtItem(TOO_FAR, items.firstFarLoad());
        }

        private void failAt(int number, int line) {
            faultNumber = number;
            faultLine = line;
            items.clear();
        }

        private boolean failsAtItem(int number, int item) {
            Item at = items.itemAt(item);
            if (at == null) {
                return false;
            }
            failAt(number, at.mainLine);
            return true;
        }

        int wordsOrFault() {
            return faultNumber == NO_FAULT ? items.tally(MANY_WORDS) : -10 - faultNumber;
        }

        /** Finds which ITEMS are FOLLOWED. */
        void follow() {
            queued = 0;
            reach(0);
            for (int done = 0; done < queued && done < queue.length; done++) {
                Item item = items.itemAt(queue[done]);
                if (item == null) {
                    return;
                }
                if (item.kind != JUMP) {
                    reach(queue[done] + 1);
                }
                if (item.isBranch()) {
                    reach(items.firstWith(item.valueHere()));
                }
            }
        }

        private void reach(int at) {
            Item item = items.itemAt(at);
            if (item == null || item.isFollowed || !item.canBeFollowed() || queued >= queue.length) {
                return;
            }
            item.isFollowed = true;
            queue[queued] = at;
            queued++;
        }
    }
}
