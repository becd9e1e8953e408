/** Blocks cut for a print in flat colours. README.md tells how the calls go together. */
public final class SlippedBlocks {
    public static final int BAD = -1, STATE = -2, FULL = -3, NONE = -9;
    public static final int NO = -1000000, NOT = -2000000;

    private static final int MOST_INKS = 6;
    private static final int MOST_SIDE = 6;
    private static final int MOST_LETTERS = 100;
    private static final int MOST_SEEN = 6;
    private static final int MOST_UNDONE = 6;
    private static final int MOST_IMAGES = 2;
    private static final int COLOURS = 8;

    /** Two more bits than a row has cells, so that a slipped cell never comes into the row beside it. */
    private static final int ROW_BITS = 8;

    /** A slip is one number, as WHICH counts it: 3 (dy + 1) + dx + 1. */
    private static final int SLIPS = 9;
    private static final int NO_SLIP = 4;
    private static final int NO_INK = -1;

    private final Work now = new Work();
    private final Work told = new Work();
    private final Text text = new Text();
    private final Past past = new Past();
    private final Work[] images = new Work[MOST_IMAGES];
    private final boolean[] kept = new boolean[MOST_IMAGES];
    private final Sightings sightings = new Sightings();
    private final RowSearch search = new RowSearch();
    private final Sheet proof = new Sheet();

    public SlippedBlocks() {
        for (int i = 0; i < MOST_IMAGES; i++) {
            images[i] = new Work();
        }
    }

    // ---- what is told

    public int type(int letter) {
        if (letter < 0 || letter > 255) {
            return BAD;
        }
        return text.append(letter) ? text.length : FULL;
    }

    public int clear() {
        int had = text.length;
        text.length = 0;
        return had;
    }

    public int tells() {
        int fault = text.readInto(told);
        if (fault != NONE) {
            return -10 - fault;
        }
        past.remember(now);
        now.copy(told);
        text.length = 0;
        sightings.many = 0;
        for (int i = 0; i < MOST_IMAGES; i++) {
            kept[i] = false;
        }
        return told.inks + told.height;
    }

    // ---- what is done

    public int cuts() {
        int set = now.leastSet();
        if (set == NONE) {
            return STATE;
        }
        past.remember(now);
        now.cutFor(set);
        return Integer.bitCount(set);
    }

    public int carves(int ink, int x, int y) {
        if (!now.hasInk(ink) || !now.hasCell(x, y)) {
            return BAD;
        }
        past.remember(now);
        now.block[ink] ^= cellBit(x, y);
        return (now.block[ink] & cellBit(x, y)) != 0 ? 1 : 0;
    }

    public int slips(int ink, int dx, int dy) {
        if (!now.hasInk(ink) || dx < -1 || dx > 1 || dy < -1 || dy > 1) {
            return BAD;
        }
        int slip = slipOf(dx, dy);
        if (now.slip[ink] == slip) {
            return STATE;
        }
        past.remember(now);
        now.slip[ink] = slip;
        return 1;
    }

    public int swaps(int ink, int other) {
        if (!now.hasInk(ink) || !now.hasInk(other) || ink == other) {
            return BAD;
        }
        past.remember(now);
        now.exchange(ink, other);
        return wrongCells(NO_INK, NO_SLIP);
    }

    public int undo() {
        if (past.many == 0) {
            return STATE;
        }
        past.restore(now);
        return past.many;
    }

    // ---- as it is

    public int cell(int x, int y, int what) {
        if (!now.hasCell(x, y)) {
            return BAD;
        }
        switch (what) {
            case 0:
                return now.picture.at(x, y);
            case 1:
                now.proofInto(proof, NO_INK, NO_SLIP);
                return proof.at(x, y);
            case 2:
                return now.inksOf(x, y);
            default:
                return BAD;
        }
    }

    public int ink(int ink, int what) {
        if (!now.hasInk(ink)) {
            return NO;
        }
        switch (what) {
            case 0:
                return now.colour[ink];
            case 1:
                return now.isDense(ink) ? 1 : 0;
            case 2:
                return now.placeOf(ink);
            case 3:
                return Long.bitCount(now.block[ink]);
            case 4:
                return dxOf(now.slip[ink]);
            case 5:
                return dyOf(now.slip[ink]);
            default:
                return NO;
        }
    }

    // ---- colours

    public int made(int set) {
        if (set < 0 || set >= now.sets()) {
            return BAD;
        }
        return now.coloursBy(set);
    }

    public int least(int what) {
        if (what < 0 || what > 1) {
            return BAD;
        }
        int set = now.leastSet();
        if (set == NONE || what == 1) {
            return set;
        }
        return Integer.bitCount(set);
    }

    public int order(int i) {
        if (i < -1) {
            return BAD;
        }
        if (i >= now.inks) {
            return NONE;
        }
        search.run(now);
        if (!search.found) {
            return NONE;
        }
        return i == -1 ? search.fewest : search.inkAt(i, now.inks);
    }

    // ---- proofs

    public int wrong() {
        return wrongCells(NO_INK, NO_SLIP);
    }

    public int hurt(int ink) {
        if (!now.hasInk(ink)) {
            return NO;
        }
        int dx = dxOf(now.slip[ink]);
        int further = slipOf(dx == 1 ? 0 : dx + 1, dyOf(now.slip[ink]));
        return wrongCells(ink, further) - wrongCells(NO_INK, NO_SLIP);
    }

    // ---- which block

    public int sees(int x, int y, int colour) {
        if (!onBoard(x, y) || colour < 0 || colour >= COLOURS) {
            return BAD;
        }
        return sightings.add(x, y, colour) ? sightings.many : FULL;
    }

    public int forget() {
        int had = sightings.many;
        sightings.many = 0;
        return had;
    }

    public int which(int what) {
        switch (what) {
            case 0:
                return sightings.howManyExplain(now);
            case 1:
                return sightings.firstExplaining(now);
            default:
                return NO;
        }
    }

    public int ask() {
        return sightings.bestCell(now);
    }

    // ---- images

    public int keep(int image) {
        if (image < 0 || image >= MOST_IMAGES) {
            return BAD;
        }
        images[image].copy(now);
        kept[image] = true;
        return now.inks;
    }

    public int back(int image) {
        if (image < 0 || image >= MOST_IMAGES) {
            return BAD;
        }
        if (!kept[image]) {
            return STATE;
        }
        now.copy(images[image]);
        past.many = 0;
        return now.inks;
    }

    public int count(int what) {
        switch (what) {
            case 0:
                return now.width;
            case 1:
                return now.height;
            case 2:
                return now.inks;
            case 3:
                return now.palette();
            case 4:
                return now.cellsOfBlocks();
            case 5:
                return now.slippedBlocks();
            case 6:
                return sightings.many;
            case 7:
                return text.length;
            case 8:
                return past.many;
            default:
                return BAD;
        }
    }

    /** How many cells are wrong if the block of one ink has that slip (NO_INK: all as they are). */
    private int wrongCells(int odd, int slipOfOdd) {
        now.proofInto(proof, odd, slipOfOdd);
        return Long.bitCount(now.picture.unlike(proof));
    }

    private static boolean onBoard(int x, int y) {
        return x >= 0 && x < MOST_SIDE && y >= 0 && y < MOST_SIDE;
    }

    private static long cellBit(int x, int y) {
        return 1L << (ROW_BITS * y + x);
    }

    private static int slipOf(int dx, int dy) {
        return 3 * (dy + 1) + dx + 1;
    }

    private static int dxOf(int slip) {
        return slip % 3 - 1;
    }

    private static int dyOf(int slip) {
        return slip / 3 - 1;
    }

    /** A block's cells where its slip puts them; those that leave the paper are still to be masked off. */
    private static long slipped(long cells, int slip) {
        int by = ROW_BITS * dyOf(slip) + dxOf(slip);
        return by >= 0 ? cells << by : cells >>> -by;
    }

    /** A colour for each cell, as three masks: the cells that have each primary. */
    private static final class Sheet {
        private long first;
        private long second;
        private long third;

        void wipe() {
            first = 0L;
            second = 0L;
            third = 0L;
        }

        void copy(Sheet other) {
            first = other.first;
            second = other.second;
            third = other.third;
        }

        void print(long cells, int colour, boolean dense) {
            first = printed(first, cells, (colour & 1) != 0, dense);
            second = printed(second, cells, (colour & 2) != 0, dense);
            third = printed(third, cells, (colour & 4) != 0, dense);
        }

        private static long printed(long plane, long cells, boolean inkHasIt, boolean dense) {
            if (inkHasIt) {
                return plane | cells;
            }
            return dense ? plane & ~cells : plane;
        }

        int at(int x, int y) {
            long bit = cellBit(x, y);
            return ((first & bit) != 0 ? 1 : 0) | ((second & bit) != 0 ? 2 : 0) | ((third & bit) != 0 ? 4 : 0);
        }

        /** Every cell of that colour; for colour 0 the bits off the paper, too. */
        long cellsOf(int colour) {
            return ((colour & 1) != 0 ? first : ~first)
                    & ((colour & 2) != 0 ? second : ~second)
                    & ((colour & 4) != 0 ? third : ~third);
        }

        long unlike(Sheet other) {
            return (first ^ other.first) | (second ^ other.second) | (third ^ other.third);
        }
    }

    /** All that part 1 of the document tells but the text: what is undone, and what images keep. */
    private static final class Work {
        /** Of all colours, as bits, those that have the first, the second, the third primary. */
        private static final int[] HAVING = {0xAA, 0xCC, 0xF0};

        private int width = 1;
        private int height = 1;
        private int inks = 0;
        private int denseInks = 0;
        private final Sheet picture = new Sheet();
        private final int[] colour = new int[MOST_INKS];
        private final int[] inkAtPlace = new int[MOST_INKS];
        private final long[] block = new long[MOST_INKS];
        private final int[] slip = new int[MOST_INKS];

        void copy(Work other) {
            width = other.width;
            height = other.height;
            inks = other.inks;
            denseInks = other.denseInks;
            picture.copy(other.picture);
            System.arraycopy(other.colour, 0, colour, 0, MOST_INKS);
            System.arraycopy(other.inkAtPlace, 0, inkAtPlace, 0, MOST_INKS);
            System.arraycopy(other.block, 0, block, 0, MOST_INKS);
            System.arraycopy(other.slip, 0, slip, 0, MOST_INKS);
        }

        void empty() {
            width = 0;
            height = 0;
            inks = 0;
            denseInks = 0;
            picture.wipe();
        }

        void addInk(int itsColour, boolean dense) {
            if (inks >= MOST_INKS) {
                return;
            }
            colour[inks] = itsColour;
            inkAtPlace[inks] = inks;
            block[inks] = 0L;
            slip[inks] = NO_SLIP;
            if (dense) {
                denseInks |= 1 << inks;
            }
            inks++;
        }

        boolean hasInk(int ink) {
            return ink >= 0 && ink < inks;
        }

        boolean hasCell(int x, int y) {
            return x >= 0 && x < width && y >= 0 && y < height;
        }

        boolean isDense(int ink) {
            return (denseInks >> ink & 1) != 0;
        }

        int placeOf(int ink) {
            for (int place = 0; place < inks; place++) {
                if (inkAtPlace[place] == ink) {
                    return place;
                }
            }
            return NO_INK;
        }

        void exchange(int ink, int other) {
            int place = placeOf(ink);
            int otherPlace = placeOf(other);
            if (place >= 0 && otherPlace >= 0) {
                inkAtPlace[place] = other;
                inkAtPlace[otherPlace] = ink;
            }
        }

        int inksOf(int x, int y) {
            int set = 0;
            for (int ink = 0; ink < inks; ink++) {
                if ((block[ink] & cellBit(x, y)) != 0) {
                    set |= 1 << ink;
                }
            }
            return set;
        }

        int cellsOfBlocks() {
            int cells = 0;
            for (int ink = 0; ink < inks; ink++) {
                cells += Long.bitCount(block[ink]);
            }
            return cells;
        }

        int slippedBlocks() {
            int many = 0;
            for (int ink = 0; ink < inks; ink++) {
                if (slip[ink] != NO_SLIP) {
                    many++;
                }
            }
            return many;
        }

        /** Every cell of the picture. */
        long paper() {
            long row = (1L << width) - 1;
            long cells = 0L;
            for (int y = 0; y < height; y++) {
                cells |= row << (ROW_BITS * y);
            }
            return cells;
        }

        /** The proof, if the block of one ink has that slip (NO_INK: all as they are). */
        void proofInto(Sheet proof, int odd, int slipOfOdd) {
            long paper = paper();
            proof.wipe();
            for (int place = 0; place < inks; place++) {
                int ink = inkAtPlace[place];
                long cells = slipped(block[ink], ink == odd ? slipOfOdd : slip[ink]);
                proof.print(cells & paper, colour[ink], isDense(ink));
            }
        }

        /** The picture's colours, as bits. */
        int palette() {
            long paper = paper();
            int colours = 0;
            for (int c = 0; c < COLOURS; c++) {
                if ((picture.cellsOf(c) & paper) != 0) {
                    colours |= 1 << c;
                }
            }
            return colours;
        }

        /** How many sets of inks there are: as bits, each below that number is one. */
        int sets() {
            return 1 << inks;
        }

        /** What an ink gives, printed on each of these colours (bits, at least one). */
        int coloursOver(int colours, int ink) {
            if (isDense(ink)) {
                return 1 << colour[ink];
            }
            int over = colours;
            for (int primary = 0; primary < HAVING.length; primary++) {
                if ((colour[ink] >> primary & 1) != 0) {
                    int having = HAVING[primary];
                    over = over & having | (over & ~having) << (1 << primary);
                }
            }
            return over;
        }

        /** The colours that a set of inks makes in the order, as bits. */
        int coloursBy(int set) {
            int colours = 1;
            for (int place = 0; place < inks; place++) {
                int ink = inkAtPlace[place];
                if ((set >> ink & 1) != 0) {
                    colours |= coloursOver(colours, ink);
                }
            }
            return colours;
        }

        /** LEAST as bits, or NONE. */
        int leastSet() {
            int palette = palette();
            int best = NONE;
            for (int set = 0; set < sets(); set++) {
                boolean fewer = best == NONE || Integer.bitCount(set) < Integer.bitCount(best);
                if (fewer && (palette & ~coloursBy(set)) == 0) {
                    best = set;
                }
            }
            return best;
        }

        /** The one colour that all inks of a set give, printed in the order on bare paper. */
        int colourOfAll(int set) {
            int given = 0;
            for (int place = 0; place < inks; place++) {
                int ink = inkAtPlace[place];
                if ((set >> ink & 1) != 0) {
                    given = isDense(ink) ? colour[ink] : given | colour[ink];
                }
            }
            return given;
        }

        /** Of the sets within that one which give a colour the least as bits, or NONE. */
        int firstSetGiving(int wanted, int within) {
            for (int set = 0; set < sets(); set++) {
                if ((set & ~within) == 0 && colourOfAll(set) == wanted) {
                    return set;
                }
            }
            return NONE;
        }

        void cutFor(int set) {
            for (int ink = 0; ink < inks; ink++) {
                block[ink] = 0L;
                slip[ink] = NO_SLIP;
            }
            long paper = paper();
            for (int c = 0; c < COLOURS; c++) {
                long cells = picture.cellsOf(c) & paper;
                if (cells != 0) {
                    addToBlocks(firstSetGiving(c, set), cells);
                }
            }
        }

        private void addToBlocks(int set, long cells) {
            if (set == NONE) {
                return;
            }
            for (int ink = 0; ink < inks; ink++) {
                if ((set >> ink & 1) != 0) {
                    block[ink] |= cells;
                }
            }
        }
    }

    /** The text, and the reading of it. */
    private static final class Text {
        private static final char NO_ITEM = ' ';

        private final char[] letters = new char[MOST_LETTERS];
        private int length = 0;
        /** The item that is being read: its letter, or NO_ITEM between items; and its figures so far. */
        private char item = NO_ITEM;
        private int figures = 0;

        boolean append(int letter) {
            if (length >= MOST_LETTERS) {
                return false;
            }
            letters[length] = (char) letter;
            length++;
            return true;
        }

        /** Reads the text: its FAULT, or NONE; only then what was told is whole. */
        int readInto(Work work) {
            work.empty();
            item = NO_ITEM;
            figures = 0;
            for (int place = 0; place < length; place++) {
                if (letters[place] != ' ' && !takes(letters[place], work)) {
                    return place;
                }
            }
            return item == NO_ITEM && work.height > 0 ? NONE : length;
        }

        private boolean takes(char token, Work work) {
            if (token == ';') {
                return endsItem(work);
            }
            if (token >= '0' && token <= '7') {
                return item == 'r' ? takesCell(token - '0', work) : takesInk(token - '0', work);
            }
            return beginsItem(token, work);
        }

        private boolean beginsItem(char token, Work work) {
            boolean isInk = token == 'c' || token == 'd';
            boolean fits = isInk && work.inks < MOST_INKS || token == 'r' && work.height < MOST_SIDE;
            if (item != NO_ITEM || !fits) {
                return false;
            }
            item = token;
            figures = 0;
            return true;
        }

        private boolean takesInk(int colour, Work work) {
            if (item == NO_ITEM || figures != 0 || colour == 0) {
                return false;
            }
            work.addInk(colour, item == 'd');
            figures = 1;
            return true;
        }

        private boolean takesCell(int colour, Work work) {
            int most = work.height == 0 ? MOST_SIDE : work.width;
            if (figures >= most) {
                return false;
            }
            work.picture.print(cellBit(figures, work.height), colour, true);
            figures++;
            return true;
        }

        private boolean endsItem(Work work) {
            if (item == NO_ITEM || figures == 0) {
                return false;
            }
            if (item == 'r') {
                if (work.height > 0 && figures != work.width) {
                    return false;
                }
                work.width = figures;
                work.height++;
            }
            item = NO_ITEM;
            return true;
        }
    }

    /** The latest works ahead of what was done, in a ring: the oldest gives way. */
    private static final class Past {
        private final Work[] works = new Work[MOST_UNDONE];
        private int next = 0;
        private int many = 0;

        Past() {
            for (int i = 0; i < MOST_UNDONE; i++) {
                works[i] = new Work();
            }
        }

        void remember(Work work) {
            works[next].copy(work);
            next = (next + 1) % MOST_UNDONE;
            many = Math.min(many + 1, MOST_UNDONE);
        }

        void restore(Work work) {
            if (many == 0) {
                return;
            }
            next = (next + MOST_UNDONE - 1) % MOST_UNDONE;
            many--;
            work.copy(works[next]);
        }
    }

    /**
     * The search for the best order. It does not try every row of all inks: the least set by a row is
     * a short row within it, so it grows short rows until they make all colours, and puts the other
     * inks among them as early as they can stand.
     */
    private static final class RowSearch {
        private final int[] shortRow = new int[MOST_INKS];
        private int palette = 0;
        private boolean found = false;
        private int fewest = 0;
        /** The best row, an octal figure for each place: so the lesser number is the row that comes first. */
        private int best = 0;

        void run(Work work) {
            found = false;
            fewest = 0;
            best = 0;
            palette = work.palette();
            grow(this, work, 0, 0, 1);
        }

        int inkAt(int place, int inks) {
            return best >> 3 * (inks - 1 - place) & 7;
        }

        /** Goes on from a short row (used: its inks, as bits) that makes these colours; as deep as there are inks. */
        private static void grow(RowSearch search, Work work, int length, int used, int colours) {
            if ((search.palette & ~colours) == 0) {
                search.settle(work.inks, length, used);
                return;
            }
            if (length >= work.inks || search.found && length >= search.fewest) {
                return;
            }
            for (int ink = 0; ink < work.inks; ink++) {
                if ((used >> ink & 1) == 0) {
                    search.shortRow[length] = ink;
                    int more = colours | work.coloursOver(colours, ink);
                    grow(search, work, length + 1, used | 1 << ink, more);
                }
            }
        }

        private void settle(int inks, int length, int used) {
            int row = earliestRow(inks, length, used);
            if (!found || length < fewest || length == fewest && row < best) {
                found = true;
                fewest = length;
                best = row;
            }
        }

        /** The first row of all inks, by numbers, in which the short row's inks stand one behind another. */
        private int earliestRow(int inks, int length, int used) {
            int row = 0;
            int ofShort = 0;
            for (int ink = 0; ink < inks; ink++) {
                if ((used >> ink & 1) == 0) {
                    while (ofShort < length && shortRow[ofShort] < ink) {
                        row = row << 3 | shortRow[ofShort];
                        ofShort++;
                    }
                    row = row << 3 | ink;
                }
            }
            for (int i = ofShort; i < length; i++) {
                row = row << 3 | shortRow[i];
            }
            return row;
        }
    }

    /** What was seen on a proof, and which slip of one block (or none) explains it. */
    private static final class Sightings {
        private final int[] xs = new int[MOST_SEEN];
        private final int[] ys = new int[MOST_SEEN];
        private final int[] colours = new int[MOST_SEEN];
        private int many = 0;
        private final Sheet proof = new Sheet();
        /** For each cell and colour, how many of those that explain all seen give it that colour. */
        private final int[] tally = new int[MOST_SIDE * MOST_SIDE * COLOURS];

        boolean add(int x, int y, int colour) {
            if (many >= MOST_SEEN) {
                return false;
            }
            xs[many] = x;
            ys[many] = y;
            colours[many] = colour;
            many++;
            return true;
        }

        int howManyExplain(Work work) {
            int explaining = 0;
            for (int guess = -1; guess < SLIPS * work.inks; guess++) {
                if (explains(work, guess)) {
                    explaining++;
                }
            }
            return explaining;
        }

        int firstExplaining(Work work) {
            for (int guess = -1; guess < SLIPS * work.inks; guess++) {
                if (explains(work, guess)) {
                    return guess;
                }
            }
            return NOT;
        }

        /** Whether a guess, a number as WHICH counts it, may be and gives all that was seen; leaves its proof. */
        private boolean explains(Work work, int guess) {
            int odd = guess < 0 ? NO_INK : guess / SLIPS;
            int slip = guess < 0 ? NO_SLIP : guess % SLIPS;
            if (work.hasInk(odd) && work.slip[odd] == slip) {
                return false;
            }
            work.proofInto(proof, odd, slip);
            for (int i = 0; i < many; i++) {
                if (!work.hasCell(xs[i], ys[i]) || proof.at(xs[i], ys[i]) != colours[i]) {
                    return false;
                }
            }
            return true;
        }

        int bestCell(Work work) {
            for (int i = 0; i < tally.length; i++) {
                tally[i] = 0;
            }
            int explaining = 0;
            for (int guess = -1; guess < SLIPS * work.inks; guess++) {
                if (explains(work, guess)) {
                    explaining++;
                    addToTally(work);
                }
            }
            return explaining > 1 ? mostTellingCell(work) : NONE;
        }

        private void addToTally(Work work) {
            for (int y = 0; y < work.height; y++) {
                for (int x = 0; x < work.width; x++) {
                    tally[(MOST_SIDE * y + x) * COLOURS + proof.at(x, y)]++;
                }
            }
        }

        private int mostTellingCell(Work work) {
            int best = NONE;
            int leastLeft = 0;
            for (int y = 0; y < work.height; y++) {
                for (int x = 0; x < work.width; x++) {
                    int number = MOST_SIDE * y + x;
                    int left = greatestTally(number);
                    if (best == NONE || left < leastLeft) {
                        best = number;
                        leastLeft = left;
                    }
                }
            }
            return best;
        }

        private int greatestTally(int number) {
            int greatest = 0;
            for (int c = 0; c < COLOURS; c++) {
                greatest = Math.max(greatest, tally[number * COLOURS + c]);
            }
            return greatest;
        }
    }
}
