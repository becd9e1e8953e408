import java.util.ArrayList;
import java.util.List;
import java.util.Random;

/**
 * Part 2 of the document by trying everything: every row of up to three inks with every set of colours that a picture
 * can have, and rows of four to six inks taken by a seeded source. A table tells what each set of inks gives in each
 * order, all of it printed; MADE, LEAST, CUT and BEST ORDER are read off it.
 */
public final class ColoursTest {
    private static final int STATE = -2, NONE = -9;
    private static final int KINDS = 14;
    private static final int ROWS_OF_MANY = 400;
    private static final int PALETTES_OF_MANY = 12;
    private static final Due due = new Due();

    /** One ink: 0 to 6 clear of colour 1 to 7, 7 to 13 dense. */
    private final int[] kinds;
    private final List<int[]> rows = new ArrayList<>();
    private final List<int[]> given = new ArrayList<>();

    private ColoursTest(int[] kinds) {
        this.kinds = kinds;
        addRows(new int[kinds.length], 0, 0);
        for (int[] row : rows) {
            int[] bySet = new int[1 << kinds.length];
            for (int set = 0; set < bySet.length; set++) {
                bySet[set] = printed(set, row);
            }
            given.add(bySet);
        }
    }

    public static void main(String[] args) {
        for (int inks = 0, all = 1; inks <= 3; inks++, all *= KINDS) {
            for (int number = 0; number < all && !due.anyWrong(); number++) {
                ColoursTest test = new ColoursTest(kindsOf(number, inks));
                for (int palette = 1; palette < 256; palette++) {
                    test.picture(palette, 0);
                }
            }
        }
        Random random = new Random(20);
        for (int i = 0; i < ROWS_OF_MANY && !due.anyWrong(); i++) {
            ColoursTest test = new ColoursTest(random.ints(4 + i % 3, 0, KINDS).toArray());
            for (int j = 0; j < PALETTES_OF_MANY; j++) {
                int palette = random.nextInt(256) & (j % 3 == 0 ? 255 : random.nextInt(256));
                test.picture(palette == 0 ? 1 : palette, random.nextInt(test.rows.size()));
            }
        }
        due.end();
    }

    private static int[] kindsOf(int number, int inks) {
        int[] kinds = new int[inks];
        int rest = number;
        for (int i = 0; i < inks; i++) {
            kinds[i] = rest % KINDS;
            rest /= KINDS;
        }
        return kinds;
    }

    private static int colourOf(int kind) {
        return kind % 7 + 1;
    }

    /** Every row of all inks, by numbers, place by place. */
    private void addRows(int[] row, int place, int used) {
        if (place == row.length) {
            rows.add(row.clone());
        }
        for (int ink = 0; ink < row.length; ink++) {
            if ((used >> ink & 1) == 0 && place < row.length) {
                row[place] = ink;
                addRows(row, place + 1, used | 1 << ink);
            }
        }
    }

    private int printed(int set, int[] row) {
        int colour = 0;
        for (int ink : row) {
            if ((set >> ink & 1) != 0) {
                colour = kinds[ink] >= 7 ? colourOf(kinds[ink]) : colour | colourOf(kinds[ink]);
            }
        }
        return colour;
    }

    private int made(int set, int row) {
        int colours = 0;
        for (int some = 0; some <= set; some++) {
            if ((some & ~set) == 0) {
                colours |= 1 << given.get(row)[some];
            }
        }
        return colours;
    }

    private int least(int palette, int row) {
        int best = NONE;
        for (int set = 0; set < 1 << kinds.length; set++) {
            boolean fewer = best == NONE || Integer.bitCount(set) < Integer.bitCount(best);
            best = fewer && (palette & ~made(set, row)) == 0 ? set : best;
        }
        return best;
    }

    private static int many(int set) {
        return set == NONE ? NONE : Integer.bitCount(set);
    }

    /** A picture of just these colours, a cell each but the last, which fills the picture; then ORDER becomes a row. */
    private void picture(int palette, int row) {
        StringBuilder text = new StringBuilder();
        for (int kind : kinds) {
            text.append(kind >= 7 ? 'd' : 'c').append(colourOf(kind)).append(';');
        }
        int[] cells = new int[8];
        int filled = 0;
        for (int c = 0; c < 8; c++) {
            if ((palette >> c & 1) != 0) {
                for (int i = filled; i < 8; i++) {
                    cells[i] = c;
                }
                filled++;
            }
        }
        for (int i = 0; i < 8; i++) {
            text.append(i % 4 == 0 ? "r" : "").append(cells[i]).append(i % 4 == 3 ? ";" : "");
        }
        SlippedBlocks b = new SlippedBlocks();
        for (int i = 0; i < text.length(); i++) {
            b.type(text.charAt(i));
        }
        String what = text + " by row " + row;
        due.is(what + ", tells()", b.tells(), kinds.length + 2);
        putInOrder(b, rows.get(row));
        compare(what, b, palette, row);
        compareCut(what, b, cells, row, least(palette, row));
    }

    private static void putInOrder(SlippedBlocks b, int[] row) {
        for (int place = 0; place < row.length; place++) {
            for (int ink = 0; ink < row.length; ink++) {
                if (b.ink(ink, 2) == place && ink != row[place]) {
                    b.swaps(ink, row[place]);
                    break;
                }
            }
        }
    }

    private void compare(String what, SlippedBlocks b, int palette, int row) {
        due.is(what + ", count(3)", b.count(3), palette);
        if (Integer.bitCount(palette) == 1) {
            for (int set = 0; set < 1 << kinds.length; set++) {
                due.is(what + ", made(" + set + ")", b.made(set), made(set, row));
            }
        }
        int least = least(palette, row);
        due.is(what + ", least(0)", b.least(0), many(least));
        due.is(what + ", least(1)", b.least(1), least);
        int best = NONE;
        int[] bestRow = new int[0];
        for (int r = 0; r < rows.size(); r++) {
            int inks = many(least(palette, r));
            if (inks != NONE && (best == NONE || inks < best)) {
                best = inks;
                bestRow = rows.get(r);
            }
        }
        due.is(what + ", order(-1)", b.order(-1), best);
        for (int i = 0; i <= kinds.length; i++) {
            due.is(what + ", order(" + i + ")", b.order(i), i < bestRow.length ? bestRow[i] : NONE);
        }
    }

    private void compareCut(String what, SlippedBlocks b, int[] cells, int row, int least) {
        due.is(what + ", cuts()", b.cuts(), least == NONE ? STATE : Integer.bitCount(least));
        for (int i = 0; i < 8; i++) {
            int set = 0;
            while (least != NONE && ((set & ~least) != 0 || given.get(row)[set] != cells[i])) {
                set++;
            }
            due.is(what + ", blocks of cell " + i, b.cell(i % 4, i / 4, 2), set);
            due.is(what + ", proof of cell " + i, b.cell(i % 4, i / 4, 1), least == NONE ? 0 : cells[i]);
        }
    }
}
