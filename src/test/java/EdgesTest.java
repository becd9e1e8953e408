/** The boundary cases that sentences of the document name, promise by promise, each just within and just beyond. */
public final class EdgesTest {
    private static final int BAD = -1, STATE = -2, FULL = -3, NONE = -9, NO = -1000000, NOT = -2000000;
    private static final String[] BARE_ROWS = {"", "r0;", "r00;", "r000;", "r0000;", "r00000;", "r000000;"};
    private static final Due due = new Due();

    public static void main(String[] args) {
        firstAndLastCell();
        printedOnEachColour();
        printedInEachOrder();
        slippedOffThePaper();
        slipsOfEachStep();
        toldAnew();
        toldSmaller();
        cutKeepsNothing();
        noLeast();
        leastOfAllInks();
        carvesThereAndBack();
        exchangedFirstAndLast();
        exchangedEachPair();
        sixKnown();
        undoneRoundTheRing();
        undoOfEachKind();
        sixthInk();
        emptySetAndAll();
        bestOrderEnds();
        noBestOrder();
        wrongAllAndNone();
        hurtByEachStep();
        seenCorners();
        sixSeen();
        cellThatThereIsNot();
        whichOfNoInkAndOfSix();
        whichNotTheSlipItHas();
        askOneTwoNone();
        askFirstAndLastCell();
        askedAgain();
        imagesKeepNothingElse();
        imagesGone();
        nothingUndoneBehindBack();
        countsLeastAndMost();
        due.end();
    }

    private static void type(SlippedBlocks b, String text) {
        for (int i = 0; i < text.length(); i++) {
            b.type(text.charAt(i));
        }
    }

    private static void tell(SlippedBlocks b, String text) {
        type(b, text);
        due.holds("the text is told: " + text, b.tells() > 0);
    }

    private static SlippedBlocks told(String text) {
        SlippedBlocks b = new SlippedBlocks();
        tell(b, text);
        return b;
    }

    private static String bare(int w, int h) {
        return BARE_ROWS[w].repeat(h);
    }

    /** Promises 6 and 10: the first and the last column and row, one less and one more, for each W and H. */
    private static void firstAndLastCell() {
        for (int w = 1; w <= 6; w++) {
            for (int h = 1; h <= 6; h++) {
                SlippedBlocks b = told("c1;" + bare(w, h));
                String size = w + " by " + h;
                due.is("W, " + size, b.count(0), w);
                due.is("H, " + size, b.count(1), h);
                for (int y = -1; y <= h; y++) {
                    for (int x = -1; x <= w; x++) {
                        boolean there = x >= 0 && y >= 0 && x < w && y < h;
                        String cell = size + ", cell " + x + " " + y;
                        due.is("cell, " + cell, b.cell(x, y, 0), there ? 0 : BAD);
                        due.is("carves, " + cell, b.carves(0, x, y), there ? 1 : BAD);
                        due.is("carved, " + cell, b.cell(x, y, 2), there ? 1 : BAD);
                    }
                }
                due.is("no cell was carved but its own, " + size, b.ink(0, 3), w * h);
                due.is("all are wrong, " + size, b.wrong(), w * h);
            }
        }
    }

    /** "CLEAR: the CELL's COLOUR has the INK's PRIMARIES, too; DENSE: the CELL's COLOUR is the INK's." */
    private static void printedOnEachColour() {
        for (int below = 0; below <= 7; below++) {
            for (int colour = 1; colour <= 7; colour++) {
                for (int dense = 0; dense <= 1; dense++) {
                    String ink = (dense == 1 ? "d" : "c") + colour;
                    SlippedBlocks b = told((below == 0 ? "d1;" : "d" + below + ";") + ink + ";r0;");
                    if (below > 0) {
                        b.carves(0, 0, 0);
                    }
                    b.carves(1, 0, 0);
                    int given = dense == 1 ? colour : below | colour;
                    due.is("proof, " + ink + " on " + below, b.cell(0, 0, 1), given);
                    due.is("the picture stays, " + ink + " on " + below, b.cell(0, 0, 0), 0);
                    if (below > 0) {
                        int made = 1 | 1 << below | 1 << colour | 1 << given;
                        due.is("made, " + ink + " on " + below, b.made(3), made);
                    }
                }
            }
        }
    }

    /** "BLOCKS are PRINTED in ORDER": of three dense inks on one cell, in each order, the last one shows. */
    private static void printedInEachOrder() {
        int[][] swaps = {{}, {0, 1}, {0, 2}, {1, 2}, {0, 1, 0, 2}, {0, 1, 1, 2}};
        int[][] orders = {{0, 1, 2}, {1, 0, 2}, {2, 1, 0}, {0, 2, 1}, {1, 2, 0}, {2, 0, 1}};
        for (int i = 0; i < swaps.length; i++) {
            SlippedBlocks b = told("d1;d2;d4;r0;");
            for (int ink = 0; ink < 3; ink++) {
                b.carves(ink, 0, 0);
            }
            for (int s = 0; s < swaps[i].length; s += 2) {
                b.swaps(swaps[i][s], swaps[i][s + 1]);
            }
            for (int place = 0; place < 3; place++) {
                due.is("order " + i + ", place " + place, b.ink(orders[i][place], 2), place);
            }
            for (int place = 2; place >= 0; place--) {
                due.is("order " + i + ", shows", b.cell(0, 0, 1), 1 << orders[i][place]);
                b.carves(orders[i][place], 0, 0);
            }
            due.is("order " + i + ", bare", b.cell(0, 0, 1), 0);
        }
    }

    /** "(not, where there is no such CELL)": no cell that slips off comes in on the other side or in the next row. */
    private static void slippedOffThePaper() {
        for (int w = 1; w <= 6; w++) {
            for (int h = 1; h <= 6; h++) {
                for (int slip = 0; slip < 9; slip++) {
                    slippedOffThePaper(w, h, slip % 3 - 1, slip / 3 - 1);
                }
            }
        }
        int[] ends = {0, 5};
        for (int x : ends) {
            for (int y : ends) {
                for (int slip = 0; slip < 9; slip++) {
                    oneCellSlipped(x, y, slip % 3 - 1, slip / 3 - 1);
                }
            }
        }
    }

    private static void slippedOffThePaper(int w, int h, int dx, int dy) {
        SlippedBlocks b = told("d3;" + bare(w, h));
        for (int i = 0; i < w * h; i++) {
            b.carves(0, i % w, i / w);
        }
        b.slips(0, dx, dy);
        int printed = 0;
        for (int i = 0; i < w * h; i++) {
            int fromX = i % w - dx;
            int fromY = i / w - dy;
            boolean from = fromX >= 0 && fromY >= 0 && fromX < w && fromY < h;
            String what = w + " by " + h + " slipped " + dx + " " + dy + ", cell " + i % w + " " + i / w;
            due.is(what, b.cell(i % w, i / w, 1), from ? 3 : 0);
            printed += from ? 1 : 0;
        }
        due.is("wrong, " + w + " by " + h + " slipped " + dx + " " + dy, b.wrong(), printed);
        due.is("the block has its cells", b.ink(0, 3), w * h);
    }

    private static void oneCellSlipped(int cx, int cy, int dx, int dy) {
        SlippedBlocks b = told("c5;" + bare(6, 6));
        b.carves(0, cx, cy);
        b.slips(0, dx, dy);
        for (int y = 0; y < 6; y++) {
            for (int x = 0; x < 6; x++) {
                String what = "cell " + cx + " " + cy + " slipped " + dx + " " + dy + " at " + x + " " + y;
                due.is(what, b.cell(x, y, 1), x == cx + dx && y == cy + dy ? 5 : 0);
                due.is(what + ", of the block", b.cell(x, y, 2), x == cx && y == cy ? 1 : 0);
            }
        }
    }

    /** Promise 7: dx and dy of -1 and 1, one less and one more, the slip it has already. */
    private static void slipsOfEachStep() {
        for (int dx = -2; dx <= 2; dx++) {
            for (int dy = -2; dy <= 2; dy++) {
                SlippedBlocks b = told("c1;c2;r0;");
                String slip = "slips(1, " + dx + ", " + dy + ")";
                boolean bad = Math.abs(dx) == 2 || Math.abs(dy) == 2;
                boolean none = dx == 0 && dy == 0;
                due.is(slip, b.slips(1, dx, dy), bad ? BAD : none ? STATE : 1);
                due.is(slip + " dx", b.ink(1, 4), bad ? 0 : dx);
                due.is(slip + " dy", b.ink(1, 5), bad ? 0 : dy);
                due.is(slip + " again", b.slips(1, dx, dy), bad ? BAD : STATE);
                due.is(slip + ", slipped blocks", b.count(5), bad || none ? 0 : 1);
                due.is(slip + ", done", b.count(8), bad || none ? 1 : 2);
                due.is(slip + ", the other block", 10 * b.ink(0, 4) + b.ink(0, 5), 0);
                due.is("no slip again", b.slips(1, 0, 0), bad || none ? STATE : 1);
            }
        }
    }

    /** "a text told (ORDER by numbers, BLOCKS empty, no SLIPS)", "THE TEXT tells all anew": as many inks, fewer, more. */
    private static void toldAnew() {
        String[] texts = {"c4;d5;r77;", "d6;r77;", "r77;", "c1;c2;c3;r77;"};
        int[] inks = {2, 1, 0, 3};
        for (int i = 0; i < texts.length; i++) {
            SlippedBlocks b = told("c1;d2;r12;r30;");
            b.swaps(0, 1);
            b.carves(0, 1, 1);
            b.carves(1, 0, 0);
            b.slips(0, 1, 1);
            b.slips(1, -1, 0);
            tell(b, texts[i]);
            due.is("inks, " + texts[i], b.count(2), inks[i]);
            due.is("H, " + texts[i], b.count(1), 1);
            due.is("blocks are empty, " + texts[i], b.count(4), 0);
            due.is("no slips, " + texts[i], b.count(5), 0);
            due.is("the proof is bare, " + texts[i], b.cell(0, 0, 1) + b.cell(1, 0, 1), 0);
            due.is("the ink after the last, " + texts[i], b.ink(inks[i], 0), NO);
            for (int ink = 0; ink < inks[i]; ink++) {
                due.is("order by numbers, " + texts[i], b.ink(ink, 2), ink);
                due.is("dx, " + texts[i], b.ink(ink, 4), 0);
                due.is("dy, " + texts[i], b.ink(ink, 5), 0);
                due.is("no cells, " + texts[i], b.ink(ink, 3), 0);
            }
        }
    }

    /** Nothing of a text that was told, or that had a fault, is left in the next one. */
    private static void toldSmaller() {
        String[] ends = {"", "x"};
        for (String end : ends) {
            SlippedBlocks b = new SlippedBlocks();
            type(b, "d7;d6;d5;d4;d3;d2;" + "r777777;".repeat(6) + end);
            due.is("the greatest text", b.tells(), end.isEmpty() ? 12 : -76);
            b.clear();
            tell(b, "c1;c2;r010;r002;");
            due.is("W", b.count(0), 3);
            due.is("H", b.count(1), 2);
            due.is("inks", b.count(2), 2);
            due.is("colours", b.count(3), 0b111);
            due.is("wrong", b.wrong(), 2);
            due.is("ink 0 is clear", b.ink(0, 1), 0);
            due.is("ink 1 is clear", b.ink(1, 1), 0);
            due.is("no seventh", b.made(4), BAD);
            due.is("no column more", b.cell(3, 0, 0), BAD);
            due.is("no row more", b.cell(0, 2, 0), BAD);
            due.is("cuts", b.cuts(), 2);
            due.is("nothing is wrong", b.wrong(), 0);
            due.is("cells", b.count(4), 2);
        }
    }

    /** "each CELL is of the BLOCKS of just those INKS": what was carved is gone; "all SLIPS are 0, 0". */
    private static void cutKeepsNothing() {
        SlippedBlocks b = told("c1;c2;d7;r0120;r3330;");
        for (int ink = 0; ink < 3; ink++) {
            for (int x = 0; x < 4; x++) {
                b.carves(ink, x, 0);
            }
            b.slips(ink, 1 - ink, 1);
        }
        due.is("cuts()", b.cuts(), 2);
        int[] sets = {0, 1, 2, 0, 3, 3, 3, 0};
        for (int i = 0; i < 8; i++) {
            due.is("just those inks, " + i, b.cell(i % 4, i / 4, 2), sets[i]);
        }
        due.is("no slips", b.count(5), 0);
        due.is("nothing is wrong", b.wrong(), 0);
        due.is("cut again", b.cuts(), 2);
        due.is("it is done again", b.count(8), 6);
        SlippedBlocks bits = told("d3;c1;c2;c4;r1;r2;r7;");
        due.is("all three clear ones", bits.cuts(), 3);
        due.is("of 3 by 1 and 2, or by the dense", bits.least(1), 14);
        SlippedBlocks several = told("c1;c3;c2;r1;r3;r2;");
        due.is("two do", several.least(1), 5);
        due.is("cut", several.cuts(), 2);
        due.is("3 of least alone, not by ink 1", several.cell(0, 1, 2), 5);
        SlippedBlocks least = told("c1;d1;d3;r1;r3;");
        least.cuts();
        due.is("least as bits: ink 0, not ink 1", least.cell(0, 0, 2), 1);
        due.is("the dense alone, not with what it covers", least.cell(0, 1, 2), 4);
        SlippedBlocks tie = told("c3;c1;c5;c6;r7;r1;r3;r5;");
        due.is("tie", tie.least(1), 7);
        tie.cuts();
        due.is("7: inks 0 and 2, though 0, 1 and 2 do", tie.cell(0, 0, 2), 5);
        due.is("3: ink 0, though 0 and 1 do", tie.cell(0, 2, 2), 1);
    }

    /** Promises 5 and 13: no LEAST, with no inks, with inks that can't, with inks that can in another order alone. */
    private static void noLeast() {
        String[] texts = {"r1;", "r0;r7;", "c1;r2;", "c1;c2;r34;", "c1;d2;r3;", "c1;c2;c1;c2;c1;c2;r4;"};
        for (String text : texts) {
            SlippedBlocks b = told(text);
            due.is("how many, " + text, b.least(0), NONE);
            due.is("which, " + text, b.least(1), NONE);
            due.is("cuts(), " + text, b.cuts(), STATE);
            due.is("not done, " + text, b.count(8), 1);
            due.is("blocks, " + text, b.count(4), 0);
        }
        SlippedBlocks other = told("c1;d2;r3;");
        other.swaps(0, 1);
        due.is("in the other order", other.least(0), 2);
        due.is("cuts() in the other order", other.cuts(), 2);
        SlippedBlocks bare = told("c1;c2;" + bare(6, 6));
        due.is("a bare picture", bare.least(0), 0);
        due.is("a bare picture, no inks", bare.least(1), 0);
        due.is("cuts() of a bare picture", bare.cuts(), 0);
        due.is("which is done", bare.count(8), 2);
    }

    /** LEAST may be the empty set, one ink (the first, the last) or all six. */
    private static void leastOfAllInks() {
        leastIs("c7;c1;c2;c3;c4;c5;r07;", 1, 1);
        leastIs("c1;c2;c3;c4;c5;c7;r07;", 1, 32);
        leastIs("d1;d2;d3;d4;d5;d6;r123456;", 6, 63);
        leastIs("d1;d2;d3;d4;d5;d6;r012345;", 5, 31);
        leastIs("d1;d2;d3;d4;d5;d6;r234560;", 5, 62);
        leastIs("d1;d2;d3;d4;d5;d6;r123456;r777777;", NONE, NONE);
        leastIs("c1;c2;c1;c2;c1;c2;r3;", 2, 3);
        leastIs("c1;c1;c1;c1;c2;c2;r3;", 2, 17);
        leastIs("c1;c2;c4;d7;r7;", 1, 8);
        leastIs("c1;c2;c4;c3;r7;", 2, 12);
        leastIs("c1;c6;c2;c5;r7;", 2, 3);
        leastIs("c1;c2;c6;c5;c3;r7;", 2, 5);
    }

    private static void leastIs(String text, int many, int set) {
        SlippedBlocks b = told(text);
        due.is("how many, " + text, b.least(0), many);
        due.is("which, " + text, b.least(1), set);
        due.is("cuts(), " + text, b.cuts(), many == NONE ? STATE : many);
        if (many != NONE) {
            due.is("nothing is wrong, " + text, b.wrong(), 0);
        }
    }

    /** "CARVED: a CELL is of a BLOCK, or not any more." */
    private static void carvesThereAndBack() {
        SlippedBlocks b = told("c1;c2;" + bare(6, 6));
        int[] ends = {0, 5};
        for (int ink = 0; ink < 2; ink++) {
            for (int x : ends) {
                for (int y : ends) {
                    due.is("of it", b.carves(ink, x, y), 1);
                    due.is("not any more", b.carves(ink, x, y), 0);
                    due.is("bits", b.cell(x, y, 2), ink == 0 ? 0 : 1);
                    due.is("of it again", b.carves(ink, x, y), 1);
                    due.is("bits again", b.cell(x, y, 2), ink == 0 ? 1 : 3);
                }
            }
        }
        due.is("cells", b.count(4), 8);
        due.is("a cut cell is not any more of it", cutOne().carves(0, 0, 0), 0);
    }

    private static SlippedBlocks cutOne() {
        SlippedBlocks b = told("c1;r1;");
        b.cuts();
        return b;
    }

    /** Promise 8: the first and the last of six inks, an ink with itself, one less and one more. */
    private static void exchangedFirstAndLast() {
        SlippedBlocks b = told("d1;d2;d3;d4;d5;d6;r1;");
        b.carves(0, 0, 0);
        b.carves(5, 0, 0);
        due.is("5 covers 0", b.wrong(), 1);
        due.is("0 and 5", b.swaps(0, 5), 0);
        int[] places = {5, 1, 2, 3, 4, 0};
        for (int ink = 0; ink < 6; ink++) {
            due.is("place of " + ink, b.ink(ink, 2), places[ink]);
            due.is(ink + " with itself", b.swaps(ink, ink), BAD);
            due.is(ink + " with one more", b.swaps(ink, 6), BAD);
            due.is(ink + " with one less", b.swaps(-1, ink), BAD);
        }
        due.is("5 and 0 again", b.swaps(5, 0), 1);
        due.is("place of 0", b.ink(0, 2), 0);
        due.is("done: told, carved twice, exchanged twice", b.count(8), 5);
        SlippedBlocks one = told("c1;r0;");
        due.is("one ink has none to exchange with", one.swaps(0, 1), BAD);
        due.is("one ink with itself", one.swaps(0, 0), BAD);
    }

    /** "two INKS take each other's place in ORDER": whichever is named first, and the others stay. */
    private static void exchangedEachPair() {
        for (int ink = 0; ink < 6; ink++) {
            for (int other = 0; other < 6; other++) {
                SlippedBlocks b = told("c1;c2;c3;c4;c5;c6;r0;");
                due.is("swaps(" + ink + ", " + other + ")", b.swaps(ink, other), ink == other ? BAD : 0);
                for (int each = 0; each < 6; each++) {
                    int place = each == ink ? other : each == other ? ink : each;
                    due.is("place of " + each + " by swaps(" + ink + ", " + other + ")", b.ink(each, 2), place);
                }
            }
        }
    }

    /** "(6 are known, older ones are lost)": after five, six, seven and eight things done. */
    private static void sixKnown() {
        for (int done = 0; done <= 8; done++) {
            SlippedBlocks b = new SlippedBlocks();
            for (int i = 0; i < done; i++) {
                tell(b, "r" + i % 8 + ";");
            }
            int known = Math.min(done, 6);
            due.is(done + " done", b.count(8), known);
            for (int i = 1; i <= known; i++) {
                due.is(done + " done, undone " + i, b.undo(), known - i);
                due.is(done + " done, left", b.count(8), known - i);
                int before = done - i;
                due.is(done + " done, colour", b.cell(0, 0, 0), before == 0 ? 0 : (before - 1) % 8);
            }
            due.is(done + " done, nothing to undo", b.undo(), STATE);
            due.is(done + " done, still nothing", b.undo(), STATE);
            due.is(done + " done, none left", b.count(8), 0);
        }
    }

    /** What is done behind what was undone takes its place, however often. */
    private static void undoneRoundTheRing() {
        SlippedBlocks b = told("c1;r0;");
        for (int round = 0; round < 20; round++) {
            int known = Math.min(6, b.count(8) + 3);
            int slip = b.ink(0, 4);
            b.slips(0, slip == 1 ? -1 : 1, 0);
            int first = b.ink(0, 4);
            b.carves(0, 0, 0);
            b.slips(0, 0, 1);
            due.is("round " + round, b.count(8), known);
            due.is("undone, round " + round, b.undo(), known - 1);
            due.is("dx, round " + round, b.ink(0, 4), first);
            due.is("of the block, round " + round, b.cell(0, 0, 2), 1);
            due.is("undone twice, round " + round, b.undo(), known - 2);
            due.is("not of the block, round " + round, b.cell(0, 0, 2), 0);
        }
    }

    /** "UNDONE: the latest tells(), cuts(), carves(), slips(), swaps()": all of part 1, of each of them. */
    private static void undoOfEachKind() {
        SlippedBlocks b = told("c1;d2;r13;r21;");
        b.carves(0, 1, 1);
        b.swaps(0, 1);
        b.slips(1, 0, -1);
        b.cuts();
        tell(b, "d7;r0;");
        String[] kinds = {"cut", "slipped", "exchanged", "carved", "told"};
        int[][] states = {{5, 0, 1}, {1, -1, 1}, {1, 0, 1}, {1, 0, 0}, {0, 0, 0}};
        for (int i = 0; i < kinds.length; i++) {
            due.is("more, back to " + kinds[i], b.undo(), 5 - i);
            due.is("cells, back to " + kinds[i], b.count(4), states[i][0]);
            due.is("dy, back to " + kinds[i], b.ink(1, 5), states[i][1]);
            due.is("place of 0, back to " + kinds[i], b.ink(0, 2), states[i][2]);
            due.is("W, back to " + kinds[i], b.count(0), 2);
            due.is("picture, back to " + kinds[i], b.cell(1, 0, 0), 3);
        }
        due.is("the first text is undone", b.undo(), 0);
        due.is("as at first, W", b.count(0), 1);
        due.is("as at first, H", b.count(1), 1);
        due.is("as at first, inks", b.count(2), 0);
        due.is("as at first, colour", b.cell(0, 0, 0), 0);
        due.is("as at first, no ink", b.ink(0, 0), NO);
        due.is("nothing more", b.undo(), STATE);
    }

    /** Promise 11: INKS 0 to 5, one less, one more; each number and one less and one more. */
    private static void sixthInk() {
        for (int inks = 0; inks <= 6; inks++) {
            SlippedBlocks b = told("c1;d2;c3;d4;c5;d6;".substring(0, 3 * inks) + "r0;");
            due.is("inks", b.count(2), inks);
            for (int ink = -1; ink <= 6; ink++) {
                boolean there = ink >= 0 && ink < inks;
                int[] all = {ink + 1, ink & 1, ink, 0, 0, 0};
                for (int what = -1; what <= 6; what++) {
                    boolean known = there && what >= 0 && what < 6;
                    due.is("ink(" + ink + ", " + what + ") of " + inks, b.ink(ink, what), known ? all[what] : NO);
                }
                due.is("hurt(" + ink + ") of " + inks, b.hurt(ink), there ? 0 : NO);
            }
        }
    }

    /** Promise 12: the empty set, the set of all INKS, one more, one less than none. */
    private static void emptySetAndAll() {
        int[] all = {1, 0b11, 0b1111, 0b1111, 0b11111111, 0b11111111, 0b11111111};
        for (int inks = 0; inks <= 6; inks++) {
            SlippedBlocks b = told("c1;c2;c3;c4;c5;c6;".substring(0, 3 * inks) + "r0;");
            due.is("empty, " + inks, b.made(0), 1);
            due.is("all of " + inks, b.made((1 << inks) - 1), all[inks]);
            due.is("one more than all of " + inks, b.made(1 << inks), BAD);
            due.is("one less than none, " + inks, b.made(-1), BAD);
            due.is("all and a seventh, " + inks, b.made(64 | (1 << inks) - 1), BAD);
        }
        SlippedBlocks dense = told("c1;c2;c4;c1;c2;d7;r0;");
        due.is("covered by the last", dense.made(63), 255);
        due.is("the last alone", dense.made(32), 0b10000001);
        SlippedBlocks one = told("d5;c2;r0;");
        due.is("in ORDER", one.made(3), 0b10100101);
        one.swaps(0, 1);
        due.is("in the other ORDER", one.made(3), 0b00100101);
    }

    /** Promise 14: i of -2, -1, the last INK, one more; whatever ORDER is. */
    private static void bestOrderEnds() {
        for (int inks = 0; inks <= 6; inks++) {
            SlippedBlocks b = told("c1;c1;c1;c1;c1;c1;".substring(0, 3 * inks) + (inks == 0 ? "r0;" : "r1;"));
            due.is("-2 of " + inks, b.order(-2), BAD);
            due.is("-1 of " + inks, b.order(-1), inks == 0 ? 0 : 1);
            for (int i = 0; i < inks; i++) {
                due.is(i + " of " + inks, b.order(i), i);
            }
            due.is("one more than " + inks, b.order(inks), NONE);
            due.is("the greatest int", b.order(Integer.MAX_VALUE), NONE);
            due.is("the least int", b.order(Integer.MIN_VALUE), BAD);
        }
        bestOrder("d4;d2;c1;d3;c2;c4;r7;", 2, 0, 1, 2, 3, 4, 5);
        bestOrder("c1;c2;c4;d1;d2;d4;r7;", 3, 0, 1, 2, 3, 4, 5);
        bestOrder("c1;d6;r7;", 2, 1, 0);
        bestOrder("c1;c2;c4;d3;d5;d6;r7;", 2, 0, 1, 3, 2, 4, 5);
        bestOrder("d1;d2;d3;d4;d5;d6;r123456;", 6, 0, 1, 2, 3, 4, 5);
        bestOrder("c1;c1;c1;c1;c1;d2;r3;", 2, 0, 1, 2, 3, 5, 4);
        bestOrder("c1;d2;d2;d2;d2;d2;r3;", 2, 1, 0, 2, 3, 4, 5);
    }

    private static void bestOrder(String text, int fewest, int... row) {
        SlippedBlocks b = told(text);
        b.swaps(0, 1);
        due.is("fewest, " + text, b.order(-1), fewest);
        for (int i = 0; i < row.length; i++) {
            due.is("place " + i + ", " + text, b.order(i), row[i]);
        }
        due.is("one more, " + text, b.order(row.length), NONE);
        due.is("ORDER is not changed, " + text, b.ink(0, 2), 1);
    }

    /** Promise 14: no BEST ORDER, with no inks and with some: BAD still for i below -1. */
    private static void noBestOrder() {
        for (String text : new String[] {"r1;", "c1;r2;", "d1;d2;r3;", "c1;c1;c1;c1;c1;c1;r2;"}) {
            SlippedBlocks b = told(text);
            for (int i = -1; i <= 7; i++) {
                due.is("order(" + i + "), " + text, b.order(i), NONE);
            }
            due.is("order(-2), " + text, b.order(-2), BAD);
        }
        SlippedBlocks first = new SlippedBlocks();
        due.is("at first", first.order(-1), 0);
        due.is("at first, no ink", first.order(0), NONE);
    }

    /** Promise 15: none, one, all of the cells. */
    private static void wrongAllAndNone() {
        SlippedBlocks b = told("d7;" + "r777777;".repeat(6));
        due.is("all", b.wrong(), 36);
        b.carves(0, 5, 5);
        due.is("all but the last", b.wrong(), 35);
        b.cuts();
        due.is("none", b.wrong(), 0);
        b.carves(0, 0, 0);
        due.is("the first", b.wrong(), 1);
        SlippedBlocks near = told("c1;c2;c4;r124;");
        near.cuts();
        near.carves(0, 2, 0);
        due.is("one primary too many", near.wrong(), 1);
        near.carves(2, 2, 0);
        due.is("another one alone", near.wrong(), 1);
        near.undo();
        near.undo();
        near.carves(1, 1, 0);
        due.is("one primary too few", near.wrong(), 1);
    }

    /** "were dx .. 1 more (or 0, where dx is 1)": from -1, 0 and 1, and dy stays, from -1, 0 and 1. */
    private static void hurtByEachStep() {
        for (int dx = -1; dx <= 1; dx++) {
            for (int dy = -1; dy <= 1; dy++) {
                SlippedBlocks b = told("c1;c2;r000;r000;r000;");
                b.carves(0, 1, 1);
                b.carves(1, 1, 1);
                b.slips(0, dx, dy);
                int then = dx == 1 ? 0 : dx + 1;
                int isWrong = dx == 0 && dy == 0 ? 1 : 2;
                int wouldBe = then == 0 && dy == 0 ? 1 : 2;
                due.is("hurt from " + dx + " " + dy, b.hurt(0), wouldBe - isWrong);
                due.is("dx stays", b.ink(0, 4), dx);
                due.is("dy stays", b.ink(0, 5), dy);
                due.is("wrong stays", b.wrong(), isWrong);
            }
        }
        SlippedBlocks narrow = told("c1;r1;");
        due.is("an empty block", narrow.hurt(0), 0);
        narrow.cuts();
        due.is("off the only column", narrow.hurt(0), 1);
        narrow.slips(0, 1, 0);
        due.is("back from it", narrow.hurt(0), -1);
        narrow.slips(0, -1, 0);
        due.is("back from the other side", narrow.hurt(0), -1);
        SlippedBlocks wide = told("d7;" + "r700000;".repeat(6));
        due.is("empty", wide.hurt(0), 0);
        wide.cuts();
        due.is("each cell to the next, none to the next row", wide.hurt(0), 12);
        wide.slips(0, -1, 0);
        due.is("all come back", wide.hurt(0), -6);
    }

    /** Promise 17: "(x, y 0 .. 5)", whatever the picture has; a COLOUR 0 .. 7. */
    private static void seenCorners() {
        for (int x = -1; x <= 6; x++) {
            for (int y = -1; y <= 6; y++) {
                SlippedBlocks b = new SlippedBlocks();
                boolean there = x >= 0 && y >= 0 && x <= 5 && y <= 5;
                due.is("sees(" + x + ", " + y + ", 0)", b.sees(x, y, 0), there ? 1 : BAD);
                due.is("how much", b.count(6), there ? 1 : 0);
                due.is("which", b.which(0), there && x + y > 0 ? 0 : 1);
            }
        }
        for (int colour = -1; colour <= 8; colour++) {
            SlippedBlocks b = new SlippedBlocks();
            boolean known = colour >= 0 && colour <= 7;
            due.is("sees(0, 0, " + colour + ")", b.sees(0, 0, colour), known ? 1 : BAD);
            due.is("which can be", b.which(0), known && colour > 0 ? 0 : 1);
        }
    }

    /** Promises 17 and 18: the sixth, the seventh, and from anew. */
    private static void sixSeen() {
        SlippedBlocks b = told("c1;" + bare(6, 6));
        for (int i = 1; i <= 6; i++) {
            due.is("sight " + i, b.sees(i - 1, 0, 0), i);
            due.is("count, sight " + i, b.count(6), i);
        }
        due.is("the seventh", b.sees(0, 1, 1), FULL);
        due.is("the seventh is not seen", b.which(0), 9);
        due.is("the seventh again", b.sees(0, 0, 0), FULL);
        due.is("BAD ahead of FULL", b.sees(6, 0, 0), BAD);
        due.is("forget()", b.forget(), 6);
        due.is("forget() again", b.forget(), 0);
        due.is("nothing seen", b.count(6), 0);
        due.is("the first again", b.sees(0, 0, 1), 1);
        due.is("by it none", b.which(0), 0);
        SlippedBlocks each = told("c1;" + bare(6, 1));
        for (int i = 0; i < 6; i++) {
            each.carves(0, i, 0);
        }
        for (int i = 0; i < 6; i++) {
            each.forget();
            for (int j = 0; j < 6; j++) {
                each.sees(j, 0, i == j ? 2 : 1);
            }
            due.is("sight " + i + " counts", each.which(0), 0);
        }
    }

    /** "(of a CELL that there is not: none)": and as the picture is when it is asked. */
    private static void cellThatThereIsNot() {
        SlippedBlocks b = told("c1;r0000;r0000;r0000;");
        int[][] beside = {{4, 0}, {0, 3}, {4, 3}, {5, 5}, {3, 3}, {4, 2}};
        for (int[] cell : beside) {
            b.forget();
            due.is("seen beside", b.sees(cell[0], cell[1], 0), 1);
            due.is("none", b.which(0), 0);
            due.is("no first", b.which(1), NOT);
            due.is("ask", b.ask(), NONE);
        }
        b.forget();
        b.sees(3, 2, 0);
        due.is("the last cell is there", b.which(0), 9);
        b.sees(4, 2, 0);
        due.is("one of two is not", b.which(0), 0);
        SlippedBlocks other = told("c1;r00;r00;");
        tell(other, "c1;r0;");
        other.sees(1, 1, 0);
        due.is("not in one cell", other.which(0), 0);
        due.is("the first is not", other.which(1), NOT);
        other.undo();
        due.is("the text undone, it is there", other.which(0), 9);
        due.is("the first is", other.which(1), -1);
    }

    /** Promise 19: -1 alone without inks; of six inks 49, the first and the last number. */
    private static void whichOfNoInkAndOfSix() {
        for (int inks = 0; inks <= 6; inks++) {
            SlippedBlocks b = told("c1;d2;c3;d4;c5;d6;".substring(0, 3 * inks) + "r000;r000;r000;");
            due.is("all, " + inks, b.which(0), 1 + 8 * inks);
            due.is("first, " + inks, b.which(1), -1);
            for (int what : new int[] {-1, 2, Integer.MIN_VALUE, Integer.MAX_VALUE}) {
                due.is("which(" + what + "), " + inks, b.which(what), NO);
            }
            b.sees(0, 0, 1);
            due.is("none, " + inks, b.which(0), 0);
            due.is("no first, " + inks, b.which(1), NOT);
        }
        for (int ink = 0; ink < 6; ink++) {
            for (int slip = 0; slip < 9; slip++) {
                SlippedBlocks b = told("c1;c2;c3;c4;c5;c6;r000;r000;r000;");
                b.carves(ink, 1, 1);
                b.sees(slip % 3, slip / 3, ink + 1);
                due.is("first, " + ink + " by " + slip, b.which(1), slip == 4 ? -1 : 9 * ink + slip);
                due.is("how many, " + ink + " by " + slip, b.which(0), slip == 4 ? 41 : 1);
            }
        }
    }

    /** "one BLOCK .. has another SLIP than it has, or none has": its own slip is none of them, 0, 0 may be. */
    private static void whichNotTheSlipItHas() {
        for (int has = 0; has < 9; has++) {
            for (int then = 0; then < 9; then++) {
                SlippedBlocks b = told("c1;r000;r000;r000;");
                b.carves(0, 1, 1);
                b.slips(0, has % 3 - 1, has / 3 - 1);
                b.sees(then % 3, then / 3, 1);
                due.is("one, " + has + " to " + then, b.which(0), 1);
                due.is("that one, " + has + " to " + then, b.which(1), has == then ? -1 : then);
            }
        }
    }

    /** Promise 20: two that can be, one, none. */
    private static void askOneTwoNone() {
        SlippedBlocks first = new SlippedBlocks();
        due.is("no inks, one can be", first.ask(), NONE);
        first.sees(0, 0, 1);
        due.is("no inks, none can be", first.ask(), NONE);
        SlippedBlocks b = told("c1;c2;r000;r000;r000;");
        b.carves(0, 0, 0);
        b.carves(1, 2, 2);
        b.sees(0, 0, 0);
        b.sees(0, 1, 0);
        due.is("seven can be", b.which(0), 7);
        due.is("ask of seven", b.ask(), 1);
        b.sees(1, 1, 0);
        due.is("six can be", b.which(0), 6);
        b.sees(1, 0, 1);
        due.is("one can be", b.which(0), 1);
        due.is("that one", b.which(1), 5);
        due.is("ask of one", b.ask(), NONE);
        b.sees(1, 0, 0);
        due.is("none can be", b.which(0), 0);
        due.is("ask of none", b.ask(), NONE);
        SlippedBlocks two = told("c1;r00;");
        two.carves(0, 0, 0);
        two.carves(0, 1, 0);
        two.sees(0, 0, 1);
        due.is("two can be", two.which(0), 2);
        due.is("the first of two", two.which(1), -1);
        due.is("the cell that tells two apart", two.ask(), 1);
        two.sees(1, 0, 0);
        due.is("the other one is left", two.which(1), 3);
        due.is("it alone", two.which(0), 1);
        due.is("no more to ask", two.ask(), NONE);
    }

    /** "of several the least", and the last cell of the greatest picture is 35. */
    private static void askFirstAndLastCell() {
        SlippedBlocks same = told("c1;" + bare(6, 6));
        due.is("none tells them apart: the first", same.ask(), 0);
        SlippedBlocks last = told("c1;d2;" + bare(6, 6));
        last.carves(0, 5, 5);
        last.slips(0, 1, 1);
        due.is("only one slip of one ink shows there", last.which(0), 17);
        last.sees(4, 4, 0);
        last.sees(5, 4, 0);
        last.sees(4, 5, 0);
        due.is("14 are left", last.which(0), 14);
        due.is("the last cell", last.ask(), 35);
        SlippedBlocks column = told("c1;" + bare(1, 6));
        column.carves(0, 0, 5);
        column.slips(0, 1, 0);
        column.sees(0, 4, 0);
        due.is("the last of one column", column.ask(), 30);
        SlippedBlocks row = told("c1;" + bare(6, 1));
        row.carves(0, 5, 0);
        row.slips(0, 0, 1);
        row.sees(4, 0, 0);
        due.is("the last of one row", row.ask(), 5);
        SlippedBlocks one = told("c1;r0;");
        due.is("the only cell", one.ask(), 0);
    }

    /** "as it is when it is asked": what was asked before does not count. */
    private static void askedAgain() {
        SlippedBlocks b = told("c1;" + bare(6, 1));
        b.carves(0, 5, 0);
        for (int i = 0; i < 9; i++) {
            due.is("asked " + i, b.ask(), 4);
            due.is("how many " + i, b.which(0), 9);
        }
        b.carves(0, 5, 0);
        due.is("an empty block", b.ask(), 0);
        b.carves(0, 2, 0);
        b.slips(0, 0, 1);
        due.is("another block", b.ask(), 1);
        b.sees(1, 0, 0);
        due.is("less can be", b.ask(), 2);
        due.is("order asked", b.order(-1), 0);
        tell(b, "c1;d2;r03;");
        due.is("order asked of another picture", b.order(-1), 2);
        due.is("order of another picture", b.order(0), 1);
        due.is("undone", b.undo(), 5);
        due.is("order asked of the first one again", b.order(-1), 0);
        due.is("its ink", b.order(0), 0);
        due.is("it has but one", b.order(1), NONE);
    }

    /** "IMAGES 0, 1 keep all that 1 tells but THE TEXT; nothing else". */
    private static void imagesKeepNothingElse() {
        for (int image = -1; image <= 2; image++) {
            boolean known = image == 0 || image == 1;
            SlippedBlocks b = told("c1;d2;r12;");
            b.swaps(0, 1);
            b.carves(0, 1, 0);
            b.slips(1, -1, 1);
            type(b, "abc");
            b.sees(0, 0, 0);
            due.is("keep(" + image + ")", b.keep(image), known ? 2 : BAD);
            due.is("nothing is done by keep(" + image + ")", b.count(8), 4);
            b.forget();
            b.type('d');
            b.slips(1, 1, 1);
            b.cuts();
            b.sees(1, 0, 3);
            b.sees(1, 0, 3);
            due.is("back(" + image + ")", b.back(image), known ? 2 : BAD);
            due.is("back(), the other", b.back(1 - image), known ? STATE : BAD);
            due.is("the text is as it was", b.count(7), 4);
            due.is("seen is as it was", b.count(6), 2);
            due.is("cells", b.count(4), known ? 1 : 2);
            due.is("dx", b.ink(1, 4), known ? -1 : 0);
            due.is("dy", b.ink(1, 5), known ? 1 : 0);
            due.is("place", b.ink(0, 2), 1);
            due.is("what may be undone", b.count(8), known ? 0 : 6);
        }
        SlippedBlocks both = told("c1;r00;");
        both.keep(0);
        both.carves(0, 0, 0);
        both.keep(1);
        both.carves(0, 1, 0);
        due.is("image 0", both.back(0), 1);
        due.is("as in image 0", both.count(4), 0);
        due.is("image 1", both.back(1), 1);
        due.is("as in image 1", both.count(4), 1);
        due.is("image 0 again", both.back(0), 1);
        due.is("as in image 0 again", both.count(4), 0);
        SlippedBlocks first = new SlippedBlocks();
        due.is("keep at first: no inks", first.keep(1), 0);
        first.cuts();
        due.is("back to it", first.back(1), 0);
        due.is("its cut is not undone", first.undo(), STATE);
    }

    /** "(A text told: what was SEEN, IMAGES are gone.)": not by a fault, and not to be had again by undo(). */
    private static void imagesGone() {
        SlippedBlocks b = told("c1;r00;");
        b.keep(0);
        b.keep(1);
        b.sees(0, 0, 0);
        type(b, "r1");
        due.is("a fault", b.tells(), -12);
        due.is("seen is not gone", b.count(6), 1);
        due.is("image 0 is not gone", b.back(0), 1);
        due.is("image 1 is not gone", b.back(1), 1);
        b.type(';');
        due.is("told", b.tells(), 1);
        due.is("seen is gone", b.count(6), 0);
        due.is("nothing to forget", b.forget(), 0);
        due.is("image 0 is gone", b.back(0), STATE);
        due.is("image 1 is gone", b.back(1), STATE);
        due.is("the text undone", b.undo(), 0);
        due.is("seen does not come back", b.count(6), 0);
        due.is("image 0 does not come back", b.back(0), STATE);
        due.is("image 1 does not come back", b.back(1), STATE);
        due.is("kept anew", b.keep(1), 1);
        due.is("image 0 still not", b.back(0), STATE);
        due.is("image 1 is there", b.back(1), 1);
    }

    /** "(nothing can be UNDONE behind back())": what is done then can be, six at most again. */
    private static void nothingUndoneBehindBack() {
        SlippedBlocks b = told("c1;r000;");
        b.keep(0);
        for (int i = 0; i < 7; i++) {
            b.carves(0, i % 3, 0);
        }
        due.is("six ahead of it", b.count(8), 6);
        due.is("back", b.back(0), 1);
        due.is("none behind it", b.count(8), 0);
        due.is("nothing to undo", b.undo(), STATE);
        due.is("the image stands", b.count(4), 0);
        for (int i = 1; i <= 7; i++) {
            b.carves(0, 1, 0);
            due.is("done behind it", b.count(8), Math.min(i, 6));
        }
        for (int i = 5; i >= 0; i--) {
            due.is("undone behind it", b.undo(), i);
        }
        due.is("no more", b.undo(), STATE);
        due.is("the second carving is the oldest known", b.cell(1, 0, 2), 1);
    }

    /** Promise 23: each number at its least and its most, one less, one more. */
    private static void countsLeastAndMost() {
        int[] least = {BAD, 1, 1, 0, 1, 0, 0, 0, 0, 0, BAD};
        counts("at first", new SlippedBlocks(), least);
        SlippedBlocks b = told("c1;c2;c3;c4;c5;c6;r012345;r670123;" + bare(6, 4));
        for (int i = 0; i < 36; i++) {
            b.carves(0, i % 6, i / 6);
            b.carves(5, i % 6, i / 6);
        }
        for (int ink = 0; ink < 6; ink++) {
            b.slips(ink, ink % 2, 1 - ink % 2);
            b.sees(ink, ink, ink);
        }
        type(b, " ".repeat(100));
        b.type(' ');
        b.sees(0, 0, 0);
        int[] most = {BAD, 6, 6, 6, 255, 72, 6, 6, 100, 6, BAD};
        counts("at most", b, most);
        for (int colour = 0; colour <= 7; colour++) {
            due.is("one colour alone", told("r" + colour + ";").count(3), 1 << colour);
        }
    }

    private static void counts(String when, SlippedBlocks b, int[] answers) {
        for (int what = -1; what <= 9; what++) {
            due.is("count(" + what + ") " + when, b.count(what), answers[what + 1]);
        }
    }
}
