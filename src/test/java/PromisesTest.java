/** One test or more for each promise of the document, with answers worked out by hand from its words. */
public final class PromisesTest {
    private static final int BAD = -1, STATE = -2, FULL = -3, NONE = -9, NO = -1000000, NOT = -2000000;
    private static final int[] FAR = {Integer.MIN_VALUE, Integer.MAX_VALUE, -1000, 1000};
    private static final Due due = new Due();

    public static void main(String[] args) {
        constants();
        p1NewObject();
        p2Type();
        p3Clear();
        p4TellsItems();
        p4TellsFaults();
        p4TellsTakesAllAnew();
        p5Cuts();
        p5CutsChoosesLeastSets();
        p6Carves();
        p7Slips();
        p8Swaps();
        p9Undo();
        p9UndoEachKind();
        p9RefusedIsNotUndone();
        p10Cell();
        p10ProofsInOrder();
        p10ProofsSlipped();
        p11Ink();
        p12Made();
        p13Least();
        p14Order();
        p15Wrong();
        p16Hurt();
        p17Sees();
        p18Forget();
        p19Which();
        p19WhichAsItIsWhenAsked();
        p20Ask();
        p21Keep();
        p22Back();
        p23Count();
        due.end();
    }

    private static void type(SlippedBlocks b, String text) {
        for (int i = 0; i < text.length(); i++) {
            b.type(text.charAt(i));
        }
    }

    private static SlippedBlocks told(String text) {
        SlippedBlocks b = new SlippedBlocks();
        type(b, text);
        due.holds("the text is told: " + text, b.tells() > 0);
        return b;
    }

    private static void fault(String text, int place) {
        SlippedBlocks b = new SlippedBlocks();
        type(b, text);
        due.is("tells of '" + text + "'", b.tells(), -10 - place);
        due.is("text stays: '" + text + "'", b.count(7), text.length());
        due.is("nothing to undo: '" + text + "'", b.count(8), 0);
        due.is("no inks: '" + text + "'", b.count(2), 0);
        due.is("W: '" + text + "'", b.count(0), 1);
    }

    private static void items(String text, int many, int w, int h, int inks) {
        SlippedBlocks b = new SlippedBlocks();
        type(b, text);
        due.is("tells of '" + text + "'", b.tells(), many);
        due.is("W of '" + text + "'", b.count(0), w);
        due.is("H of '" + text + "'", b.count(1), h);
        due.is("INKS of '" + text + "'", b.count(2), inks);
        due.is("text is empty: '" + text + "'", b.count(7), 0);
    }

    private static void constants() {
        due.is("BAD", SlippedBlocks.BAD, BAD);
        due.is("STATE", SlippedBlocks.STATE, STATE);
        due.is("FULL", SlippedBlocks.FULL, FULL);
        due.is("NONE", SlippedBlocks.NONE, NONE);
        due.is("NO", SlippedBlocks.NO, NO);
        due.is("NOT", SlippedBlocks.NOT, NOT);
    }

    private static void p1NewObject() {
        SlippedBlocks b = new SlippedBlocks();
        int[] counts = {1, 1, 0, 1, 0, 0, 0, 0, 0};
        for (int what = 0; what < counts.length; what++) {
            due.is("1: count " + what, b.count(what), counts[what]);
        }
        due.is("1: colour", b.cell(0, 0, 0), 0);
        due.is("1: proof", b.cell(0, 0, 1), 0);
        due.is("1: blocks", b.cell(0, 0, 2), 0);
        due.is("1: no cell beside", b.cell(1, 0, 0), BAD);
        due.is("1: no ink", b.ink(0, 0), NO);
        due.is("1: hurt", b.hurt(0), NO);
        due.is("1: made", b.made(0), 1);
        due.is("1: made, no such ink", b.made(1), BAD);
        due.is("1: least", b.least(0), 0);
        due.is("1: least set", b.least(1), 0);
        due.is("1: order", b.order(-1), 0);
        due.is("1: order has no ink", b.order(0), NONE);
        due.is("1: wrong", b.wrong(), 0);
        due.is("1: which", b.which(0), 1);
        due.is("1: first", b.which(1), -1);
        due.is("1: ask", b.ask(), NONE);
        due.is("1: undo", b.undo(), STATE);
        due.is("1: image 0", b.back(0), STATE);
        due.is("1: image 1", b.back(1), STATE);
        due.is("1: cuts", b.cuts(), 0);
        due.is("1: cuts is done", b.count(8), 1);
        due.is("1: carves", b.carves(0, 0, 0), BAD);
        due.is("1: slips", b.slips(0, 1, 0), BAD);
        due.is("1: swaps", b.swaps(0, 1), BAD);
    }

    private static void p2Type() {
        SlippedBlocks b = new SlippedBlocks();
        due.is("2: below", b.type(-1), BAD);
        due.is("2: above", b.type(256), BAD);
        for (int far : FAR) {
            due.is("2: far", b.type(far), BAD);
        }
        due.is("2: lowest", b.type(0), 1);
        due.is("2: highest", b.type(255), 2);
        for (int i = 3; i <= 100; i++) {
            due.is("2: letter " + i, b.type(' '), i);
        }
        due.is("2: the 101st", b.type(' '), FULL);
        due.is("2: BAD ahead of FULL", b.type(256), BAD);
        due.is("2: refused changes nothing", b.count(7), 100);
        due.is("2: tells looks at the first", b.tells(), -10);
    }

    private static void p3Clear() {
        SlippedBlocks b = new SlippedBlocks();
        due.is("3: nothing", b.clear(), 0);
        type(b, "r1;");
        due.is("3: three", b.clear(), 3);
        due.is("3: empty then", b.count(7), 0);
        due.is("3: again", b.clear(), 0);
        due.is("3: from anew", b.type('r'), 1);
        b.clear();
        type(b, "r77;");
        due.is("3: the old text is gone", b.tells(), 1);
        due.is("3: what was told stays", b.clear(), 0);
        due.is("3: W", b.count(0), 2);
        due.is("3: not undone", b.count(8), 1);
    }

    private static void p4TellsItems() {
        items("r0;", 1, 1, 1, 0);
        items("r012345;", 1, 6, 1, 0);
        items("r0;r1;r2;r3;r4;r5;", 6, 1, 6, 0);
        items("c1;r01;d7;r10;", 4, 2, 2, 2);
        items("  r  0 1 ;  c 1  ; ", 2, 2, 1, 1);
        items("c1;c2;c3;d4;d5;d6;r000000;r000000;r000000;r000000;r000000;r000000;", 12, 6, 6, 6);
        SlippedBlocks b = told("c1;r01;d7;r65;c7;");
        due.is("4: ink 0", b.ink(0, 0), 1);
        due.is("4: ink 0 is clear", b.ink(0, 1), 0);
        due.is("4: ink 1", b.ink(1, 0), 7);
        due.is("4: ink 1 is dense", b.ink(1, 1), 1);
        due.is("4: ink 2", b.ink(2, 0), 7);
        due.is("4: ink 2 is clear", b.ink(2, 1), 0);
        due.is("4: cell 0 0", b.cell(0, 0, 0), 0);
        due.is("4: cell 1 0", b.cell(1, 0, 0), 1);
        due.is("4: cell 0 1", b.cell(0, 1, 0), 6);
        due.is("4: cell 1 1", b.cell(1, 1, 0), 5);
    }

    private static void p4TellsFaults() {
        fault("", 0);
        fault("   ", 3);
        fault("c1;", 3);
        fault("c1;  ", 5);
        fault("c", 1);
        fault("c1", 2);
        fault("r", 1);
        fault("r0", 2);
        fault("r0;c", 4);
        fault("r0;c1", 5);
        fault("r0;c1  ", 7);
        fault(";", 0);
        fault("0", 0);
        fault("7", 0);
        fault(" ;", 1);
        fault("c;r0;", 1);
        fault("c0;r0;", 1);
        fault("c8;r0;", 1);
        fault("c9;r0;", 1);
        fault("c12;r0;", 2);
        fault("cc1;r0;", 1);
        fault("cr0;", 1);
        fault("d1 d2;", 3);
        fault("r;", 1);
        fault("r8;", 1);
        fault("r09;", 2);
        fault("r0c1;", 2);
        fault("r0r0;", 2);
        fault("r0000000;", 7);
        fault("r00;r0;", 6);
        fault("r00;r000;", 7);
        fault("r00;r;", 5);
        fault("r0;;", 3);
        fault("r0;x", 3);
        fault("r0;C1;", 3);
        fault("R0;", 0);
        fault("r0;\t", 3);
        fault("r0;" + (char) 0, 3);
        fault("r0;" + (char) 255, 3);
        fault("r0;" + (char) 160, 3);
        fault("c1;c1;c1;c1;c1;c1;c1;r0;", 18);
        fault("c1;c1;c1;c1;c1;c1;d1;r0;", 18);
        fault("r0;r0;r0;r0;r0;r0;r0;", 18);
        fault("r0;r0;r0;r0;r0;r0; r", 19);
        fault("r1 2 3; r4 5 ; r6", 13);
    }

    private static void p4TellsTakesAllAnew() {
        SlippedBlocks b = told("c1;d2;r12;");
        b.swaps(0, 1);
        b.carves(0, 0, 0);
        b.slips(0, 1, 1);
        b.sees(0, 0, 1);
        b.keep(0);
        type(b, "r1;c2;d1;x");
        due.is("4: fault", b.tells(), -19);
        due.is("4: picture stays", b.count(0), 2);
        due.is("4: block stays", b.count(4), 1);
        due.is("4: seen stays", b.count(6), 1);
        due.is("4: undone stays", b.count(8), 4);
        due.is("4: image stays", b.keep(1), 2);
        b.clear();
        type(b, "r1;c2;d1;");
        due.is("4: told again", b.tells(), 3);
        due.is("4: order by numbers", b.ink(0, 2), 0);
        due.is("4: block empty", b.count(4), 0);
        due.is("4: no slip", b.count(5), 0);
        due.is("4: dx", b.ink(0, 4), 0);
        due.is("4: dy", b.ink(0, 5), 0);
        due.is("4: nothing seen", b.count(6), 0);
        due.is("4: image 0 is gone", b.back(0), STATE);
        due.is("4: image 1 is gone", b.back(1), STATE);
        due.is("4: may be undone", b.count(8), 5);
        due.is("4: undone", b.undo(), 4);
        due.is("4: order as it was", b.ink(0, 2), 1);
        due.is("4: slip as it was", b.ink(0, 5), 1);
        due.is("4: block as it was", b.cell(0, 0, 2), 1);
        due.is("4: W as it was", b.count(0), 2);
        due.is("4: seen is not brought back", b.count(6), 0);
        due.is("4: images are not brought back", b.back(0), STATE);
        due.is("4: the text is not brought back", b.count(7), 0);
    }

    private static void p5Cuts() {
        SlippedBlocks b = told("c1;c2;c4;r0123;");
        b.slips(2, 1, 1);
        b.carves(2, 0, 0);
        due.is("5: two inks do", b.cuts(), 2);
        int[] sets = {0, 1, 2, 3};
        for (int x = 0; x < 4; x++) {
            due.is("5: blocks of " + x, b.cell(x, 0, 2), sets[x]);
            due.is("5: proof of " + x, b.cell(x, 0, 1), x);
        }
        due.is("5: no slips", b.count(5), 0);
        due.is("5: the spare block is empty", b.ink(2, 3), 0);
        due.is("5: nothing is wrong", b.wrong(), 0);
        SlippedBlocks none = told("c1;r2;");
        due.is("5: no least", none.cuts(), STATE);
        due.is("5: refused is not done", none.count(8), 1);
        SlippedBlocks bare = told("c1;d2;r00;");
        bare.carves(0, 0, 0);
        due.is("5: bare paper needs none", bare.cuts(), 0);
        due.is("5: all blocks empty", bare.count(4), 0);
    }

    private static void p5CutsChoosesLeastSets() {
        SlippedBlocks covered = told("c1;d2;r21;");
        due.is("5: both", covered.cuts(), 2);
        due.is("5: the dense one alone is enough", covered.cell(0, 0, 2), 2);
        SlippedBlocks several = told("c3;c1;c2;r3;r1;r2;");
        due.is("5: two of the three can't be spared", several.cuts(), 2);
        due.is("5: least set is 1 and 2", several.least(1), 6);
        due.is("5: from least alone", several.cell(0, 0, 2), 6);
        SlippedBlocks fewerBits = told("c1;c2;d3;c4;r3;r5;r6;");
        due.is("5: three clear ones", fewerBits.cuts(), 3);
        due.is("5: by bits, not by how many", fewerBits.least(1), 11);
        due.is("5: 3 is 1 and 2", fewerBits.cell(0, 0, 2), 3);
        SlippedBlocks byBits = told("d3;c1;c2;d4;c4;r34;r31;r32;");
        due.is("5: least as bits", byBits.least(1), 14);
        due.is("5: cut", byBits.cuts(), 3);
        due.is("5: 4 by the dense", byBits.cell(1, 0, 2), 8);
    }

    private static void p6Carves() {
        SlippedBlocks b = told("c1;d2;r00;r00;r00;");
        due.is("6: carved", b.carves(1, 1, 2), 1);
        due.is("6: of the block", b.cell(1, 2, 2), 2);
        due.is("6: proof", b.cell(1, 2, 1), 2);
        due.is("6: another block", b.carves(0, 1, 2), 1);
        due.is("6: of both", b.cell(1, 2, 2), 3);
        due.is("6: not any more", b.carves(1, 1, 2), 0);
        due.is("6: of one", b.cell(1, 2, 2), 1);
        due.is("6: three were done", b.count(8), 4);
        due.is("6: ink above", b.carves(2, 0, 0), BAD);
        due.is("6: ink below", b.carves(-1, 0, 0), BAD);
        due.is("6: x above", b.carves(0, 2, 0), BAD);
        due.is("6: x below", b.carves(0, -1, 0), BAD);
        due.is("6: y above", b.carves(0, 0, 3), BAD);
        due.is("6: y below", b.carves(0, 0, -1), BAD);
        for (int far : FAR) {
            due.is("6: far ink", b.carves(far, 0, 0), BAD);
            due.is("6: far x", b.carves(0, far, 0), BAD);
            due.is("6: far y", b.carves(0, 0, far), BAD);
        }
        due.is("6: BAD is not done", b.count(8), 4);
        due.is("6: a slipped block keeps its cells", b.slips(0, 1, 0), 1);
        due.is("6: carved by its own cells", b.carves(0, 1, 2), 0);
        due.is("6: nothing left", b.count(4), 0);
    }

    private static void p7Slips() {
        SlippedBlocks b = told("c1;c2;r0;");
        due.is("7: has it", b.slips(0, 0, 0), STATE);
        for (int dy = -1; dy <= 1; dy++) {
            for (int dx = -1; dx <= 1; dx++) {
                due.is("7: slipped", b.slips(1, dx, dy), 1);
                due.is("7: dx", b.ink(1, 4), dx);
                due.is("7: dy", b.ink(1, 5), dy);
                due.is("7: again", b.slips(1, dx, dy), STATE);
            }
        }
        due.is("7: the other has none", b.ink(0, 4), 0);
        due.is("7: dx above", b.slips(0, 2, 0), BAD);
        due.is("7: dx below", b.slips(0, -2, 0), BAD);
        due.is("7: dy above", b.slips(0, 0, 2), BAD);
        due.is("7: dy below", b.slips(0, 0, -2), BAD);
        due.is("7: ink above", b.slips(2, 0, 1), BAD);
        due.is("7: ink below", b.slips(-1, 0, 1), BAD);
        for (int far : FAR) {
            due.is("7: far ink", b.slips(far, 0, 1), BAD);
            due.is("7: far dx", b.slips(0, far, 1), BAD);
            due.is("7: far dy", b.slips(0, 1, far), BAD);
        }
    }

    private static void p8Swaps() {
        SlippedBlocks b = told("d1;d2;c4;r1;");
        b.carves(0, 0, 0);
        b.carves(1, 0, 0);
        due.is("8: wrong ahead", b.wrong(), 1);
        due.is("8: right then", b.swaps(0, 1), 0);
        due.is("8: place of 0", b.ink(0, 2), 1);
        due.is("8: place of 1", b.ink(1, 2), 0);
        due.is("8: place of 2", b.ink(2, 2), 2);
        due.is("8: by inks, not by places", b.swaps(0, 2), 0);
        due.is("8: 0 is last", b.ink(0, 2), 2);
        due.is("8: 2 is in the middle", b.ink(2, 2), 1);
        due.is("8: back again", b.swaps(2, 0), 0);
        due.is("8: wrong again", b.swaps(1, 0), 1);
        due.is("8: not with itself", b.swaps(1, 1), BAD);
        due.is("8: ink above", b.swaps(0, 3), BAD);
        due.is("8: ink above first", b.swaps(3, 0), BAD);
        due.is("8: ink below", b.swaps(-1, 0), BAD);
        for (int far : FAR) {
            due.is("8: far", b.swaps(far, 0), BAD);
            due.is("8: far other", b.swaps(0, far), BAD);
        }
        due.is("8: done", b.count(8), 6);
    }

    private static void p9Undo() {
        SlippedBlocks b = told("c1;r000;");
        for (int i = 0; i < 7; i++) {
            b.carves(0, i % 3, 0);
        }
        due.is("9: six are known", b.count(8), 6);
        due.is("9: block", b.cell(0, 0, 2) + 2 * b.cell(1, 0, 2) + 4 * b.cell(2, 0, 2), 1);
        int[] blocks = {0, 4, 6, 7, 3, 1};
        for (int i = 0; i < 6; i++) {
            due.is("9: more", b.undo(), 5 - i);
            due.is("9: block", b.cell(0, 0, 2) + 2 * b.cell(1, 0, 2) + 4 * b.cell(2, 0, 2), blocks[i]);
        }
        due.is("9: older ones are lost", b.undo(), STATE);
        due.is("9: still told", b.count(0), 3);
        b.carves(0, 1, 0);
        due.is("9: from anew", b.count(8), 1);
        due.is("9: undone", b.undo(), 0);
        due.is("9: block as it was", b.cell(1, 0, 2), 0);
    }

    private static void p9UndoEachKind() {
        SlippedBlocks b = told("c1;c2;r13;");
        b.swaps(0, 1);
        b.undo();
        due.is("9: swaps", b.ink(0, 2), 0);
        b.slips(0, -1, 1);
        b.cuts();
        due.is("9: cut", b.count(4), 3);
        b.undo();
        due.is("9: cuts", b.count(4), 0);
        due.is("9: cuts, slip", b.ink(0, 4), -1);
        b.undo();
        due.is("9: slips", b.count(5), 0);
        due.is("9: told is undone, too", b.undo(), 0);
        due.is("9: as at first", b.count(0), 1);
        due.is("9: no inks", b.count(2), 0);
        due.is("9: colour", b.cell(0, 0, 0), 0);
        type(b, "r5");
        b.sees(0, 0, 5);
        b.keep(0);
        due.is("9: nothing left", b.undo(), STATE);
        b.cuts();
        due.is("9: undone", b.undo(), 0);
        due.is("9: the text stays", b.count(7), 2);
        due.is("9: seen stays", b.count(6), 1);
        due.is("9: images stay", b.back(0), 0);
    }

    private static void p9RefusedIsNotUndone() {
        SlippedBlocks b = told("c1;r2;");
        b.cuts();
        b.carves(1, 0, 0);
        b.slips(0, 0, 0);
        b.swaps(0, 0);
        b.tells();
        b.type('c');
        b.tells();
        b.clear();
        b.sees(0, 0, 0);
        b.forget();
        b.keep(0);
        b.back(1);
        b.order(-1);
        due.is("9: only what was done", b.count(8), 1);
    }

    private static void p10Cell() {
        SlippedBlocks b = told("c1;r12;r34;r56;");
        for (int y = 0; y < 3; y++) {
            for (int x = 0; x < 2; x++) {
                due.is("10: colour", b.cell(x, y, 0), 2 * y + x + 1);
                due.is("10: proof", b.cell(x, y, 1), 0);
                due.is("10: blocks", b.cell(x, y, 2), 0);
            }
        }
        due.is("10: x above", b.cell(2, 0, 0), BAD);
        due.is("10: x below", b.cell(-1, 0, 0), BAD);
        due.is("10: y above", b.cell(0, 3, 0), BAD);
        due.is("10: y below", b.cell(0, -1, 0), BAD);
        due.is("10: what above", b.cell(0, 0, 3), BAD);
        due.is("10: what below", b.cell(0, 0, -1), BAD);
        for (int far : FAR) {
            due.is("10: far x", b.cell(far, 0, 0), BAD);
            due.is("10: far y", b.cell(0, far, 1), BAD);
            due.is("10: far what", b.cell(0, 0, far), BAD);
        }
    }

    private static void p10ProofsInOrder() {
        SlippedBlocks b = told("c1;d6;c3;r0;");
        b.carves(0, 0, 0);
        due.is("10: clear on paper", b.cell(0, 0, 1), 1);
        b.carves(1, 0, 0);
        due.is("10: dense covers", b.cell(0, 0, 1), 6);
        b.carves(2, 0, 0);
        due.is("10: clear adds", b.cell(0, 0, 1), 7);
        b.swaps(1, 2);
        due.is("10: dense is last", b.cell(0, 0, 1), 6);
        b.swaps(0, 1);
        due.is("10: order 1 wins no more", b.cell(0, 0, 1), 7);
        b.carves(1, 0, 0);
        due.is("10: 3 with 1", b.cell(0, 0, 1), 3);
    }

    private static void p10ProofsSlipped() {
        SlippedBlocks narrow = told("c1;r00;r00;");
        narrow.carves(0, 1, 0);
        narrow.slips(0, 1, 0);
        due.is("10: off the paper", narrow.cell(0, 1, 1), 0);
        due.is("10: off the paper, gone", narrow.cell(1, 0, 1), 0);
        due.is("10: its cell is as it was", narrow.cell(1, 0, 2), 1);
    }

    private static void p11Ink() {
        SlippedBlocks b = told("d5;c2;c7;r000;r000;");
        int[][] first = {{5, 1, 0, 0, 0, 0}, {2, 0, 1, 0, 0, 0}, {7, 0, 2, 0, 0, 0}};
        for (int ink = 0; ink < 3; ink++) {
            for (int what = 0; what < 6; what++) {
                due.is("11: ink " + ink + " " + what, b.ink(ink, what), first[ink][what]);
            }
        }
        b.carves(1, 2, 1);
        b.carves(1, 0, 0);
        b.slips(1, -1, 1);
        b.swaps(1, 2);
        int[] then = {2, 0, 2, 2, -1, 1};
        for (int what = 0; what < 6; what++) {
            due.is("11: then " + what, b.ink(1, what), then[what]);
        }
        due.is("11: ink above", b.ink(3, 0), NO);
        due.is("11: ink below", b.ink(-1, 0), NO);
        due.is("11: what above", b.ink(0, 6), NO);
        due.is("11: what below", b.ink(0, -1), NO);
        for (int far : FAR) {
            due.is("11: far ink", b.ink(far, 0), NO);
            due.is("11: far what", b.ink(0, far), NO);
        }
    }

    private static void p12Made() {
        SlippedBlocks b = told("c1;d2;c4;r0;");
        due.is("12: none", b.made(0), 1);
        due.is("12: c1", b.made(1), bits(0, 1));
        due.is("12: d2", b.made(2), bits(0, 2));
        due.is("12: c1 d2", b.made(3), bits(0, 1, 2));
        due.is("12: c1 c4", b.made(5), bits(0, 1, 4, 5));
        due.is("12: d2 c4", b.made(6), bits(0, 2, 4, 6));
        due.is("12: c1 d2 c4", b.made(7), bits(0, 1, 2, 4, 5, 6));
        due.is("12: above", b.made(8), BAD);
        due.is("12: below", b.made(-1), BAD);
        for (int far : FAR) {
            due.is("12: far", b.made(far), BAD);
        }
        b.swaps(0, 1);
        due.is("12: d2 c1", b.made(3), bits(0, 1, 2, 3));
        due.is("12: d2 c1 c4", b.made(7), 255);
        SlippedBlocks six = told("c3;c5;c6;d1;c4;c2;r7;");
        due.is("12: six", six.made(63), 255);
        due.is("12: of six above", six.made(64), BAD);
        due.is("12: two-primary inks", six.made(7), bits(0, 3, 5, 6, 7));
    }

    private static int bits(int... colours) {
        int set = 0;
        for (int c : colours) {
            set |= 1 << c;
        }
        return set;
    }

    private static void p13Least() {
        SlippedBlocks b = told("c1;c2;c4;c7;r07;");
        due.is("13: one", b.least(0), 1);
        due.is("13: the last", b.least(1), 8);
        due.is("13: what above", b.least(2), BAD);
        due.is("13: what below", b.least(-1), BAD);
        for (int far : FAR) {
            due.is("13: far", b.least(far), BAD);
        }
        SlippedBlocks ties = told("c1;c3;c2;d1;r3;r1;");
        due.is("13: ties, how many", ties.least(0), 2);
        due.is("13: ties, least as bits", ties.least(1), 3);
        SlippedBlocks none = told("d1;d2;r3;");
        due.is("13: none", none.least(0), NONE);
        due.is("13: none, bits", none.least(1), NONE);
        due.is("13: BAD ahead of NONE", none.least(2), BAD);
        SlippedBlocks byOrder = told("c1;d2;r3;");
        due.is("13: covered", byOrder.least(0), NONE);
        byOrder.swaps(0, 1);
        due.is("13: in ORDER", byOrder.least(1), 3);
        SlippedBlocks bare = told("c1;r0;");
        due.is("13: bare", bare.least(0), 0);
        due.is("13: bare, bits", bare.least(1), 0);
    }

    private static void p14Order() {
        orders("c1;d2;r3;", 2, 1, 0);
        orders("c1;c2;r3;", 2, 0, 1);
        orders("c1;r0;", 0, 0);
        orders("c3;c1;d2;c2;r3;", 1, 0, 1, 2, 3);
        orders("d4;c1;d2;c2;r3;", 2, 0, 1, 2, 3);
        orders("c1;d7;d2;r3;r0;", 2, 1, 2, 0);
        orders("c4;c1;d2;c7;r5;r3;r6;", 3, 2, 0, 1, 3);
        orders("c4;d3;c5;c2;r7;", 2, 0, 1, 2, 3);
        orders("c4;d3;c5;c2;c1;d7;r76;", 3, 0, 1, 2, 3, 4, 5);
        orders("d6;c1;d4;c2;d7;c4;r3570;r1000;", 3, 0, 1, 2, 3, 4, 5);
        SlippedBlocks b = told("c1;d2;r3;");
        b.swaps(0, 1);
        due.is("14: whatever ORDER is", b.order(0), 1);
        due.is("14: nothing is changed", b.ink(0, 2), 1);
        due.is("14: BAD", b.order(-2), BAD);
        due.is("14: far below", b.order(Integer.MIN_VALUE), BAD);
        due.is("14: far above", b.order(Integer.MAX_VALUE), NONE);
        SlippedBlocks none = told("d1;d2;r3;");
        due.is("14: none", none.order(-1), NONE);
        due.is("14: none at 0", none.order(0), NONE);
        due.is("14: none at 1", none.order(1), NONE);
        due.is("14: BAD ahead of NONE", none.order(-2), BAD);
    }

    private static void orders(String text, int fewest, int... row) {
        SlippedBlocks b = told(text);
        due.is("14: fewest of " + text, b.order(-1), fewest);
        for (int i = 0; i < row.length; i++) {
            due.is("14: " + i + " of " + text, b.order(i), row[i]);
        }
        due.is("14: not so many in " + text, b.order(row.length), NONE);
    }

    private static void p15Wrong() {
        SlippedBlocks b = told("c1;c2;r0132;r1013;");
        due.is("15: all but the bare", b.wrong(), 6);
        b.cuts();
        due.is("15: cut", b.wrong(), 0);
        b.carves(0, 0, 0);
        due.is("15: carved", b.wrong(), 1);
        b.undo();
        b.slips(0, 0, 1);
        due.is("15: slipped", b.wrong(), 5);
        due.is("15: as it was", new SlippedBlocks().wrong(), 0);
    }

    private static void p16Hurt() {
        SlippedBlocks b = told("c1;c2;r0102;");
        b.cuts();
        due.is("16: leaves a cell, takes another", b.hurt(0), 2);
        due.is("16: leaves the paper", b.hurt(1), 1);
        due.is("16: nothing is changed", b.wrong(), 0);
        due.is("16: nothing is done", b.count(8), 2);
        b.slips(0, 1, 0);
        due.is("16: where dx is 1, 0", b.hurt(0), -2);
        b.slips(0, -1, 0);
        due.is("16: where dx is -1, 0", b.hurt(0), -2);
        b.slips(0, 1, 1);
        due.is("16: dy stays", b.hurt(0), 0);
        due.is("16: ink above", b.hurt(2), NO);
        due.is("16: ink below", b.hurt(-1), NO);
        for (int far : FAR) {
            due.is("16: far", b.hurt(far), NO);
        }
    }

    private static void p17Sees() {
        SlippedBlocks b = told("c1;r00;");
        due.is("17: colour above", b.sees(0, 0, 8), BAD);
        due.is("17: colour below", b.sees(0, 0, -1), BAD);
        due.is("17: x above", b.sees(6, 0, 0), BAD);
        due.is("17: x below", b.sees(-1, 0, 0), BAD);
        due.is("17: y above", b.sees(0, 6, 0), BAD);
        due.is("17: y below", b.sees(0, -1, 0), BAD);
        for (int far : FAR) {
            due.is("17: far x", b.sees(far, 0, 0), BAD);
            due.is("17: far y", b.sees(0, far, 0), BAD);
            due.is("17: far colour", b.sees(0, 0, far), BAD);
        }
        due.is("17: none yet", b.count(6), 0);
        due.is("17: off the picture", b.sees(5, 5, 7), 1);
        for (int i = 2; i <= 6; i++) {
            due.is("17: the same again", b.sees(0, 0, 0), i);
        }
        due.is("17: the seventh", b.sees(0, 0, 0), FULL);
        due.is("17: BAD ahead of FULL", b.sees(0, 0, 8), BAD);
        due.is("17: six", b.count(6), 6);
        due.is("17: not undone", b.count(8), 1);
    }

    private static void p18Forget() {
        SlippedBlocks b = told("c1;r00;");
        due.is("18: nothing", b.forget(), 0);
        b.sees(5, 5, 0);
        b.sees(0, 0, 0);
        due.is("18: none by which", b.which(0), 0);
        due.is("18: two", b.forget(), 2);
        due.is("18: nothing is seen", b.count(6), 0);
        due.is("18: all may be again", b.which(0), 9);
        due.is("18: from anew", b.sees(0, 0, 0), 1);
    }

    private static void p19Which() {
        SlippedBlocks b = told("c1;c2;r000;r000;r000;");
        b.carves(0, 1, 1);
        b.carves(1, 0, 0);
        due.is("19: no block, or eight slips of each", b.which(0), 17);
        due.is("19: first is no block", b.which(1), -1);
        for (int slip = 0; slip < 9; slip++) {
            b.forget();
            b.sees(slip % 3, slip / 3, slip == 0 ? 3 : 1);
            due.is("19: to " + slip, b.which(1), slip == 4 ? -1 : slip);
        }
        b.forget();
        b.sees(1, 0, 2);
        due.is("19: ink 1 by dx", b.which(0), 1);
        due.is("19: 9 and 3 and 2", b.which(1), 14);
        b.sees(0, 0, 2);
        due.is("19: not both", b.which(0), 0);
        due.is("19: the first is not", b.which(1), NOT);
        due.is("19: what above", b.which(2), NO);
        due.is("19: what below", b.which(-1), NO);
        for (int far : FAR) {
            due.is("19: far", b.which(far), NO);
        }
        b.forget();
        b.sees(3, 0, 0);
        due.is("19: no such cell", b.which(0), 0);
        due.is("19: no such cell, first", b.which(1), NOT);
        due.is("19: nothing is done", b.count(8), 3);
    }

    private static void p19WhichAsItIsWhenAsked() {
        SlippedBlocks b = told("c1;r000;");
        b.carves(0, 1, 0);
        b.sees(2, 0, 1);
        due.is("19: by dx", b.which(1), 5);
        b.slips(0, 1, 0);
        due.is("19: as it is", b.which(1), -1);
        due.is("19: not by the slip it has", b.which(0), 1);
        b.slips(0, 1, 1);
        due.is("19: all but that one again", b.which(1), 5);
        due.is("19: one", b.which(0), 1);
        b.carves(0, 1, 0);
        due.is("19: none", b.which(0), 0);
        SlippedBlocks w = told("c1;r0;");
        w.keep(0);
        w.sees(1, 0, 0);
        due.is("19: no cell 1", w.which(0), 0);
    }

    private static void p20Ask() {
        SlippedBlocks b = told("c1;r000;r000;r000;");
        b.carves(0, 1, 1);
        due.is("20: all alike, the least", b.ask(), 0);
        b.sees(0, 0, 0);
        due.is("20: the next", b.ask(), 1);
        b.sees(1, 0, 0);
        b.sees(2, 0, 0);
        due.is("20: the next row", b.ask(), 6);
        b.sees(0, 1, 0);
        b.sees(1, 1, 0);
        due.is("20: 6 y and x", b.ask(), 8);
        b.sees(2, 1, 0);
        due.is("20: below", b.ask(), 12);
        b.forget();
        b.sees(1, 1, 1);
        due.is("20: one alone", b.ask(), NONE);
        b.sees(1, 1, 0);
        due.is("20: none", b.ask(), NONE);
        SlippedBlocks two = told("c1;c2;r000;");
        two.carves(0, 2, 0);
        two.carves(1, 1, 0);
        two.carves(1, 2, 0);
        due.is("20: by the greatest number: of the cells 16, 9 and 8", two.ask(), 2);
        SlippedBlocks same = told("c1;r00;");
        due.is("20: no cell tells them apart", same.ask(), 0);
        due.is("20: many may be", same.which(0), 9);
    }

    private static void p21Keep() {
        SlippedBlocks b = told("c1;c2;r13;");
        due.is("21: below", b.keep(-1), BAD);
        due.is("21: above", b.keep(2), BAD);
        for (int far : FAR) {
            due.is("21: far", b.keep(far), BAD);
        }
        due.is("21: inks", b.keep(0), 2);
        b.cuts();
        due.is("21: another", b.keep(1), 2);
        due.is("21: not done", b.count(8), 2);
        b.back(0);
        due.is("21: image 0", b.count(4), 0);
        b.back(1);
        due.is("21: image 1", b.count(4), 3);
        due.is("21: kept over", b.keep(0), 2);
        b.carves(0, 0, 0);
        b.back(0);
        due.is("21: as kept over", b.count(4), 3);
        due.is("21: a new object's", new SlippedBlocks().keep(1), 0);
    }

    private static void p22Back() {
        SlippedBlocks b = told("c1;d2;r13;r10;");
        due.is("22: below", b.back(-1), BAD);
        due.is("22: above", b.back(2), BAD);
        for (int far : FAR) {
            due.is("22: far", b.back(far), BAD);
        }
        due.is("22: none", b.back(0), STATE);
        due.is("22: refused loses nothing", b.count(8), 1);
        b.swaps(0, 1);
        b.slips(1, 1, -1);
        b.carves(1, 1, 1);
        b.keep(1);
        due.is("22: the other is none", b.back(0), STATE);
        b.carves(0, 0, 0);
        b.cuts();
        b.swaps(0, 1);
        b.sees(0, 0, 1);
        type(b, "r7");
        due.is("22: back", b.back(1), 2);
        due.is("22: order", b.ink(0, 2), 1);
        due.is("22: dx", b.ink(1, 4), 1);
        due.is("22: dy", b.ink(1, 5), -1);
        due.is("22: block", b.cell(1, 1, 2), 2);
        due.is("22: blocks", b.count(4), 1);
        due.is("22: nothing can be undone", b.undo(), STATE);
        due.is("22: seen stays", b.count(6), 1);
        due.is("22: the text stays", b.count(7), 2);
        b.carves(0, 0, 0);
        due.is("22: done behind it", b.undo(), 0);
        b.carves(0, 0, 0);
        due.is("22: again", b.back(1), 2);
        due.is("22: the image was not changed", b.count(4), 1);
        SlippedBlocks undone = told("c1;r12;");
        undone.keep(0);
        undone.undo();
        due.is("22: an image behind undo", undone.back(0), 1);
        due.is("22: its picture", undone.cell(1, 0, 0), 2);
    }

    private static void p23Count() {
        SlippedBlocks b = told("c1;c2;d4;r013;r770;");
        b.carves(0, 0, 0);
        b.carves(0, 1, 1);
        b.carves(2, 1, 1);
        b.slips(0, 0, 1);
        b.slips(2, -1, 0);
        b.sees(1, 1, 1);
        type(b, "  ");
        int[] counts = {3, 2, 3, bits(0, 1, 3, 7), 3, 2, 1, 2, 6};
        for (int what = 0; what < counts.length; what++) {
            due.is("23: count " + what, b.count(what), counts[what]);
        }
        due.is("23: no 0 in the picture", told("r77;").count(3), bits(7));
        due.is("23: above", b.count(9), BAD);
        due.is("23: below", b.count(-1), BAD);
        for (int far : FAR) {
            due.is("23: far", b.count(far), BAD);
        }
    }
}
