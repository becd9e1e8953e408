/** The part on THE TEXT, sentence by sentence: which letter can stand where, and where the fault is. */
public final class TextTest {
    private static final int FULL = -3;
    private static final String SIX_INKS = "c1;d2;c3;d4;c5;d6;";
    private static final String SIX_ROWS = "r0;r1;r2;r3;r4;r5;";
    private static final Due due = new Due();

    public static void main(String[] args) {
        everyLetterEverywhere();
        endsTooEarly();
        faultIsTheFirst();
        blanks();
        hundredLetters();
        whateverOrder();
        coloursAndSizes();
        textStaysByAFault();
        due.end();
    }

    private static SlippedBlocks typed(String text) {
        SlippedBlocks b = new SlippedBlocks();
        type(b, text);
        return b;
    }

    private static void type(SlippedBlocks b, String text) {
        for (int i = 0; i < text.length(); i++) {
            b.type(text.charAt(i));
        }
    }

    private static void tells(String text, int answer) {
        due.is("tells() of '" + text + "'", typed(text).tells(), answer);
    }

    private static void fault(String text, int place) {
        tells(text, -10 - place);
    }

    /** Of all 256 letters just these, and the blank, can come behind a text. */
    private static void canFollow(String start, String letters) {
        for (int letter = 0; letter <= 255; letter++) {
            String text = start + (char) letter;
            boolean can = letter == ' ' || letters.indexOf(letter) >= 0;
            int answer = typed(text).tells();
            String what = "letter " + letter + " behind '" + start + "' answered " + answer;
            if (can) {
                due.holds(what, answer > 0 || answer == -10 - text.length());
            } else {
                due.holds(what, answer == -10 - start.length());
            }
        }
    }

    /** "the place of the first letter of the first TOKEN that can't stand there"; "of any other letter, its own". */
    private static void everyLetterEverywhere() {
        canFollow("", "cdr");
        canFollow("   ", "cdr");
        canFollow("c", "1234567");
        canFollow("d", "1234567");
        canFollow("c1", ";");
        canFollow("d7", ";");
        canFollow("c1;", "cdr");
        canFollow("r", "01234567");
        canFollow("r0", "01234567;");
        canFollow("r01234", "01234567;");
        canFollow("r012345", ";");
        canFollow("r01;", "cdr");
        canFollow("r01;r", "01234567");
        canFollow("r01;r7", "01234567");
        canFollow("r01;r76", ";");
        canFollow("r0;r", "01234567");
        canFollow("r0;r0", ";");
        canFollow("r012345;r01234", "01234567");
        canFollow("r012345;r012345", ";");
        canFollow("c1;d2;c3;d4;c5;", "cdr");
        canFollow(SIX_INKS, "r");
        canFollow("r0;r1;r2;r3;r4;", "cdr");
        canFollow(SIX_ROWS, "cd");
        canFollow(SIX_INKS + SIX_ROWS, "");
        canFollow(SIX_ROWS + SIX_INKS, "");
    }

    /** "the text's length, if it ends too early (one without r, too)". */
    private static void endsTooEarly() {
        fault("", 0);
        fault(" ", 1);
        fault("c", 1);
        fault("c ", 2);
        fault("d5", 2);
        fault("c1;", 3);
        fault("c1; ", 4);
        fault(SIX_INKS, 18);
        fault(SIX_INKS + "  ", 20);
        fault("r", 1);
        fault("r7", 2);
        fault("r012345", 7);
        fault("r0;r", 4);
        fault("r01;r0", 6);
        fault("r01;r01", 7);
        fault("r01;c", 5);
        fault("r01;d3", 6);
        fault("r01;d3  ", 8);
        tells("r01;d3;", 2);
    }

    /** Of several faults the first counts, and a fault ahead of the end's. */
    private static void faultIsTheFirst() {
        fault("x;8r", 0);
        fault("c0x", 1);
        fault("c1c", 2);
        fault("r0;;c8", 3);
        fault("c9", 1);
        fault("r0;c1;;", 6);
        fault("r0123456789", 7);
        fault("r00;r0;r0", 6);
        fault("r00;r0000;", 7);
        fault("  r  0  0  ;  r  0  ;", 20);
        fault("  c  1  1  ;", 8);
        fault(SIX_INKS + "  c1;r0;", 20);
        fault(SIX_INKS + "d1;r0;", 18);
        fault("r0;" + SIX_INKS + "c", 21);
        fault(SIX_ROWS + " r", 19);
        fault(SIX_ROWS + "r0;", 18);
        fault(SIX_INKS + SIX_ROWS + ";", 36);
    }

    /** "blanks (32), any number, ahead of, between, behind TOKENS (none need be)". */
    private static void blanks() {
        tells("c1;r0;", 2);
        tells(" c1;r0;", 2);
        tells("c 1;r0;", 2);
        tells("c1 ;r0;", 2);
        tells("c1; r0;", 2);
        tells("c1;r 0;", 2);
        tells("c1;r0 ;", 2);
        tells("c1;r0; ", 2);
        tells("    c    1    ;    r    0    1   2    ;    ", 2);
        SlippedBlocks b = typed("r 1   2;r3 4  ;");
        due.is("blanks among figures", b.tells(), 2);
        due.is("blanks are no cells", b.count(0), 2);
        due.is("the cell behind blanks", b.cell(1, 0, 0), 2);
        due.is("the last cell", b.cell(1, 1, 0), 4);
        for (char notBlank : new char[] {0, 9, 10, 13, 31, 33, 160, 255}) {
            fault("r0" + notBlank + ";", 2);
        }
    }

    /** "100 letters at most": a text of a hundred is whole, and a fault may be at each end of it. */
    private static void hundredLetters() {
        tells("r0;" + " ".repeat(97), 1);
        tells(" ".repeat(97) + "r0;", 1);
        tells("r0;" + " ".repeat(93) + "c12;", -10 - 98);
        tells("r0;" + " ".repeat(96) + "x", -10 - 99);
        tells("x" + " ".repeat(99), -10);
        tells("r0;" + " ".repeat(96) + "d", -10 - 100);
        tells(" ".repeat(100), -10 - 100);
        SlippedBlocks cut = typed("r0;" + " ".repeat(95) + "c1");
        due.is("the 101st letter", cut.type(';'), FULL);
        due.is("is not of the text", cut.tells(), -10 - 100);
        due.is("clear() of a hundred", cut.clear(), 100);
        due.is("room again", cut.type('r'), 1);
        String most = SIX_INKS + "r012345;r123456;r234567;r345670;r456701;r567012;";
        tells(most + " ".repeat(100 - most.length()), 12);
    }

    /** "ITEMS, each ended by ; , in whatever order". */
    private static void whateverOrder() {
        for (String text : new String[] {"c1;d2;r34;r56;", "r34;r56;c1;d2;", "r34;c1;r56;d2;", "c1;r34;d2;r56;",
            "c1;r34;r56;d2;", "r34;c1;d2;r56;"}) {
            SlippedBlocks b = typed(text);
            due.is(text, b.tells(), 4);
            due.is(text + " ink 0", 10 * b.ink(0, 0) + b.ink(0, 1), 10);
            due.is(text + " ink 1", 10 * b.ink(1, 0) + b.ink(1, 1), 21);
            due.is(text + " row 0", 10 * b.cell(0, 0, 0) + b.cell(1, 0, 0), 34);
            due.is(text + " row 1", 10 * b.cell(0, 1, 0) + b.cell(1, 1, 0), 56);
        }
        SlippedBlocks other = typed("d2;r56;c1;r34;");
        due.is("the other way round", other.tells(), 4);
        due.is("the first is ink 0", other.ink(0, 0), 2);
        due.is("the first is row 0", other.cell(0, 0, 0), 5);
    }

    /** W and H of 1 to 6, one more; COLOURS 0 to 7 of a cell, 1 to 7 of an ink, clear and dense. */
    private static void coloursAndSizes() {
        for (int w = 1; w <= 7; w++) {
            for (int h = 1; h <= 7; h++) {
                String text = ("r" + "1234567".substring(0, w) + ";").repeat(h);
                if (w == 7) {
                    fault(text, 7);
                } else if (h == 7) {
                    fault(text, 6 * (w + 2));
                } else {
                    tells(text, h);
                }
            }
        }
        for (int n = 0; n <= 9; n++) {
            tells("r" + n + ";", n <= 7 ? 1 : -11);
            tells("r0;c" + n + ";", n >= 1 && n <= 7 ? 2 : -14);
            tells("r0;d" + n + ";", n >= 1 && n <= 7 ? 2 : -14);
        }
    }

    /** "-10 less FAULT: nothing changes (THE TEXT stays, too)": so a text may be told when it has been ended. */
    private static void textStaysByAFault() {
        SlippedBlocks b = typed("c1");
        due.is("too early", b.tells(), -12);
        due.is("still too early", b.tells(), -12);
        type(b, ";r4");
        due.is("with more", b.tells(), -15);
        due.is("six letters", b.type(';'), 6);
        due.is("ended", b.tells(), 2);
        due.is("the text is empty then", b.count(7), 0);
        due.is("an empty text ends too early", b.tells(), -10);
        due.is("the ink that was told stays", b.ink(0, 0), 1);
        due.is("the picture that was told stays", b.cell(0, 0, 0), 4);
        due.is("one thing done", b.count(8), 1);
    }
}
