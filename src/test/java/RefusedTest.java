import java.util.ArrayList;
import java.util.List;
import java.util.function.Consumer;
import java.util.function.ToIntFunction;

/**
 * "Refused, and nothing changes, the first of these that is so: BAD, STATE, FULL": every kind of refused call,
 * made on one of two objects of the same past; then both are looked at, undone step by step, put back to their
 * images, and their texts told, and must answer alike.
 */
public final class RefusedTest {
    private static final int BAD = -1, STATE = -2, FULL = -3, NO = -1000000;
    private static final int LEAST_INT = Integer.MIN_VALUE;
    private static final int GREATEST_INT = Integer.MAX_VALUE;
    private static final Due due = new Due();

    private static String scene = "";
    private static Consumer<SlippedBlocks> past = b -> { };

    public static void main(String[] args) {
        atFirst();
        worked();
        full();
        six();
        lookingChangesNothing();
        due.end();
    }

    private static void scene(String name, Consumer<SlippedBlocks> itsPast) {
        scene = name;
        past = itsPast;
    }

    private static void refused(String call, ToIntFunction<SlippedBlocks> made, int answer) {
        List<String> before = allThatIsHeld(b -> { });
        List<String> behind = allThatIsHeld(b -> due.is(scene + ", " + call, made.applyAsInt(b), answer));
        String unlike = View.unlike(before, behind);
        due.holds(scene + ", " + call + " changes nothing, but " + unlike, unlike.isEmpty());
    }

    /** What shows in an object as it is, and what each call shows that brings forth what is held unseen. */
    private static List<String> allThatIsHeld(Consumer<SlippedBlocks> then) {
        List<String> lines = new ArrayList<>();
        for (int steps = 0; steps <= 7; steps++) {
            SlippedBlocks b = made(then);
            for (int i = 0; i < steps; i++) {
                lines.add("undo() " + b.undo());
            }
            lines.addAll(View.of(b));
        }
        for (int image = 0; image < 2; image++) {
            SlippedBlocks b = made(then);
            lines.add("back(" + image + ") " + b.back(image));
            lines.addAll(View.of(b));
        }
        SlippedBlocks b = made(then);
        lines.add("tells() " + b.tells());
        lines.addAll(View.of(b));
        return lines;
    }

    private static SlippedBlocks made(Consumer<SlippedBlocks> then) {
        SlippedBlocks b = new SlippedBlocks();
        past.accept(b);
        then.accept(b);
        return b;
    }

    private static void type(SlippedBlocks b, String text) {
        for (int i = 0; i < text.length(); i++) {
            b.type(text.charAt(i));
        }
    }

    private static void atFirst() {
        scene("at first", b -> { });
        refusedWhereverItIs();
        refused("tells()", b -> b.tells(), -10);
        refused("undo()", b -> b.undo(), STATE);
        refused("back(0)", b -> b.back(0), STATE);
        refused("back(1)", b -> b.back(1), STATE);
        refusedInks(0);
        refusedCells(1, 1);
    }

    /** Two inks in the other order, of which one is carved and slipped; all there is to hold is held. */
    private static void worked() {
        scene("worked", b -> {
            type(b, "c1;d2;r103;r022;");
            b.tells();
            b.carves(0, 2, 1);
            b.keep(1);
            b.cuts();
            b.swaps(1, 0);
            b.cuts();
            b.slips(0, -1, 1);
            b.carves(1, 0, 1);
            b.carves(1, 2, 1);
            b.sees(1, 1, 2);
            b.sees(2, 0, 2);
            type(b, "r57;c3; d");
        });
        refusedWhereverItIs();
        refused("tells(): ends too early", b -> b.tells(), -19);
        refused("slips, the slip it has", b -> b.slips(0, -1, 1), STATE);
        refused("slips, no slip, which it has", b -> b.slips(1, 0, 0), STATE);
        refused("swaps, an ink with itself", b -> b.swaps(1, 1), BAD);
        refused("back(0)", b -> b.back(0), STATE);
        refusedInks(2);
        refusedCells(3, 2);
        scene("worked, a text with a wrong letter", b -> {
            type(b, "c1;d2;r103;r022;");
            b.tells();
            b.swaps(0, 1);
            b.carves(0, 2, 1);
            b.slips(0, 1, 0);
            b.keep(0);
            b.sees(2, 1, 1);
            type(b, "c4;c7;d6;r7000;r000x;");
        });
        refused("tells(): a wrong letter", b -> b.tells(), -29);
        scene("no least", b -> {
            type(b, "d1;d2;r13;");
            b.tells();
            b.carves(0, 1, 0);
            b.slips(1, 0, 1);
            b.keep(0);
        });
        refused("cuts()", b -> b.cuts(), STATE);
    }

    /** As much text and as much seen as there may be; all that was done is undone again. */
    private static void full() {
        scene("full", b -> {
            type(b, "c1;r00;");
            b.tells();
            b.carves(0, 0, 0);
            b.undo();
            b.undo();
            for (int i = 0; i < 6; i++) {
                b.sees(i % 2, 0, i % 2);
            }
            type(b, " ".repeat(97));
            type(b, "r12");
        });
        refused("type, the 101st", b -> b.type(';'), FULL);
        refused("type, BAD ahead of FULL", b -> b.type(256), BAD);
        refused("type below, BAD ahead of FULL", b -> b.type(-1), BAD);
        refused("sees, the seventh", b -> b.sees(0, 0, 0), FULL);
        refused("sees, BAD ahead of FULL", b -> b.sees(0, 6, 0), BAD);
        refused("sees, a colour, BAD ahead of FULL", b -> b.sees(0, 0, 8), BAD);
        refused("undo()", b -> b.undo(), STATE);
        refused("tells()", b -> b.tells(), -110);
    }

    /** As many inks as there may be, and as many things done as are known. */
    private static void six() {
        scene("six inks", b -> {
            type(b, "c1;d2;c3;d4;c5;d6;r0;");
            b.tells();
            for (int ink = 0; ink < 6; ink++) {
                b.carves(ink, 0, 0);
            }
            b.slips(5, 1, -1);
            b.keep(0);
            b.keep(1);
        });
        refusedInks(6);
        refusedCells(1, 1);
    }

    /** Numbers that are not as told, however much there is of everything. */
    private static void refusedWhereverItIs() {
        for (int letter : new int[] {-1, 256, LEAST_INT, GREATEST_INT}) {
            refused("type(" + letter + ")", b -> b.type(letter), BAD);
        }
        for (int what : new int[] {-1, 2, LEAST_INT, GREATEST_INT}) {
            refused("least(" + what + ")", b -> b.least(what), BAD);
            refused("which(" + what + ")", b -> b.which(what), NO);
            refused("keep(" + what + ")", b -> b.keep(what), BAD);
            refused("back(" + what + ")", b -> b.back(what), BAD);
        }
        for (int what : new int[] {-1, 9, LEAST_INT, GREATEST_INT}) {
            refused("count(" + what + ")", b -> b.count(what), BAD);
        }
        for (int i : new int[] {-2, LEAST_INT}) {
            refused("order(" + i + ")", b -> b.order(i), BAD);
        }
        for (int n : new int[] {-1, 6, LEAST_INT, GREATEST_INT}) {
            refused("sees(" + n + ", 0, 0)", b -> b.sees(n, 0, 0), BAD);
            refused("sees(0, " + n + ", 0)", b -> b.sees(0, n, 0), BAD);
        }
        for (int colour : new int[] {-1, 8, LEAST_INT, GREATEST_INT}) {
            refused("sees(0, 0, " + colour + ")", b -> b.sees(0, 0, colour), BAD);
        }
    }

    private static void refusedInks(int inks) {
        for (int ink : new int[] {-1, inks, LEAST_INT, GREATEST_INT}) {
            refused("carves(" + ink + ", 0, 0)", b -> b.carves(ink, 0, 0), BAD);
            refused("slips(" + ink + ", 1, 1)", b -> b.slips(ink, 1, 1), BAD);
            refused("slips(" + ink + ", 0, 0)", b -> b.slips(ink, 0, 0), BAD);
            refused("swaps(" + ink + ", 0)", b -> b.swaps(ink, 0), BAD);
            refused("swaps(0, " + ink + ")", b -> b.swaps(0, ink), BAD);
            refused("swaps(" + ink + ", " + ink + ")", b -> b.swaps(ink, ink), BAD);
            refused("ink(" + ink + ", 0)", b -> b.ink(ink, 0), NO);
            refused("hurt(" + ink + ")", b -> b.hurt(ink), NO);
        }
        for (int set : new int[] {-1, 1 << inks, LEAST_INT, GREATEST_INT}) {
            refused("made(" + set + ")", b -> b.made(set), BAD);
        }
        if (inks == 0) {
            return;
        }
        for (int n : new int[] {-2, 2, LEAST_INT, GREATEST_INT}) {
            refused("slips(0, " + n + ", 0)", b -> b.slips(0, n, 0), BAD);
            refused("slips(0, 0, " + n + ")", b -> b.slips(0, 0, n), BAD);
        }
        for (int what : new int[] {-1, 6, LEAST_INT, GREATEST_INT}) {
            refused("ink(0, " + what + ")", b -> b.ink(0, what), NO);
        }
    }

    private static void refusedCells(int w, int h) {
        for (int x : new int[] {-1, w, LEAST_INT, GREATEST_INT}) {
            refused("carves(0, " + x + ", 0)", b -> b.carves(0, x, 0), BAD);
            refused("cell(" + x + ", 0, 0)", b -> b.cell(x, 0, 0), BAD);
        }
        for (int y : new int[] {-1, h, LEAST_INT, GREATEST_INT}) {
            refused("carves(0, 0, " + y + ")", b -> b.carves(0, 0, y), BAD);
            refused("cell(0, " + y + ", 1)", b -> b.cell(0, y, 1), BAD);
        }
        for (int what : new int[] {-1, 3, LEAST_INT, GREATEST_INT}) {
            refused("cell(0, 0, " + what + ")", b -> b.cell(0, 0, what), BAD);
        }
    }

    /** Part 3: "(Nothing is changed.)", and so it is with all calls that tell how it is. */
    private static void lookingChangesNothing() {
        scene("looked at", b -> {
            type(b, "d1;c2;c4;r21;r35;");
            b.tells();
            b.swaps(0, 2);
            b.keep(0);
            b.carves(0, 1, 1);
            b.carves(1, 1, 1);
            b.slips(1, 1, 0);
            b.slips(2, -1, -1);
            b.sees(1, 1, 1);
            type(b, "r57;c3;");
        });
        List<String> before = allThatIsHeld(b -> { });
        List<String> behind = allThatIsHeld(b -> View.of(b));
        String unlike = View.unlike(before, behind);
        due.holds("looking changes nothing, but " + unlike, unlike.isEmpty());
    }
}
