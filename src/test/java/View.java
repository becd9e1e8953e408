import java.util.ArrayList;
import java.util.List;

/**
 * All that the calls which only look answer of an object, a line each: at most some 240 calls, so that
 * an object that is viewed once stays below the 512 calls that the document speaks of.
 */
final class View {
    private View() {
    }

    static List<String> of(SlippedBlocks b) {
        List<String> lines = new ArrayList<>();
        for (int what = 0; what <= 8; what++) {
            lines.add("count(" + what + ") " + b.count(what));
        }
        int w = b.count(0);
        int h = b.count(1);
        int inks = b.count(2);
        for (int y = 0; y < h; y++) {
            for (int x = 0; x < w; x++) {
                for (int what = 0; what <= 2; what++) {
                    lines.add("cell(" + x + ", " + y + ", " + what + ") " + b.cell(x, y, what));
                }
            }
        }
        for (int ink = 0; ink < inks; ink++) {
            for (int what = 0; what <= 5; what++) {
                lines.add("ink(" + ink + ", " + what + ") " + b.ink(ink, what));
            }
            lines.add("hurt(" + ink + ") " + b.hurt(ink));
        }
        for (int set = 0; set < 1 << inks; set++) {
            lines.add("made(" + set + ") " + b.made(set));
        }
        for (int i = -1; i <= inks; i++) {
            lines.add("order(" + i + ") " + b.order(i));
        }
        for (int what = 0; what <= 1; what++) {
            lines.add("least(" + what + ") " + b.least(what));
            lines.add("which(" + what + ") " + b.which(what));
        }
        lines.add("wrong() " + b.wrong());
        lines.add("ask() " + b.ask());
        return lines;
    }

    /** The first line in which two views are unlike, or an empty text. */
    static String unlike(List<String> one, List<String> other) {
        for (int i = 0; i < Math.min(one.size(), other.size()); i++) {
            if (!one.get(i).equals(other.get(i))) {
                return one.get(i) + " became " + other.get(i);
            }
        }
        return one.size() == other.size() ? "" : one.size() + " lines became " + other.size();
    }
}
