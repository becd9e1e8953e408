import java.util.ArrayList;
import java.util.List;

/** What the document says, in the slowest and plainest way: it shares no thought with the class. */
final class PlainModel {
    private static final int BAD = -1, STATE = -2, FULL = -3, NONE = -9, NO = -1000000, NOT = -2000000;

    /** All that part 1 tells but the text. */
    private static final class State {
        int[][] picture = {{0}};
        List<Integer> colour = new ArrayList<>();
        List<Boolean> dense = new ArrayList<>();
        List<Integer> order = new ArrayList<>();
        List<boolean[][]> blocks = new ArrayList<>();
        List<int[]> slips = new ArrayList<>();

        State copy() {
            State s = new State();
            s.picture = new int[picture.length][];
            for (int y = 0; y < picture.length; y++) {
                s.picture[y] = picture[y].clone();
            }
            s.colour = new ArrayList<>(colour);
            s.dense = new ArrayList<>(dense);
            s.order = new ArrayList<>(order);
            for (boolean[][] block : blocks) {
                boolean[][] b = new boolean[6][];
                for (int y = 0; y < 6; y++) {
                    b[y] = block[y].clone();
                }
                s.blocks.add(b);
            }
            for (int[] slip : slips) {
                s.slips.add(slip.clone());
            }
            return s;
        }

        int w() {
            return picture[0].length;
        }

        int h() {
            return picture.length;
        }

        int n() {
            return colour.size();
        }

        boolean cell(int x, int y) {
            return x >= 0 && y >= 0 && x < w() && y < h();
        }

        int on(int paper, int ink) {
            return dense.get(ink) ? colour.get(ink) : paper | colour.get(ink);
        }

        int[][] proof() {
            int[][] p = new int[h()][w()];
            for (int ink : order) {
                for (int y = 0; y < h(); y++) {
                    for (int x = 0; x < w(); x++) {
                        int px = x + slips.get(ink)[0];
                        int py = y + slips.get(ink)[1];
                        if (blocks.get(ink)[y][x] && cell(px, py)) {
                            p[py][px] = on(p[py][px], ink);
                        }
                    }
                }
            }
            return p;
        }

        int wrong() {
            int[][] p = proof();
            int wrong = 0;
            for (int y = 0; y < h(); y++) {
                for (int x = 0; x < w(); x++) {
                    if (p[y][x] != picture[y][x]) {
                        wrong++;
                    }
                }
            }
            return wrong;
        }

        int printAll(int set, List<Integer> row) {
            int c = 0;
            for (int ink : row) {
                if ((set & 1 << ink) != 0) {
                    c = on(c, ink);
                }
            }
            return c;
        }

        boolean[] made(int set, List<Integer> row) {
            boolean[] made = new boolean[8];
            for (int sub = 0; sub <= set; sub++) {
                if ((sub & set) == sub) {
                    made[printAll(sub, row)] = true;
                }
            }
            return made;
        }

        int leastBits(List<Integer> row) {
            for (int many = 0; many <= n(); many++) {
                for (int set = 0; set < 1 << n(); set++) {
                    if (Integer.bitCount(set) == many && can(set, row)) {
                        return set;
                    }
                }
            }
            return NONE;
        }

        boolean can(int set, List<Integer> row) {
            boolean[] made = made(set, row);
            for (int[] line : picture) {
                for (int c : line) {
                    if (!made[c]) {
                        return false;
                    }
                }
            }
            return true;
        }
    }

    private State now = new State();
    private String text = "";
    private final List<State> past = new ArrayList<>();
    private final State[] images = new State[2];
    private final List<int[]> seen = new ArrayList<>();

    private boolean isInk(int ink) {
        return ink >= 0 && ink < now.n();
    }

    private void done() {
        past.add(now.copy());
        if (past.size() > 6) {
            past.remove(0);
        }
    }

    int type(int letter) {
        if (letter < 0 || letter > 255) {
            return BAD;
        }
        if (text.length() == 100) {
            return FULL;
        }
        text += (char) letter;
        return text.length();
    }

    int clear() {
        int had = text.length();
        text = "";
        return had;
    }

    /** The grammar as a pattern: the text can go on as long as it is the start of one that it allows. */
    int tells() {
        int[] place = new int[text.length()];
        StringBuilder tokens = new StringBuilder();
        for (int i = 0; i < text.length(); i++) {
            if (text.charAt(i) != ' ') {
                place[tokens.length()] = i;
                tokens.append(text.charAt(i));
            }
        }
        for (int i = 1; i <= tokens.length(); i++) {
            if (!canGoOn(tokens.substring(0, i))) {
                return -10 - place[i - 1];
            }
        }
        String all = tokens.toString();
        if (!all.endsWith(";") || all.indexOf('r') < 0) {
            return -10 - text.length();
        }
        State s = new State();
        List<int[]> rows = new ArrayList<>();
        String[] items = all.split(";");
        for (String item : items) {
            if (item.charAt(0) == 'r') {
                int[] row = new int[item.length() - 1];
                for (int x = 0; x < row.length; x++) {
                    row[x] = item.charAt(x + 1) - '0';
                }
                rows.add(row);
            } else {
                s.order.add(s.n());
                s.colour.add(item.charAt(1) - '0');
                s.dense.add(item.charAt(0) == 'd');
                s.blocks.add(new boolean[6][6]);
                s.slips.add(new int[2]);
            }
        }
        s.picture = rows.toArray(new int[0][]);
        done();
        now = s;
        text = "";
        seen.clear();
        images[0] = null;
        images[1] = null;
        return items.length;
    }

    private static boolean canGoOn(String start) {
        String[] items = start.split(";", -1);
        int inks = 0;
        int rows = 0;
        int width = -1;
        for (int i = 0; i < items.length; i++) {
            boolean last = i == items.length - 1;
            String item = items[i];
            if (last && item.isEmpty()) {
                return true;
            }
            if (!item.matches(last ? "[cd][1-7]?|r[0-7]{0,6}" : "[cd][1-7]|r[0-7]{1,6}")) {
                return false;
            }
            if (item.charAt(0) == 'r') {
                rows++;
                int figures = item.length() - 1;
                if (width >= 0 && (last ? figures > width : figures != width)) {
                    return false;
                }
                if (width < 0) {
                    width = figures;
                }
            } else {
                inks++;
            }
            if (inks > 6 || rows > 6) {
                return false;
            }
        }
        return true;
    }

    int cuts() {
        int least = now.leastBits(now.order);
        if (least == NONE) {
            return STATE;
        }
        done();
        for (int ink = 0; ink < now.n(); ink++) {
            now.slips.set(ink, new int[2]);
        }
        for (int y = 0; y < now.h(); y++) {
            for (int x = 0; x < now.w(); x++) {
                int set = 0;
                while ((set & ~least) != 0 || now.printAll(set, now.order) != now.picture[y][x]) {
                    set++;
                }
                for (int ink = 0; ink < now.n(); ink++) {
                    now.blocks.get(ink)[y][x] = (set & 1 << ink) != 0;
                }
            }
        }
        return Integer.bitCount(least);
    }

    int carves(int ink, int x, int y) {
        if (!isInk(ink) || !now.cell(x, y)) {
            return BAD;
        }
        done();
        now.blocks.get(ink)[y][x] = !now.blocks.get(ink)[y][x];
        return now.blocks.get(ink)[y][x] ? 1 : 0;
    }

    int slips(int ink, int dx, int dy) {
        if (!isInk(ink) || dx < -1 || dy < -1 || dx > 1 || dy > 1) {
            return BAD;
        }
        int[] slip = now.slips.get(ink);
        if (slip[0] == dx && slip[1] == dy) {
            return STATE;
        }
        done();
        now.slips.set(ink, new int[] {dx, dy});
        return 1;
    }

    int swaps(int ink, int other) {
        if (!isInk(ink) || !isInk(other) || ink == other) {
            return BAD;
        }
        done();
        int a = now.order.indexOf(ink);
        int b = now.order.indexOf(other);
        now.order.set(a, other);
        now.order.set(b, ink);
        return now.wrong();
    }

    int undo() {
        if (past.isEmpty()) {
            return STATE;
        }
        now = past.remove(past.size() - 1);
        return past.size();
    }

    int cell(int x, int y, int what) {
        if (!now.cell(x, y) || what < 0 || what > 2) {
            return BAD;
        }
        if (what < 2) {
            return what == 0 ? now.picture[y][x] : now.proof()[y][x];
        }
        int set = 0;
        for (int ink = 0; ink < now.n(); ink++) {
            set += now.blocks.get(ink)[y][x] ? 1 << ink : 0;
        }
        return set;
    }

    int ink(int ink, int what) {
        if (!isInk(ink) || what < 0 || what > 5) {
            return NO;
        }
        int[] all = {now.colour.get(ink), now.dense.get(ink) ? 1 : 0, now.order.indexOf(ink), cells(ink),
            now.slips.get(ink)[0], now.slips.get(ink)[1]};
        return all[what];
    }

    private int cells(int ink) {
        int cells = 0;
        for (boolean[] line : now.blocks.get(ink)) {
            for (boolean of : line) {
                cells += of ? 1 : 0;
            }
        }
        return cells;
    }

    int made(int set) {
        if (set < 0 || set >= 1 << now.n()) {
            return BAD;
        }
        boolean[] made = now.made(set, now.order);
        int colours = 0;
        for (int c = 0; c < 8; c++) {
            colours += made[c] ? 1 << c : 0;
        }
        return colours;
    }

    int least(int what) {
        if (what != 0 && what != 1) {
            return BAD;
        }
        int least = now.leastBits(now.order);
        return least == NONE || what == 1 ? least : Integer.bitCount(least);
    }

    int order(int i) {
        if (i < -1) {
            return BAD;
        }
        List<List<Integer>> rows = new ArrayList<>();
        allRows(new ArrayList<>(), rows);
        int fewest = NONE;
        List<Integer> best = List.of();
        for (List<Integer> row : rows) {
            int least = now.leastBits(row);
            if (least != NONE && (fewest == NONE || Integer.bitCount(least) < fewest)) {
                fewest = Integer.bitCount(least);
                best = row;
            }
        }
        if (i == -1) {
            return fewest;
        }
        return i < best.size() ? best.get(i) : NONE;
    }

    /** Every row of all inks, by numbers. */
    private void allRows(List<Integer> start, List<List<Integer>> rows) {
        if (start.size() == now.n()) {
            rows.add(new ArrayList<>(start));
        }
        for (int ink = 0; ink < now.n(); ink++) {
            if (!start.contains(ink)) {
                start.add(ink);
                allRows(start, rows);
                start.remove(start.size() - 1);
            }
        }
    }

    int wrong() {
        return now.wrong();
    }

    int hurt(int ink) {
        if (!isInk(ink)) {
            return NO;
        }
        State s = now.copy();
        s.slips.get(ink)[0] = new int[] {0, 1, 0}[s.slips.get(ink)[0] + 1];
        return s.wrong() - now.wrong();
    }

    int sees(int x, int y, int colour) {
        if (x < 0 || y < 0 || x > 5 || y > 5 || colour < 0 || colour > 7) {
            return BAD;
        }
        if (seen.size() == 6) {
            return FULL;
        }
        seen.add(new int[] {x, y, colour});
        return seen.size();
    }

    int forget() {
        int had = seen.size();
        seen.clear();
        return had;
    }

    /** The numbers of those that may be, and their proofs. */
    private List<Integer> may(List<int[][]> proofs) {
        List<Integer> may = new ArrayList<>();
        for (int number = -1; number < 9 * now.n(); number++) {
            State s = now.copy();
            if (number >= 0) {
                int[] slip = s.slips.get(number / 9);
                int dy = number % 9 / 3 - 1;
                int dx = number % 3 - 1;
                if (slip[0] == dx && slip[1] == dy) {
                    continue;
                }
                slip[0] = dx;
                slip[1] = dy;
            }
            int[][] p = s.proof();
            boolean so = true;
            for (int[] look : seen) {
                so &= s.cell(look[0], look[1]) && p[look[1]][look[0]] == look[2];
            }
            if (so) {
                may.add(number);
                proofs.add(p);
            }
        }
        return may;
    }

    int which(int what) {
        if (what != 0 && what != 1) {
            return NO;
        }
        List<Integer> may = may(new ArrayList<>());
        if (what == 0) {
            return may.size();
        }
        return may.isEmpty() ? NOT : may.get(0);
    }

    int ask() {
        List<int[][]> proofs = new ArrayList<>();
        if (may(proofs).size() <= 1) {
            return NONE;
        }
        int best = NONE;
        int bestMost = Integer.MAX_VALUE;
        for (int number = 0; number < 36; number++) {
            int x = number % 6;
            int y = number / 6;
            if (!now.cell(x, y)) {
                continue;
            }
            int most = 0;
            for (int c = 0; c < 8; c++) {
                int give = 0;
                for (int[][] p : proofs) {
                    give += p[y][x] == c ? 1 : 0;
                }
                most = Math.max(most, give);
            }
            if (most < bestMost) {
                best = number;
                bestMost = most;
            }
        }
        return best;
    }

    int keep(int image) {
        if (image != 0 && image != 1) {
            return BAD;
        }
        images[image] = now.copy();
        return now.n();
    }

    int back(int image) {
        if (image != 0 && image != 1) {
            return BAD;
        }
        if (images[image] == null) {
            return STATE;
        }
        now = images[image].copy();
        past.clear();
        return now.n();
    }

    int count(int what) {
        int cells = 0;
        int slipped = 0;
        for (int ink = 0; ink < now.n(); ink++) {
            cells += cells(ink);
            slipped += now.slips.get(ink)[0] != 0 || now.slips.get(ink)[1] != 0 ? 1 : 0;
        }
        int colours = 0;
        for (int[] line : now.picture) {
            for (int c : line) {
                colours |= 1 << c;
            }
        }
        int[] all = {now.w(), now.h(), now.n(), colours, cells, slipped, seen.size(), text.length(), past.size()};
        return what >= 0 && what < all.length ? all[what] : BAD;
    }
}
