import java.util.Random;

/** Long runs of calls, the same each time, on the class and on the plain model. */
public final class ModelTest {
    private static final int RUNS = 1200;
    private static final int CALLS = 512;
    private static final Due due = new Due();

    private final Random random;
    private final SlippedBlocks real = new SlippedBlocks();
    private final PlainModel model = new PlainModel();
    private final StringBuilder told = new StringBuilder();
    private int calls = 0;

    private ModelTest(int run) {
        random = new Random(run);
        told.append("run ").append(run).append(':');
    }

    public static void main(String[] args) {
        for (int run = 0; run < RUNS && !due.anyWrong(); run++) {
            ModelTest test = new ModelTest(run);
            while (test.calls < CALLS && !due.anyWrong()) {
                test.step(run);
            }
        }
        due.end();
    }

    private void same(String call, int got, int want) {
        calls++;
        told.append(' ').append(call);
        due.is(got == want ? call : told.toString(), got, want);
    }

    /** Mostly within the bounds, sometimes one off, seldom anything. */
    private int number(int low, int high) {
        int chance = random.nextInt(200);
        if (chance == 0) {
            return random.nextInt();
        }
        if (chance < 6) {
            return chance % 2 == 0 ? low - 1 : high + 1;
        }
        return low + random.nextInt(high - low + 1);
    }

    private int anInk() {
        return number(0, Math.max(0, model.count(2) - 1));
    }

    private int anX() {
        return number(0, model.count(0) - 1);
    }

    private int aY() {
        return number(0, model.count(1) - 1);
    }

    private void step(int run) {
        int chance = random.nextInt(100);
        if (calls == 0 || chance < 2) {
            aText(run);
        } else if (chance < 40) {
            doing();
        } else if (chance < 70) {
            looking();
        } else {
            searching();
        }
    }

    private void aText(int run) {
        String text = text(run);
        if (calls + text.length() + 2 > CALLS) {
            calls = CALLS;
            return;
        }
        for (int i = 0; i < text.length(); i++) {
            int letter = text.charAt(i);
            same("type(" + letter + ")", real.type(letter), model.type(letter));
        }
        same("tells()", real.tells(), model.tells());
        if (random.nextInt(3) > 0) {
            same("clear()", real.clear(), model.clear());
        }
    }

    private String text(int run) {
        StringBuilder text = new StringBuilder();
        int inks = random.nextInt(10) == 0 ? 7 : random.nextInt(7);
        int rows = random.nextInt(20) == 0 ? 7 : 1 + random.nextInt(run % 3 == 0 ? 6 : 3);
        int width = random.nextInt(30) == 0 ? 7 : 1 + random.nextInt(run % 3 == 0 ? 6 : 3);
        int palette = random.nextInt(256);
        while (inks + rows > 0) {
            if (random.nextInt(inks + rows) < inks) {
                inks--;
                text.append(random.nextInt(3) == 0 ? 'd' : 'c').append((char) ('1' + random.nextInt(7))).append(';');
            } else {
                rows--;
                text.append('r');
                for (int x = 0; x < width; x++) {
                    text.append((char) ('0' + aColour(palette)));
                }
                text.append(';');
            }
        }
        spoil(text);
        return text.toString();
    }

    /** Colours of a few alone, so that some inks can make them all. */
    private int aColour(int palette) {
        int colour = random.nextInt(8);
        return (palette >> colour & 1) != 0 ? colour : 0;
    }

    private void spoil(StringBuilder text) {
        if (random.nextInt(2) == 0) {
            for (int i = random.nextInt(6); i > 0; i--) {
                text.insert(random.nextInt(text.length() + 1), ' ');
            }
        }
        if (random.nextInt(3) == 0) {
            String signs = "cdr;01234567890189x C";
            int at = random.nextInt(text.length());
            char sign = signs.charAt(random.nextInt(signs.length()));
            switch (random.nextInt(4)) {
                case 0:
                    text.setCharAt(at, sign);
                    break;
                case 1:
                    text.insert(at, sign);
                    break;
                case 2:
                    text.deleteCharAt(at);
                    break;
                default:
                    text.setLength(at);
                    break;
            }
        }
    }

    private void doing() {
        int a = anInk();
        int b = anInk();
        int x = anX();
        int y = aY();
        int dx = number(-1, 1);
        int dy = number(-1, 1);
        int image = number(0, 1);
        switch (random.nextInt(12)) {
            case 0:
                same("cuts()", real.cuts(), model.cuts());
                break;
            case 1:
            case 2:
            case 3:
                same("carves(" + a + ", " + x + ", " + y + ")", real.carves(a, x, y), model.carves(a, x, y));
                break;
            case 4:
            case 5:
            case 6:
                same("slips(" + a + ", " + dx + ", " + dy + ")", real.slips(a, dx, dy), model.slips(a, dx, dy));
                break;
            case 7:
            case 8:
                same("swaps(" + a + ", " + b + ")", real.swaps(a, b), model.swaps(a, b));
                break;
            case 9:
                same("undo()", real.undo(), model.undo());
                break;
            case 10:
                same("keep(" + image + ")", real.keep(image), model.keep(image));
                break;
            default:
                if (random.nextInt(3) == 0) {
                    same("back(" + image + ")", real.back(image), model.back(image));
                }
                break;
        }
    }

    private void looking() {
        int ink = anInk();
        int x = anX();
        int y = aY();
        int ofCell = number(0, 2);
        int ofInk = number(0, 5);
        int ofAll = number(0, 8);
        int letter = number(0, 255);
        switch (random.nextInt(12)) {
            case 0:
                same("type(" + letter + ")", real.type(letter), model.type(letter));
                break;
            case 1:
                same("clear()", real.clear(), model.clear());
                break;
            case 2:
            case 3:
            case 4:
                same("cell(" + x + ", " + y + ", " + ofCell + ")", real.cell(x, y, ofCell), model.cell(x, y, ofCell));
                break;
            case 5:
            case 6:
                same("ink(" + ink + ", " + ofInk + ")", real.ink(ink, ofInk), model.ink(ink, ofInk));
                break;
            case 7:
                same("wrong()", real.wrong(), model.wrong());
                break;
            case 8:
            case 9:
                same("hurt(" + ink + ")", real.hurt(ink), model.hurt(ink));
                break;
            default:
                same("count(" + ofAll + ")", real.count(ofAll), model.count(ofAll));
                break;
        }
    }

    private void searching() {
        int set = number(0, (1 << model.count(2)) - 1);
        int what = number(0, 1);
        int place = number(-1, model.count(2));
        switch (random.nextInt(12)) {
            case 0:
            case 1:
                same("made(" + set + ")", real.made(set), model.made(set));
                break;
            case 2:
                same("least(" + what + ")", real.least(what), model.least(what));
                break;
            case 3:
                if (model.count(2) < 6 || random.nextInt(4) == 0) {
                    same("order(" + place + ")", real.order(place), model.order(place));
                }
                break;
            case 4:
            case 5:
            case 6:
                aSight();
                break;
            case 7:
                if (random.nextInt(3) == 0) {
                    same("forget()", real.forget(), model.forget());
                }
                break;
            case 8:
            case 9:
                same("which(" + what + ")", real.which(what), model.which(what));
                break;
            default:
                same("ask()", real.ask(), model.ask());
                break;
        }
    }

    /** Mostly what the proof has there, so that not all is ruled out at once. */
    private void aSight() {
        int x = random.nextInt(8) == 0 ? number(0, 5) : anX();
        int y = random.nextInt(8) == 0 ? number(0, 5) : aY();
        int there = model.cell(x, y, 1);
        int colour = there >= 0 && random.nextInt(4) > 0 ? there : number(0, 7);
        same("sees(" + x + ", " + y + ", " + colour + ")", real.sees(x, y, colour), model.sees(x, y, colour));
    }
}
