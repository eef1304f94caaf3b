import java.util.ArrayList;
import java.util.HashMap;
import java.util.List;
import java.util.Map;
import java.util.function.ToLongFunction;

/**
 * Each sentence of the document that names a boundary, by a test of its own: too small, too large, empty, full, a
 * wrap-around, a refused call. What is refused (and what is only asked) must leave all as in an object of which it
 * was never asked.
 */
public final class BoundariesTest {
    private static final int BAD = TuneWard.BAD, STATE = TuneWard.STATE, FULL = TuneWard.FULL, NONE = TuneWard.NONE;
    private static final int LEAST = Integer.MIN_VALUE, MOST = Integer.MAX_VALUE;
    private static final int[] NEITHER_0_NOR_1 = outside(0, 1);

    /** As many of each as there may be, all numbers at their bounds somewhere, in 159 bytes. */
    private static final String FULL_HOUSE = "plain1 0 1 2 3 4 5 6 7 8;rondo9 9 9;fugue2 3 0;lullaby3 1 5;"
            + "player9 99 9 3;player0 1 0 0;player5 9 2 1;player9 9 1 2;bound0;bound1;bound2;bound3;bound0;bound3;";
    /** Fewer than there may be: here a number can be too large that elsewhere is not. */
    private static final String SMALL_HOUSE = "plain 2 0 3 5;rondo 1 1 4;player 9 9 1 0;bound 1;";
    private static final String NO_HOUSE = "";

    private static final Map<String, List<Long>> TWINS = new HashMap<>();

    private interface Call {
        long by(TuneWard x, int v);
    }

    public static void main(String[] args) {
        theNewObject();
        theTape();
        theText();
        theFault();
        whatThereIs();
        whatThereIsNot();
        whatIsChanged();
        aPlaying();
        whatIsBest();
        strings();
        whatIsSeen();
        bySeed();
        imagesAndSheets();
        reading();
        counting();
        Checks.close();
    }

    // ---- what the tests share

    private static void due(String what, long got, long want) {
        Checks.due(what, got, want);
    }

    private static int[] outside(int low, int high) {
        return new int[] {LEAST, low - 1, high + 1, MOST};
    }

    private static TuneWard told(String bytes) {
        return Checks.told(bytes);
    }

    private static void type(TuneWard x, String bytes) {
        for (int i = 0; i < bytes.length(); i++) {
            x.feed(bytes.charAt(i));
        }
    }

    /** An object with something of everything that a refused call could harm. */
    private static TuneWard inUse(String house) {
        TuneWard x = new TuneWard();
        type(x, house);
        x.text();
        type(x, "bound 9;");
        x.text();
        x.keep(0);
        x.see(0, 0, 1);
        x.see(1, 9, NONE);
        int[] sizes = {40, 7, 0};
        for (int k = 0; k < sizes.length; k++) {
            x.sheet(k, k, sizes[k]);
        }
        int[] cells = {0, 1, 1, 2, 0, 1, 1};
        for (int i = 0; i < cells.length; i++) {
            x.lay(1, i, cells[i]);
        }
        x.read(1, 0, 0, 1);
        type(x, "plain 2 7;");
        return x;
    }

    /** All that can be asked of an object; at the end also what can only be found by changing it. */
    private static List<Long> everything(TuneWard x) {
        List<Long> all = whatStands(x);
        all.add((long) x.torn());
        all.add((long) x.fault());
        for (int k = 0; k < 4; k++) {
            for (int lane = 0; lane < 3; lane++) {
                all.add((long) x.read(k, lane, 0, 2));
                all.add((long) x.torn());
            }
            all.add((long) x.lay(k, 6, 1));
            all.add((long) x.bound(0));
            all.add((long) x.bound(1));
        }
        all.add((long) x.back(1));
        all.add((long) x.back(0));
        all.addAll(whatStands(x));
        all.add((long) x.text());
        all.add((long) x.fault());
        return all;
    }

    private static List<Long> whatStands(TuneWard x) {
        List<Long> all = new ArrayList<>();
        for (int a = 0; a < 6; a++) {
            all.add((long) x.rule(a));
            all.add((long) x.bound(a));
            all.add((long) x.count(a));
            for (int b = 0; b < 4; b++) {
                all.add((long) x.tune(b, a));
                all.add((long) x.player(b, a));
            }
        }
        for (int t = 0; t < 4; t++) {
            all.add((long) x.fits(t));
            for (int i = 0; i < 8; i++) {
                all.add((long) x.note(t, i));
            }
        }
        return all;
    }

    private static void sameAs(String what, TuneWard x, List<Long> twin) {
        due("all stands behind " + what, everything(x).equals(twin) ? 1 : 0, 1);
    }

    /** Asks an object in use; behind it all must be as in its twin. */
    private static void leavesAll(String house, String call, long want, ToLongFunction<TuneWard> asked) {
        if (!TWINS.containsKey(house)) {
            TWINS.put(house, everything(inUse(house)));
        }
        TuneWard x = inUse(house);
        due(call, asked.applyAsLong(x), want);
        sameAs(call, x, TWINS.get(house));
    }

    private static void refused(String call, long want, ToLongFunction<TuneWard> asked) {
        leavesAll(FULL_HOUSE, call, want, asked);
    }

    private static void bad(String house, String call, int[] values, Call asked) {
        for (int v : values) {
            leavesAll(house, call + " by " + v, BAD, x -> asked.by(x, v));
        }
    }

    private static void bad(String call, int[] values, Call asked) {
        bad(FULL_HOUSE, call, values, asked);
    }

    private static void answers(String call, TuneWard x, Call asked, long... wants) {
        for (int v = 0; v < wants.length; v++) {
            due(call + " by " + v, asked.by(x, v), wants[v]);
        }
    }

    // ---- promises 1 to 5

    // "No TUNES, nobody; SHEETS have nothing."
    private static void theNewObject() {
        TuneWard x = new TuneWard();
        answers("rule of a new object", x, TuneWard::rule, 0, 0, 0, BAD);
        answers("count of a new object", x, TuneWard::count, 0, 0, 0, NONE, 0, 0, BAD);
        answers("sum of a new object", x, TuneWard::sum, 0, 0, 0, 0, BAD);
        answers("SHEETS have nothing: lay", x, (y, k) -> y.lay(k, 0, 0), -11, -11, -11, -11, BAD);
        for (int k = 0; k < 4; k++) {
            due("torn of a new object", new TuneWard().torn(), 0);
            due("SHEETS have nothing: read", x.read(k, k % 3, 0, 1), 0);
            due("SHEETS have nothing: torn", x.torn(), 1);
        }
        answers("no IMAGES", x, TuneWard::back, STATE, STATE, BAD);
        due("no FAULT", x.fault(), 0);
        due("an empty TAPE", x.end(0), 0);
        due("an empty text", x.text(), 0);
        due("the first of SEEN needs a TUNE", x.see(0, 0, 0), BAD);
        due("none is SEEN", x.forget(0), 0);
        due("none is SEEN", x.forget(1), BAD);
        for (int m : new int[] {0, 159}) {
            due("nothing sounds", x.sounds(m), 0);
        }
    }

    private static void theTape() {
        bad("feed", outside(0, 127), TuneWard::feed);
        bad("end", outside(0, 10), TuneWard::end);
        bad(NO_HOUSE, "end", outside(0, 10), TuneWard::end);
        TuneWard x = new TuneWard();
        due("no byte: end(1)", x.end(1), BAD);
        due("no byte: end(0)", x.end(0), 0);
        due("the least byte", x.feed(0), 1);
        due("the greatest byte", x.feed(127), 2);
        due("all are kept", x.end(2), 2);
        due("one is kept", x.end(1), 2);
        due("none is kept", x.end(0), 1);
        TuneWard full = new TuneWard();
        type(full, FULL_HOUSE);
        due("159 bytes", full.count(2), 159);
        due("the 160th byte", full.feed(';'), 160);
        due("the 161st byte", full.feed(' '), FULL);
        due("BAD is ahead of FULL", full.feed(128), BAD);
        due("BAD is ahead of FULL", full.feed(-1), BAD);
        due("the 161st is not there", full.count(2), 160);
        due("end(161)", full.end(161), BAD);
        due("end(160)", full.end(160), 160);
        due("end(159)", full.end(159), 160);
        due("there is room again", full.feed(' '), 160);
        due("a TAPE that is full is told", full.text(), 14);
        due("room for a whole TAPE", full.feed(' '), 1);
        whatIsCutOff();
    }

    // "THE TAPE keeps its first n bytes": no byte behind them is told
    private static void whatIsCutOff() {
        String[] whole = {"plain 1 0 1;;", "plain 1 0 12", "plain 1 0  ;", "plainx", "plain!"};
        int[] kept = {12, 11, 10, 5, 5};
        int[] answers = {1, -21, -20, -15, -15};
        for (int i = 0; i < whole.length; i++) {
            TuneWard x = new TuneWard();
            type(x, whole[i]);
            due("the end is cut off " + whole[i], x.end(kept[i]), whole[i].length());
            due("what is cut off is not told " + whole[i], x.text(), answers[i]);
            due("the end is what can not stand there " + whole[i], x.fault(), i == 0 ? 0 : 2);
            type(x, whole[i].substring(0, kept[i]));
            due("nor what an earlier text had " + whole[i], x.text(), answers[i]);
        }
        TuneWard x = new TuneWard();
        type(x, "plain 1 0 1 9;");
        x.text();
        type(x, "plain 1 0 1;bound 0;");
        x.end(12);
        type(x, "bound 0; ");
        due("what comes in its place is told", x.text(), 2);
        due("NOTES of the later text alone", x.tune(0, 1), 1);
    }

    private static void theText() {
        TuneWard x = inUse(FULL_HOUSE);
        due("a FAULT at the end", x.text(), -19);
        due("by a FAULT THE TAPE is empty, too", x.count(2), 0);
        TuneWard twin = inUse(FULL_HOUSE);
        twin.end(0);
        twin.text();
        due("an empty text tells nothing in place of all", twin.rule(0) + twin.rule(1) + twin.rule(2), 0);
        due("nothing is SEEN", twin.count(0), 0);
        due("IMAGES are gone", twin.count(1), 0);
        due("IMAGES are gone", twin.back(0), STATE);
        due("SHEETS stay", twin.count(3), 40);
        due("the latest read() stays", twin.torn(), 3);
        TuneWard left = inUse(FULL_HOUSE);
        left.end(0);
        List<Long> before = whatStands(left);
        type(left, "plain 1 0 1;bound 1;");
        due("a FAULT behind all", left.text(), -30);
        due("that which was told stays", whatStands(left).equals(before) ? 1 : 0, 1);
        due("IMAGES stay by a FAULT", left.back(0), 11);
        blanks();
        namesOfLines();
        bytesOfTokens();
        numbersOfLines();
    }

    private static int lines(String bytes) {
        TuneWard x = new TuneWard();
        type(x, bytes);
        return x.text();
    }

    private static void faulty(String bytes, int fault, int place) {
        TuneWard x = inUse(SMALL_HOUSE);
        x.end(0);
        List<Long> before = whatStands(x);
        type(x, bytes);
        due("text of " + bytes, x.text(), -10 - place);
        due("fault of " + bytes, x.fault(), fault);
        due("all stands behind " + bytes, whatStands(x).equals(before) ? 1 : 0, 1);
    }

    // "any number of blanks (32) ahead of, between, behind them (one at least between two NAMES, ...)"
    private static void blanks() {
        due("none but where they are needed", lines("plain1 0 1;player1 1 1 0;bound0;"), 3);
        due("many everywhere", lines("   plain   1   0   1   ;   bound   0   ;   "), 2);
        due("blanks alone", lines("   "), 0);
        due("one blank alone", lines(" "), 0);
        due("160 blanks", lines(" ".repeat(160)), 0);
        faulty("plain1 01;", 2, 9);
        faulty("boundbound0;", 2, 0);
        faulty("rondo1 0 1;b ound0;", 2, 11);
        faulty("rondo1 0 1;bound0 0;", 2, 18);
    }

    // "a NAME that begins no line": one sign other, too few, too many
    private static void namesOfLines() {
        String[] names = {"plain", "rondo", "fugue", "lullaby", "player", "bound"};
        String[] numbers = {" 1 0 1;", " 1 0 1;", " 1 0 1;", " 1 0 1;", " 1 1 1 0;", " 0;"};
        for (int i = 0; i < names.length; i++) {
            due("a line of " + names[i], lines("plain 1 0 1;" + names[i] + numbers[i]), 2);
            for (int at = 0; at < names[i].length(); at++) {
                String other = names[i].substring(0, at) + "z" + names[i].substring(at + 1);
                faulty(" " + other + numbers[i], 2, 1);
            }
            faulty(names[i].substring(1) + numbers[i], 2, 0);
            faulty(names[i].substring(0, names[i].length() - 1) + numbers[i], 2, 0);
            faulty(names[i] + "s" + numbers[i], 2, 0);
            faulty(names[i] + " " + names[i] + numbers[i], 2, names[i].length() + 1);
            endOfALine(names[i] + numbers[i].substring(0, numbers[i].length() - 1));
        }
        // A TOKEN is read when the one before has been taken.
        faulty("march!", 2, 0);
        faulty("plain 0!", 3, 6);
        faulty("plain 1 0 10!", 3, 10);
        faulty("player 9 99 9 4!", 3, 14);
        faulty("bound 4!", 3, 6);
        faulty("bound 3;!", 1, 8);
    }

    /** What can not stand where a line is to have its sign. */
    private static void endOfALine(String line) {
        faulty(line + " plain 1 0 1;", 2, line.length() + 1);
        faulty(line + "!", 1, line.length());
        faulty(line + " 123", 1, line.length() + 1);
        faulty(line + ";;", 2, line.length() + 1);
        if (!line.endsWith("1")) {
            faulty(line + " 0;", 2, line.length() + 1);
        }
    }

    // "NAMES (a .. z), NUMBERS (1 or 2 figures), the sign ; (every other byte is no TOKEN)."
    private static void bytesOfTokens() {
        for (int c = 0; c < 128; c++) {
            boolean name = c >= 'a' && c <= 'z';
            boolean other = c >= '0' && c <= '9' || c == ';';
            String byteAlone = String.valueOf((char) c);
            if (c == ' ') {
                due("a blank", lines(byteAlone), 0);
            } else {
                faulty(byteAlone, name || other ? 2 : 1, 0);
                faulty("!" + byteAlone, 1, 0);
                faulty(";" + byteAlone, 2, 0);
                behindAName(byteAlone, name, other);
            }
        }
        faulty("123", 1, 0);
        faulty("000", 1, 0);
        faulty("12", 2, 0);
        faulty("plain 1 0 001;", 1, 10);
        due("2 figures", lines("plain 09 00 01;"), 1);
        faulty("plain 1 0 1;" + "x".repeat(148), 2, 12);
        faulty("plain 1 0 1;" + "1".repeat(148), 1, 12);
    }

    /** A byte behind "plain": more of the NAME, a NUMBER (as TIMES), or what can not stand there. */
    private static void behindAName(String byteAlone, boolean name, boolean other) {
        boolean number = other && !byteAlone.equals(";");
        if (name) {
            faulty("plain" + byteAlone, 2, 0);
        } else if (number) {
            faulty("plain" + byteAlone, byteAlone.equals("0") ? 3 : 2, byteAlone.equals("0") ? 5 : 6);
        } else {
            faulty("plain" + byteAlone, other ? 2 : 1, 5);
        }
    }

    // "5 the 5th TUNE, the 5th player, the 7th bound (its NAME); a 9th NOTE (it)."
    private static void numbersOfLines() {
        String[] kinds = {"plain", "rondo", "fugue", "lullaby"};
        String four = "plain1 0 1;rondo1 0 1;fugue1 0 1;lullaby1 0 1;";
        due("4 TUNES", lines(four), 4);
        for (String kind : kinds) {
            faulty(four + kind, 5, 46);
            faulty(four + " " + kind + "1 0 1;", 5, 47);
            due("the 4th TUNE", lines("plain1 0 1;plain1 0 1;plain1 0 1;" + kind + "1 0 1;"), 4);
            faulty(kind + "1 0 1 2 3 4 5 6 7 8 9", 5, kind.length() + 20);
            due("8 NOTES", lines(kind + "1 0 1 2 3 4 5 6 7 8;"), 1);
            due("1 NOTE", lines(kind + "1 0 1;"), 1);
            faulty(kind + "1 0;", 2, kind.length() + 3);
        }
        String players = "player1 1 1 0;player1 1 1 0;player1 1 1 0;player1 1 1 0;";
        due("4 PLAYERS", lines("plain1 0 1;" + players), 5);
        faulty(players + "player", 5, 56);
        due("6 PRISONERS", lines("plain1 0 1;" + "bound0;".repeat(6)), 7);
        faulty("bound0;".repeat(6) + "bound", 5, 42);
    }

    private static void theFault() {
        due("TIMES, START, NOTE at the least", lines("plain 1 0 0;"), 1);
        due("TIMES, START, NOTE at the most", lines("plain 9 9 9;"), 1);
        faulty("plain 0 0 0;", 3, 6);
        faulty("plain 10 0 0;", 3, 6);
        faulty("plain 1 10 0;", 3, 8);
        faulty("plain 1 0 10;", 3, 10);
        faulty("plain 1 0 9 10;", 3, 12);
        faulty("plain 99 99 99;", 3, 6);
        due("SKILL, BREATH, PAY, AT at the least", lines("plain1 0 1;player 0 1 0 0;"), 2);
        due("SKILL, BREATH, PAY, AT at the most", lines("plain1 0 1;".repeat(4) + "player 9 99 9 3;"), 5);
        faulty("player 10 1 0 0;", 3, 7);
        faulty("player 9 0 0 0;", 3, 9);
        faulty("player 9 100 0 0;", 1, 9);
        faulty("player 9 99 10 0;", 3, 12);
        faulty("player 9 99 9 4;", 3, 14);
        due("bound to the greatest", lines("bound3;" + "plain1 0 1;".repeat(4)), 5);
        faulty("bound 4;", 3, 6);
        theEndOfTheText();
        TuneWard x = new TuneWard();
        type(x, "bound 4;");
        x.text();
        due("the FAULT stays until the next text()", x.fault(), 3);
        x.feed('!');
        x.end(0);
        due("the FAULT stays until the next text()", x.fault(), 3);
        x.text();
        due("0 behind a text that was taken", x.fault(), 0);
    }

    // "or the end: the length", "Behind all (the length): 6 a TUNE that there is not."
    private static void theEndOfTheText() {
        String line = "plain 1 0 1";
        for (String part : new String[] {"plain", "plain 1", "plain 1 0", line, line + ";player 1 1", line + ";bound"}) {
            faulty(part, 2, part.length());
            faulty(part + "  ", 2, part.length() + 2);
        }
        faulty(line + " ".repeat(149), 2, 160);
        faulty(line + ";bound 1;" + " ".repeat(140), 6, 160);
        faulty("player 1 1 1 0;", 6, 15);
        faulty("bound 0;", 6, 8);
        for (int tunes = 1; tunes < 4; tunes++) {
            String house = "plain1 0 1;".repeat(tunes);
            due("the last TUNE that there is", lines(house + "bound" + (tunes - 1) + ";"), tunes + 1);
            due("the last TUNE that there is", lines(house + "player1 1 1 " + (tunes - 1) + ";"), tunes + 1);
            faulty(house + "bound" + tunes + ";", 6, house.length() + 7);
            faulty(house + "player1 1 1 " + tunes + ";", 6, house.length() + 14);
        }
        due("a TUNE told behind", lines("bound0;plain1 0 1;"), 2);
        faulty("bound 3;march", 2, 8);
    }

    // ---- promises 6 to 11

    private static void whatThereIs() {
        bad("rule", outside(0, 2), TuneWard::rule);
        bad("tune(v, 0)", outside(0, 3), (x, v) -> x.tune(v, 0));
        bad("tune(0, v)", outside(0, 5), (x, v) -> x.tune(0, v));
        bad("note(v, 0)", outside(0, 3), (x, v) -> x.note(v, 0));
        bad("note(0, v) of 8", outside(0, 7), (x, v) -> x.note(0, v));
        bad("note(1, v) of 1", outside(0, 0), (x, v) -> x.note(1, v));
        bad("note(3, v) of 1", outside(0, 0), (x, v) -> x.note(3, v));
        bad("has(v, 0)", outside(0, 3), (x, v) -> x.has(v, 0));
        bad("has(0, v)", outside(0, 159), (x, v) -> x.has(0, v));
        bad("player(v, 0)", outside(0, 3), (x, v) -> x.player(v, 0));
        bad("player(0, v)", outside(0, 3), (x, v) -> x.player(0, v));
        bad("bound", outside(0, 5), TuneWard::bound);
        TuneWard x = told(FULL_HOUSE);
        answers("rule", x, TuneWard::rule, 4, 4, 6);
        answers("tune 0", x, (y, v) -> y.tune(0, v), 0, 8, 1, 0, 8, 0b010001);
        answers("tune 1", x, (y, v) -> y.tune(1, v), 1, 1, 9, 9, 18, 0b000010);
        answers("tune 2", x, (y, v) -> y.tune(2, v), 2, 1, 2, 3, 4, 0b000100);
        answers("tune 3", x, (y, v) -> y.tune(3, v), 3, 1, 3, 1, 3, 0b101000);
        answers("note of 0", x, (y, v) -> y.note(0, v), 1, 2, 3, 4, 5, 6, 7, 8, BAD);
        answers("player 0", x, (y, v) -> y.player(0, v), 9, 99, 9, 3);
        answers("player 1", x, (y, v) -> y.player(1, v), 0, 1, 0, 0);
        answers("bound", x, TuneWard::bound, 0, 1, 2, 3, 0, 3);
        minutesOfTunes(x);
    }

    // "NONE: none (ahead of START, behind LENGTH)."
    private static void minutesOfTunes(TuneWard x) {
        int[] starts = {0, 9, 3, 1};
        int[] ends = {8, 27, 7, 4};
        int[] firsts = {1, 9, 0, 4};
        int[] lasts = {8, 9, 0, 4};
        for (int t = 0; t < 4; t++) {
            due("in START " + t, x.has(t, starts[t]), firsts[t]);
            due("in the last minute " + t, x.has(t, ends[t] - 1), lasts[t]);
            due("behind LENGTH " + t, x.has(t, ends[t]), NONE);
            due("in the last minute of all " + t, x.has(t, 159), NONE);
            if (t > 0) {
                due("ahead of START " + t, x.has(t, starts[t] - 1), NONE);
                due("in minute 0 " + t, x.has(t, 0), NONE);
            }
        }
        for (int many = 1; many <= 8; many++) {
            rowsOf(many);
        }
        TuneWard low = told("lullaby 1 0 0 1 2;");
        answers("each 1 lower, 0 at least", low, (y, m) -> y.has(0, m), 0, 0, 1, NONE);
    }

    /** ROWS of so many NOTES 1, 2, .. by each KIND, in the last TUNE of four as in the first. */
    private static void rowsOf(int many) {
        String notes = " 1 2 3 4 5 6 7 8".substring(0, 2 * many);
        int half = many / 2 + many % 2;
        TuneWard x = told("plain2 0" + notes + ";rondo2 0" + notes + ";lullaby2 0" + notes + ";fugue2 0" + notes + ";");
        int[] rows = {many, many + half, many, 2 * many};
        for (int t = 0; t < 4; t++) {
            due("LENGTH of " + t + " by " + many, x.tune(t, 4), 2 * rows[t]);
            due("behind " + t + " by " + many, x.has(t, 2 * rows[t]), NONE);
            for (int m = 0; m < 2 * rows[t]; m++) {
                int i = m % rows[t];
                int want = i < many ? i + 1 : t == 1 ? i - many + 1 : 2 * many - i;
                due("note " + m + " of " + t + " by " + many, x.has(t, m), t == 2 ? want - 1 : want);
            }
        }
    }

    // BAD: "there is no such TUNE, PLAYER, PRISONER": in a house of fewer, in a house of none
    private static void whatThereIsNot() {
        noSuchTune(SMALL_HOUSE, 2);
        noSuchPlayer(SMALL_HOUSE, 1);
        noSuchPrisoner(SMALL_HOUSE, 1);
        noSuchTune(NO_HOUSE, 0);
        noSuchPlayer(NO_HOUSE, 0);
        noSuchPrisoner(NO_HOUSE, 0);
    }

    private static void noSuchTune(String house, int many) {
        int[] tunes = {LEAST, -1, many, 3, 4, MOST};
        bad(house, "tune", tunes, (x, t) -> x.tune(t, 0));
        bad(house, "note", tunes, (x, t) -> x.note(t, 0));
        bad(house, "has", tunes, (x, t) -> x.has(t, 0));
        bad(house, "write", tunes, (x, t) -> x.write(t, 0, 0));
        bad(house, "add", tunes, (x, t) -> x.add(t, 0));
        bad(house, "set", tunes, (x, t) -> x.set(t, 3, 1));
        bad(house, "hire at", tunes, (x, t) -> x.hire(0, 3, t));
        bad(house, "bind", tunes, (x, t) -> x.bind(0, t));
        bad(house, "over", tunes, (x, t) -> x.over(t, 0));
        bad(house, "apart", new int[] {10 + many, 13, 14, 9, 1, -1, LEAST, MOST}, TuneWard::apart);
        bad(house, "see", tunes, (x, t) -> x.see(t, 0, 0));
        bad(house, "fits", tunes, TuneWard::fits);
        bad(house, "listen", tunes, (x, t) -> x.listen(t, 0));
    }

    private static void noSuchPlayer(String house, int many) {
        int[] players = {LEAST, -1, many, 3, 4, MOST};
        bad(house, "player", players, (x, p) -> x.player(p, 0));
        bad(house, "hire", players, (x, p) -> x.hire(p, 0, 1));
        bad(house, "plays", players, TuneWard::plays);
        bad(house, "best", new int[] {10 + many, 13, 14, 9, 2, -1, LEAST, MOST}, TuneWard::best);
    }

    private static void noSuchPrisoner(String house, int many) {
        int[] prisoners = {LEAST, -1, many, 5, 6, MOST};
        bad(house, "bound", prisoners, TuneWard::bound);
        bad(house, "bind", prisoners, (x, q) -> x.bind(q, 0));
        bad(house, "out", prisoners, (x, q) -> x.out(q, 0));
        bad(house, "luck", prisoners, (x, q) -> x.luck(5, q, 0));
        bad(house, "bribe", outside(0, (1 << many) - 1), (x, set) -> x.bribe(set, 0, 0));
    }

    // ---- promises 12 to 16

    private static void whatIsChanged() {
        bad("write(v, 0, 0)", outside(0, 3), (x, v) -> x.write(v, 0, 0));
        bad("write(0, v, 0) of 8", outside(0, 7), (x, v) -> x.write(0, v, 0));
        bad("write(2, v, 1) of 1", outside(0, 0), (x, v) -> x.write(2, v, 1));
        bad("write(0, 0, v)", outside(0, 9), (x, v) -> x.write(0, 0, v));
        bad("add(v, 0)", outside(0, 3), (x, v) -> x.add(v, 0));
        bad("add(1, v)", outside(0, 9), (x, v) -> x.add(1, v));
        bad("add(0, v) where there are 8: BAD ahead of FULL", outside(0, 9), (x, v) -> x.add(0, v));
        refused("add where there are 8", FULL, x -> x.add(0, 9));
        bad("set(v, 0, 1)", outside(0, 3), (x, v) -> x.set(v, 0, 1));
        bad("set(0, v, 1)", new int[] {LEAST, -1, 1, 4, 5, MOST}, (x, v) -> x.set(0, v, 1));
        bad("KIND", outside(0, 3), (x, v) -> x.set(0, 0, v));
        bad("TIMES", outside(1, 9), (x, v) -> x.set(0, 2, v));
        bad("START", outside(0, 9), (x, v) -> x.set(0, 3, v));
        bad("hire(v, 0, 1)", outside(0, 3), (x, v) -> x.hire(v, 0, 1));
        bad("hire(0, v, 1)", outside(0, 3), (x, v) -> x.hire(0, v, 1));
        bad("SKILL", outside(0, 9), (x, v) -> x.hire(0, 0, v));
        bad("BREATH", outside(1, 99), (x, v) -> x.hire(0, 1, v));
        bad("PAY", outside(0, 9), (x, v) -> x.hire(0, 2, v));
        bad("AT", outside(0, 3), (x, v) -> x.hire(0, 3, v));
        bad("bind(v, 0)", outside(0, 5), (x, v) -> x.bind(v, 0));
        bad("bind(0, v)", outside(0, 3), (x, v) -> x.bind(0, v));
        for (int q = 0; q < 6; q++) {
            int prisoner = q;
            refused("he is BOUND to it", STATE, x -> x.bind(prisoner, x.bound(prisoner)));
        }
        changesAtBounds();
        notesAreAdded();
    }

    private static void changesAtBounds() {
        TuneWard x = told(FULL_HOUSE);
        due("the first NOTE, the least", x.write(0, 0, 0), 1);
        due("the last NOTE, the most", x.write(0, 7, 9), 8);
        due("written again", x.write(0, 7, 9), 9);
        answers("written", x, (y, i) -> y.note(0, i), 0, 2, 3, 4, 5, 6, 7, 9);
        due("the NOTE of the next TUNE stays", x.note(1, 0), 9);
        due("KIND, the most", x.set(0, 0, 3), 0);
        due("KIND, the least", x.set(0, 0, 0), 3);
        due("TIMES, the most", x.set(0, 2, 9), 1);
        due("TIMES, the least", x.set(0, 2, 1), 9);
        due("START, the most", x.set(0, 3, 9), 0);
        due("START, the least", x.set(0, 3, 0), 9);
        due("what it is becomes it again", x.set(0, 3, 0), 0);
        int[] lows = {0, 1, 0, 0};
        int[] highs = {9, 99, 9, 3};
        int[] were = {0, 1, 0, 0};
        for (int what = 0; what < 4; what++) {
            due("hire, the most " + what, x.hire(1, what, highs[what]), were[what]);
            due("hired " + what, x.player(1, what), highs[what]);
            due("hire, the least " + what, x.hire(1, what, lows[what]), highs[what]);
            due("hired " + what, x.player(1, what), lows[what]);
            due("hire, the same " + what, x.hire(1, what, lows[what]), lows[what]);
        }
        due("the first PRISONER", x.bind(0, 3), 0);
        due("the last PRISONER", x.bind(5, 0), 3);
        answers("bound", x, TuneWard::bound, 3, 1, 2, 3, 0, 0);
        due("bits", x.tune(3, 5), 0b001001);
        due("bits", x.tune(0, 5), 0b110000);
    }

    // "A NOTE more, the last one: how many. BAD; FULL: there are 8."
    private static void notesAreAdded() {
        for (int t = 1; t < 4; t++) {
            TuneWard x = told(FULL_HOUSE);
            int others = x.count(4) - 1;
            for (int many = 2; many <= 8; many++) {
                due("NOTES of " + t, x.add(t, many == 2 ? 0 : many == 3 ? 9 : many), many);
                due("NOTES of " + t, x.tune(t, 1), many);
                due("all NOTES", x.count(4), others + many);
            }
            due("the 9th of " + t, x.add(t, 0), FULL);
            due("8 of " + t, x.tune(t, 1), 8);
            due("the least", x.note(t, 1), 0);
            due("the most", x.note(t, 2), 9);
            due("the last", x.note(t, 7), 8);
            due("none behind it", x.note(t, 8), BAD);
        }
    }

    // ---- promises 17 to 22

    private static void aPlaying() {
        bad("out(v, 0)", outside(0, 5), (x, v) -> x.out(v, 0));
        bad("out(0, v)", NEITHER_0_NOR_1, (x, v) -> x.out(0, v));
        bad("over(v, 0)", outside(0, 3), (x, v) -> x.over(v, 0));
        bad("over(0, v)", outside(0, 2), (x, v) -> x.over(0, v));
        bad("plays", outside(0, 3), TuneWard::plays);
        bad("sounds", outside(0, 159), TuneWard::sounds);
        bad("sum", outside(0, 3), TuneWard::sum);
        bad("first", NEITHER_0_NOR_1, TuneWard::first);
        for (int v = 0; v < 4; v++) {
            int what = v;
            int[] sums = {3, 33, 9, 0};
            int[] minutes = {3, 1, 1, 4};
            refused("plays is only asked", minutes[v], x -> x.plays(what));
            refused("sum is only asked", sums[v], x -> x.sum(what));
        }
        TuneWard x = told(FULL_HOUSE);
        answers("out", x, (y, q) -> y.out(q, 0), 0, 9, 7, 4, 0, 4, BAD);
        answers("out, why", x, (y, q) -> y.out(q, 1), 1, 1, 0, 0, 1, 0, BAD);
        answers("over", x, (y, t) -> y.over(t, 0), 0, 9, 7, 4, BAD);
        answers("over, why", x, (y, t) -> y.over(t, 1), 1, 1, 0, 0, BAD);
        answers("over, sounded", x, (y, t) -> y.over(t, 2), 0, 0, 4, 3, BAD);
        answers("sounds", x, TuneWard::sounds, 0, 8, 8, 12, 4, 4, 4, 0, 0, 0, 0);
        answers("first", x, TuneWard::first, 0, 0, BAD);
        due("sounds in the last minute", x.sounds(159), 0);
        askedFirst();
        breathAndSkill();
        serving();
        crossings();
        firstAndLast();
    }

    /** No call may need that another one was made ahead of it. */
    private static void askedFirst() {
        due("out asked first", told(FULL_HOUSE).out(1, 0), 9);
        due("over asked first", told(FULL_HOUSE).over(2, 2), 4);
        due("plays asked first", told(FULL_HOUSE).plays(3), 4);
        due("sounds asked first", told(FULL_HOUSE).sounds(3), 12);
        due("sum asked first", told(FULL_HOUSE).sum(2), 9);
        due("first asked first", told(FULL_HOUSE).first(1), 0);
        TuneWard x = told(FULL_HOUSE);
        due("sounds", x.sounds(7), 0);
        x.set(2, 3, 4);
        due("sounds behind a change", x.sounds(7), 4);
        x.hire(3, 1, 3);
        due("plays behind a change", x.plays(3), 3);
        x.bind(0, 2);
        due("out behind a change", x.out(0, 1), 2);
        x.keep(0);
        x.back(0);
        due("sounds behind an IMAGE", x.sounds(6), 4);
        x.best(0);
        x.drift(1, 20, 0);
        due("plays behind what is only tried", x.plays(0), 3);
    }

    private static void isOver(String what, TuneWard x, int t, int minute, int why, int sounded) {
        due(what + ": minute", x.over(t, 0), minute);
        due(what + ": why", x.over(t, 1), why);
        due(what + ": sounded", x.over(t, 2), sounded);
    }

    private static void breathAndSkill() {
        TuneWard x = told("plain 1 9 5 6;player 6 2 9 0;bound 0;");
        isOver("breath and skill are just enough", x, 0, 11, 0, 2);
        x.hire(0, 1, 1);
        isOver("one minute of BREATH too few", x, 0, 10, 2, 1);
        x.hire(0, 1, 2);
        x.hire(0, 0, 5);
        isOver("SKILL one too low", x, 0, 10, 1, 1);
        due("he has played", x.plays(0), 2);
        due("he is paid for it", x.sum(1), 18);
        due("it does not SOUND in that minute", x.sounds(10), 0);
        x.set(0, 0, 3);
        isOver("a lullaby is 1 lower", x, 0, 11, 0, 2);
        TuneWard nobody = told("plain 1 9 0;bound 0;");
        isOver("nobody is AT it: in START", nobody, 0, 9, 2, 0);
        TuneWard elsewhere = told("plain 1 4 0;plain 1 0 0;player 9 9 1 1;");
        isOver("nobody is AT this one", elsewhere, 0, 4, 2, 0);
        TuneWard four = told("plain 9 0 1;player 1 1 1 0;player 1 2 1 0;player 0 9 1 0;player 9 9 1 0;");
        isOver("the first who has breath left, not the first who can", four, 0, 3, 1, 3);
        answers("who stand behind one another", four, TuneWard::plays, 1, 2, 1, 0, BAD);
        TuneWard least = told("plain 1 0 0;player 0 1 0 0;bound 0;");
        isOver("note 0, SKILL 0, BREATH 1", least, 0, 1, 0, 1);
        due("PAY 0", least.sum(1), 0);
        TuneWard slipAtEnd = told("plain 1 0 0;plain 1 0 9;player 8 1 1 1;player 9 9 1 1;");
        isOver("a slip takes the last breath", slipAtEnd, 1, 0, 1, 0);
        due("who stands behind him does not play", slipAtEnd.plays(1), 0);
    }

    private static void serving() {
        TuneWard longest = told("fugue9 9 1 2 3 4 5 6 7 8;player9 99 9 0;player9 45 9 0;bound0;");
        isOver("the longest", longest, 0, 153, 0, 144);
        due("it SOUNDS in its last minute", longest.sounds(152), 1);
        due("not in the one behind", longest.sounds(153), 0);
        due("not ahead of START", longest.sounds(8), 0);
        due("in START", longest.sounds(9), 1);
        answers("nobody plays in the minute behind", longest, TuneWard::plays, 99, 45, BAD);
        due("the dearest of one TUNE", longest.sum(1), 1296);
        longest.hire(1, 1, 44);
        isOver("the last minute is wanting", longest, 0, 152, 2, 143);
        TuneWard shortest = told("plain 1 0 9;player 9 1 9 0;bound 0;");
        isOver("the shortest", shortest, 0, 1, 0, 1);
        TuneWard four = told("fugue1 0 1 1 1 1 1 1 1 1;fugue1 0 2 2 2 2 2 2 2 2;fugue1 0 3 3 3 3 3 3 3 3;"
                + "fugue1 0 4 4 4 4 4 4 4 4;player1 99 9 0;player2 99 9 1;");
        isOver("the longest ROW of the first TUNE", four, 0, 16, 0, 16);
        isOver("the longest ROW of the second", four, 1, 16, 0, 16);
        for (int t = 2; t < 4; t++) {
            four.hire(0, 0, t + 1);
            four.hire(0, 3, t);
            isOver("the longest ROW of " + t, four, t, 16, 0, 16);
            four.hire(0, 0, t);
            isOver("SKILL one too low", four, t, 0, 1, 0);
        }
        TuneWard all = told("fugue9 9 8 7 6 5 4 3 2 1;fugue9 9 1;fugue9 9 1;player9 99 9 0;player9 99 9 0;bound0;");
        isOver("beside tunes that nobody plays", all, 0, 153, 0, 144);
        isOver("that nobody plays", all, 2, 9, 2, 0);
    }

    private static TuneWard fourAtOnce(String tunes) {
        return told(tunes + "player9 99 1 0;player9 99 1 1;player9 99 1 2;player9 99 1 3;");
    }

    private static void crossings() {
        TuneWard x = fourAtOnce("plain5 0 1;plain5 0 1;plain5 0 1;plain5 0 1;");
        // 0 1: 2 goes. 0 2: 1 goes. 0 3: none is left. 1 2: 0 goes. 1 3, 2 3: none is left.
        int[] overAt = {0, 0, 0, 5};
        for (int t = 0; t < 4; t++) {
            isOver("all the same " + t, x, t, overAt[t], t == 3 ? 0 : 3, t == 3 ? 5 : 1);
        }
        due("all SOUND in it still", x.sounds(0), 15);
        due("one is left", x.sounds(1), 8);
        due("how many are crossed", x.sum(3), 3);
        TuneWard two = fourAtOnce("plain5 0 1;plain5 0 1;plain5 9 1;plain5 9 3;");
        isOver("no third that SOUNDS", two, 0, 5, 0, 5);
        isOver("START has not come", two, 2, 14, 0, 5);
        due("none is crossed", two.sum(3), 0);
        TuneWard begins = fourAtOnce("plain5 0 1;plain5 0 1;plain5 4 2;plain5 5 3;");
        isOver("crossed in its START", begins, 2, 4, 3, 1);
        isOver("the pair is over by then", begins, 3, 10, 0, 5);
        due("one is crossed", begins.sum(3), 1);
        TuneWard last = fourAtOnce("plain5 0 1;plain5 0 1;plain1 4 2;plain1 3 3;");
        isOver("crossed in its last minute", last, 2, 4, 3, 1);
        TuneWard served = fourAtOnce("plain5 0 1;plain5 3 1;plain3 0 2;plain1 0 9;");
        isOver("served in that minute, not crossed", served, 2, 3, 0, 3);
        crossedByOthers();
    }

    private static void crossedByOthers() {
        // 1 is crossed by 0 and 2; it SOUNDS still, so that with 3 it sends 0 out.
        TuneWard still = fourAtOnce("plain5 0 1;plain5 0 2;plain5 0 1;plain5 0 2;");
        isOver("crossed first", still, 1, 0, 3, 1);
        isOver("by one that was crossed in this minute", still, 0, 0, 3, 1);
        isOver("besides them", still, 2, 5, 0, 5);
        TuneWard later = fourAtOnce("plain5 0 1;plain5 1 2;plain5 0 1;plain5 1 2;");
        isOver("in a later minute", later, 1, 1, 3, 1);
        isOver("in a later minute", later, 0, 1, 3, 2);
        TuneWard slip = told("plain5 0 1;plain5 0 1;plain5 0 9;player9 9 1 0;player9 9 1 1;player8 9 1 2;");
        isOver("who slips does not SOUND, is not crossed", slip, 2, 0, 1, 0);
        TuneWard silent = told("plain5 0 9;plain5 0 9;plain5 0 1;player9 9 1 0;player8 9 1 1;player9 9 1 2;");
        isOver("a slip makes no pair", silent, 2, 5, 0, 5);
        TuneWard breathless = told("plain5 0 1;plain5 0 1;plain5 0 2;player9 9 1 0;player9 1 1 1;player9 9 1 2;");
        isOver("crossed while there is a pair", breathless, 2, 0, 3, 1);
        breathless.set(2, 3, 1);
        isOver("no breath, no pair", breathless, 2, 6, 0, 5);
        TuneWard zeros = fourAtOnce("plain2 0 0;lullaby2 0 1;lullaby2 0 0 0;plain2 0 5;");
        isOver("note 0 is a note", zeros, 2, 0, 3, 1);
        TuneWard written = fourAtOnce("plain2 0 1;lullaby2 0 1;plain2 0 5;plain2 0 6;");
        isOver("not as written: as it SOUNDS", written, 2, 2, 0, 2);
    }

    private static void firstAndLast() {
        TuneWard none = told("plain 1 0 0;player 0 1 0 0;bound 0;");
        answers("nobody GETS AWAY", none, TuneWard::first, NONE, NONE, BAD);
        answers("sum of one who is served", none, TuneWard::sum, 0, 0, 1, 0, BAD);
        TuneWard unbound = told("plain 1 0 0;");
        answers("no PRISONERS", unbound, TuneWard::first, NONE, NONE, BAD);
        answers("no PRISONERS", unbound, TuneWard::sum, 0, 0, 0, 0, BAD);
        TuneWard six = told("plain 1 9 0;plain 1 8 0;bound 0;bound 0;bound 0;bound 0;bound 0;bound 1;");
        answers("the last PRISONER is first", six, TuneWard::first, 8, 5, BAD);
        answers("all six", six, TuneWard::sum, 6, 0, 9, 0, BAD);
        six.bind(3, 1);
        answers("of two in it the first", six, TuneWard::first, 8, 3, BAD);
        six.set(1, 3, 9);
        answers("of all in it the first", six, TuneWard::first, 9, 0, BAD);
        // Served sooner than another GETS AWAY.
        TuneWard sooner = told("plain 1 0 0;plain 1 5 0;player 0 1 0 0;bound 0;bound 1;");
        answers("who is served does not count", sooner, TuneWard::first, 5, 1, BAD);
    }

    // ---- promises 23 to 27

    private static void whatIsBest() {
        bad("best", new int[] {LEAST, -1, 2, 9, 14, MOST}, TuneWard::best);
        bad("apart", new int[] {LEAST, -1, 1, 2, 9, 14, MOST}, TuneWard::apart);
        bad("compose(v, 0)", outside(1, 144), (x, v) -> x.compose(v, 0));
        bad("compose(1, v)", outside(0, 2), (x, v) -> x.compose(1, v));
        bad("bribe(v, 0, 0)", outside(0, 63), (x, v) -> x.bribe(v, 0, 0));
        bad("bribe(0, v, 0)", outside(0, 159), (x, v) -> x.bribe(0, v, 0));
        bad("bribe(0, 0, v)", NEITHER_0_NOR_1, (x, v) -> x.bribe(0, 0, v));
        bad("teach", NEITHER_0_NOR_1, TuneWard::teach);
        for (int what : new int[] {0, 1, 10, 13}) {
            leavesAll(NO_HOUSE, "best, no TUNES", what < 10 ? STATE : BAD, x -> x.best(what));
        }
        leavesAll(NO_HOUSE, "apart, no TUNES", STATE, x -> x.apart(0));
        leavesAll(NO_HOUSE, "teach, nobody", NONE, x -> x.teach(0));
        leavesAll(NO_HOUSE, "bribe, nobody", 0, x -> x.bribe(0, 0, 0));
        bestOfTheFullHouse();
        bestOfOne();
        startsApart();
        lengths();
        bribes();
        teaching();
    }

    private static void bestOfTheFullHouse() {
        // Only 0, 2, 3 have SKILL 9, 9: three TUNES can be served but for the rondo's 18 minutes and the plain's 8.
        TuneWard x = told(FULL_HOUSE);
        int away = x.best(0);
        int cost = x.best(1);
        int[] at = new int[4];
        for (int p = 0; p < 4; p++) {
            at[p] = x.best(10 + p);
        }
        due("the last PLAYER", at[3] >= 0 && at[3] < 4 ? 1 : 0, 1);
        due("PLAYER 4", x.best(14), BAD);
        for (int p = 0; p < 4; p++) {
            x.hire(p, 3, at[p]);
        }
        due("as many GET AWAY", x.sum(0), away);
        due("it costs as much", x.sum(1), cost);
        refused("best is only asked", away, y -> y.best(0));
        refused("best is only asked", at[0], y -> y.best(10));
        refused("apart is only asked", told(FULL_HOUSE).apart(0), y -> y.apart(0));
        // All the 256 ways, of which only the very last keeps the one that is bound.
        TuneWard end = told("plain1 0 1;plain1 0 1;plain1 0 1;plain4 0 9;"
                + "player9 1 0 0;player9 1 0 0;player9 1 0 0;player9 1 0 0;bound3;");
        answers("the last of all ways", end, (y, p) -> y.best(10 + p), 3, 3, 3, 3, BAD);
        due("by which he is held", end.best(0), 0);
        TuneWard first = fourAtOnce("plain1 0 1;plain1 0 1;plain1 0 1;plain1 0 1;");
        answers("nobody is bound: the cheapest", first, (y, p) -> y.best(10 + p), 0, 0, 0, 0, BAD);
        due("the cheapest", first.best(1), 1);
    }

    private static void bestOfOne() {
        TuneWard noPlayers = told("plain 1 0 1;bound 0;");
        answers("no PLAYERS", noPlayers, TuneWard::best, 1, 0, BAD);
        due("no PLAYERS", noPlayers.best(10), BAD);
        TuneWard one = told("plain 1 0 1;player 9 9 9 0;");
        answers("one TUNE", one, TuneWard::best, 0, 9, BAD);
        due("one TUNE", one.best(10), 0);
        // Fewest ahead of COST: he who is held costs more.
        TuneWard dear = told("plain 9 0 1;plain 1 0 9;player 8 9 9 0;bound 0;");
        answers("fewest ahead of COST", dear, TuneWard::best, 0, 81, BAD);
        dear.bind(0, 1);
        answers("then COST", dear, TuneWard::best, 1, 9, BAD);
        due("then COST", dear.best(10), 1);
    }

    // "STARTS (0 to 3 of each TUNE) by which fewest GET AWAY"
    private static void startsApart() {
        TuneWard x = fourAtOnce("plain3 9 1;plain3 9 1;plain9 9 2;plain9 9 3;");
        x.text();
        due("no TUNES", x.apart(0), STATE);
        TuneWard four = told("plain3 9 1;plain3 9 1;plain9 9 2;plain9 9 3;"
                + "player9 9 1 0;player9 9 1 1;player9 9 1 2;player9 9 1 3;bound2;bound3;");
        // 0 and 1 meet in 3 minutes at most: they may, if the others begin behind them.
        due("none GETS AWAY", four.apart(0), 0);
        answers("the first so", four, (y, t) -> y.apart(10 + t), 0, 0, 3, 3, BAD);
        four.set(0, 2, 4);
        due("they still meet in 3 alone", four.apart(0), 0);
        four.set(1, 2, 4);
        due("the fourth minute lets one out", four.apart(0), 1);
        answers("the first by which but one is", four, (y, t) -> y.apart(10 + t), 0, 0, 3, 3, BAD);
        four.set(0, 2, 5);
        four.set(1, 2, 5);
        due("two minutes in which they meet can not be shunned", four.apart(0), 2);
        answers("all are as one: the first", four, (y, t) -> y.apart(10 + t), 0, 0, 0, 0, BAD);
        TuneWard late = told("plain 1 9 1;bound 0;");
        answers("all STARTS are as one", late, TuneWard::apart, 1, BAD, BAD);
        due("0 to 3, not as it is", late.apart(10), 0);
    }

    private static void lengths() {
        TuneWard x = new TuneWard();
        answers("LENGTH 1", x, (y, w) -> y.compose(1, w), 1, 0, 1, BAD);
        answers("LENGTH 9", x, (y, w) -> y.compose(9, w), 1, 0, 9, BAD);
        answers("LENGTH 10", x, (y, w) -> y.compose(10, w), 1, 1, 5, BAD);
        answers("LENGTH 144", x, (y, w) -> y.compose(144, w), 8, 2, 9, BAD);
        answers("LENGTH 143", x, (y, w) -> y.compose(143, w), NONE, NONE, NONE, BAD);
        answers("LENGTH 128", x, (y, w) -> y.compose(128, w), 8, 2, 8, BAD);
        answers("LENGTH 108", x, (y, w) -> y.compose(108, w), 6, 2, 9, BAD);
        answers("LENGTH 72", x, (y, w) -> y.compose(72, w), 4, 2, 9, BAD);
        answers("LENGTH 16", x, (y, w) -> y.compose(16, w), 1, 1, 8, BAD);
        answers("LENGTH 13", x, (y, w) -> y.compose(13, w), NONE, NONE, NONE, BAD);
        answers("LENGTH 5", x, (y, w) -> y.compose(5, w), 1, 0, 5, BAD);
        for (int length = 1; length <= 144; length++) {
            composed(x, length);
        }
    }

    /** A TUNE that was composed has that LENGTH in fact. */
    private static void composed(TuneWard x, int length) {
        if (x.compose(length, 0) == NONE) {
            return;
        }
        TuneWard y = told("plain 1 0 1;");
        for (int many = 2; many <= x.compose(length, 0); many++) {
            y.add(0, 1);
        }
        y.set(0, 0, x.compose(length, 1));
        y.set(0, 2, x.compose(length, 2));
        due("composed to " + length, y.tune(0, 4), length);
    }

    private static void bribes() {
        // Tunes 0, 3, 2, 1 are over in minutes 0, 4, 7, 9 by themselves.
        for (int m : new int[] {9, 159}) {
            refused("all are OUT by then", 0, x -> x.bribe(63, m, 0));
            refused("nobody is to be bribed", 0, x -> x.bribe(63, m, 1));
        }
        refused("a minute sooner: by none, as START is 9", NONE, x -> x.bribe(63, 8, 0));
        refused("PRISONER 2 in 6: his PLAYER", 1, x -> x.bribe(4, 6, 0));
        refused("PRISONER 2 in 6: his PLAYER", 8, x -> x.bribe(4, 6, 1));
        refused("PRISONER 2 in 7: nobody", 0, x -> x.bribe(4, 7, 0));
        refused("in START", 8, x -> x.bribe(4, 3, 1));
        refused("ahead of START", NONE, x -> x.bribe(4, 2, 1));
        refused("PRISONERS 2 and 3", 9, x -> x.bribe(12, 3, 1));
        refused("PRISONERS 2 and 5, the last", 9, x -> x.bribe(36, 3, 1));
        refused("the last PRISONER", 1, x -> x.bribe(32, 3, 1));
        refused("nobody is asked for, at once", 0, x -> x.bribe(0, 0, 1));
        TuneWard four = told("plain9 0 1;player1 9 0 0;player1 9 0 0;player1 9 0 0;player1 9 0 0;bound0;");
        answers("all four", four, (y, w) -> y.bribe(1, 0, w), 4, 15, BAD);
        answers("in 9", four, (y, w) -> y.bribe(1, 9, w), 0, 0, BAD);
        four.hire(3, 1, 1);
        four.hire(2, 1, 1);
        answers("two: the least set", four, (y, w) -> y.bribe(1, 2, w), 2, 3, BAD);
        TuneWard none = told("plain 1 0 1;");
        answers("no PRISONERS, the empty set", none, (y, w) -> y.bribe(0, 0, w), 0, 0, BAD);
        due("no PRISONERS, another set", none.bribe(1, 0, 0), BAD);
        // A slip lets out sooner than the one behind would: bribing may help or harm.
        TuneWard slip = told("plain 9 0 5;player 4 9 0 0;player 9 9 0 0;bound 0;");
        answers("OUT by a slip counts", slip, (y, w) -> y.bribe(1, 0, w), 0, 0, BAD);
    }

    private static void teaching() {
        // By 1 the plain one lasts one minute, then there is no breath; by 2 the rondo, for 9 of 18: none is kept.
        refused("none is taught so that fewer GET AWAY", NONE, x -> x.teach(1));
        TuneWard x = told(FULL_HOUSE);
        x.hire(1, 1, 8);
        // 0 and 4 are kept, but in minute 3 the plain one has the lullaby's 4: the fugue is crossed.
        answers("the plain one is kept", x, TuneWard::teach, 1, 2, BAD);
        x.hire(1, 1, 7);
        answers("a breath too few", x, TuneWard::teach, NONE, NONE, BAD);
        TuneWard skilled = told("plain 1 0 9;player 9 9 0 0;bound 0;");
        answers("nobody GETS AWAY now", skilled, TuneWard::teach, NONE, NONE, BAD);
        skilled.hire(0, 0, 8);
        answers("one too low", skilled, TuneWard::teach, 0, 0, BAD);
        TuneWard last = told("plain1 0 9;player9 9 0 0;plain1 0 9;player9 9 0 1;plain1 0 9;player9 9 0 2;"
                + "plain1 0 9;player0 9 0 3;bound3;");
        answers("the last PLAYER", last, TuneWard::teach, 3, 0, BAD);
        TuneWard none = told("plain 1 0 9;bound 0;");
        answers("no PLAYERS", none, TuneWard::teach, NONE, NONE, BAD);
        TuneWard nobody = told("plain 1 0 9;player 0 9 0 0;");
        answers("no PRISONERS", nobody, TuneWard::teach, NONE, NONE, BAD);
    }

    // ---- promises 28, 29

    private static void strings() {
        bad("mean(v, 0)", outside(0, 10), (x, v) -> x.mean(v, 0));
        bad("mean(5, v)", NEITHER_0_NOR_1, (x, v) -> x.mean(5, v));
        bad("luck(v, 0, 0)", outside(0, 10), (x, v) -> x.luck(v, 0, 0));
        bad("luck(5, v, 0)", outside(0, 5), (x, v) -> x.luck(5, v, 0));
        bad("luck(5, 0, v)", NEITHER_0_NOR_1, (x, v) -> x.luck(5, 0, v));
        refused("by none: as it is", 3, x -> x.mean(0, 0));
        refused("by none: as it is", 1, x -> x.mean(0, 1));
        refused("by all: all", 6, x -> x.mean(10, 0));
        refused("by all: all", 1, x -> x.mean(10, 1));
        refused("0 is 0 by 1", 0, x -> x.luck(10, 5, 0));
        refused("0 is 0 by 1", 1, x -> x.luck(10, 5, 1));
        refused("1 is 1 by 1", 1, x -> x.luck(0, 5, 0));
        refused("1 is 1 by 1", 1, x -> x.luck(0, 5, 1));
        refused("9 of 10", 9, x -> x.luck(1, 2, 0));
        refused("9 of 10", 10, x -> x.luck(1, 2, 1));
        leavesAll(NO_HOUSE, "nobody: 0 by 1", 0, x -> x.mean(10, 0));
        leavesAll(NO_HOUSE, "nobody: 0 by 1", 1, x -> x.mean(10, 1));
        TuneWard x = told("plain1 0 1;player1 1 0 0;player1 1 0 0;player1 1 0 0;player1 1 0 0;"
                + "bound0;bound0;bound0;bound0;bound0;bound0;");
        // All four strings break by 1, 2401, 6561 of 10000.
        long[][] dues = {{1, 3, 5000, 9999, 10000}, {7, 7203, 5000, 7599, 10000}, {9, 19683, 5000, 3439, 10000},
            {5, 3, 8, 15, 16}, {2, 6, 625, 624, 625}, {0, 0, 1, 1, 1}, {10, 6, 1, 0, 1}};
        for (long[] d : dues) {
            int v = (int) d[0];
            answers("mean by " + v, x, (y, w) -> y.mean(v, w), d[1], d[2], BAD);
            answers("luck by " + v, x, (y, w) -> y.luck(v, 5, w), d[3], d[4], BAD);
        }
        // A string that breaks may hold one: he who slips does not play.
        TuneWard slip = told("plain 1 0 9;player 8 9 0 0;player 9 9 0 0;bound 0;");
        answers("held if the first breaks alone", slip, (y, w) -> y.luck(3, 0, w), 21, 100, BAD);
        answers("else away", slip, (y, w) -> y.mean(3, w), 79, 100, BAD);
    }

    // ---- promises 30 to 33

    private static void whatIsSeen() {
        bad("see(v, 0, 0)", outside(0, 3), (x, v) -> x.see(v, 0, 0));
        bad("see(0, v, 0)", outside(0, 159), (x, v) -> x.see(0, v, 0));
        bad("see(0, 0, v)", new int[] {LEAST, -5, -3, -2, -1, 10, MOST}, (x, v) -> x.see(0, 0, v));
        bad("forget", outside(0, 2), TuneWard::forget);
        bad("fits", outside(0, 3), TuneWard::fits);
        bad("listen(v, 0)", outside(0, 3), (x, v) -> x.listen(v, 0));
        bad("listen(0, v)", NEITHER_0_NOR_1, (x, v) -> x.listen(0, v));
        TuneWard x = told(FULL_HOUSE);
        int[][] six = {{0, 0, 0}, {3, 159, 9}, {0, 159, NONE}, {3, 0, NONE}, {1, 9, 9}, {2, 3, 0}};
        for (int i = 0; i < 6; i++) {
            due("SEEN", x.see(six[i][0], six[i][1], six[i][2]), i + 1);
        }
        due("the 7th", x.see(0, 0, 0), FULL);
        due("the 7th of another TUNE", x.see(3, 0, 0), FULL);
        due("BAD ahead of FULL", x.see(4, 0, 0), BAD);
        due("BAD ahead of FULL", x.see(0, 160, 0), BAD);
        due("BAD ahead of FULL", x.see(0, 0, 10), BAD);
        due("6 are SEEN", x.count(0), 6);
        due("7 are not", x.forget(7), BAD);
        due("all are left", x.forget(6), 6);
        due("the first 5", x.forget(5), 6);
        due("room for one", x.see(2, 3, 0), 6);
        due("none for two", x.see(2, 3, 0), FULL);
        due("none is left", x.forget(0), 6);
        due("none was there", x.forget(0), 0);
        due("not one", x.forget(1), BAD);
        due("the first again", x.see(0, 0, NONE), 1);
        kindsThatFit();
        listening();
    }

    private static void kindsThatFit() {
        // NOTES 5 7 in START 2: plain 5 7, rondo 5 7 5, fugue 5 7 7 5, lullaby 4 6.
        String house = "plain 1 2 5 7;plain 1 0 0;";
        int[][] cases = {{1, NONE, 15}, {1, 5, 0}, {2, 5, 7}, {2, 4, 8}, {2, NONE, 0}, {3, 6, 8}, {3, 7, 7},
            {4, NONE, 9}, {4, 5, 2}, {4, 7, 4}, {5, NONE, 11}, {5, 5, 4}, {6, NONE, 15}, {6, 5, 0}, {159, NONE, 15}};
        for (int[] c : cases) {
            TuneWard x = told(house);
            x.see(0, c[0], c[1]);
            due("fits by note " + c[1] + " in " + c[0], x.fits(0), c[2]);
            due("the other TUNE", x.fits(1), 15);
            for (int kind = 0; kind < 4; kind++) {
                x.set(0, 0, kind);
                due("whichever it is", x.fits(0), c[2]);
            }
        }
        TuneWard x = told(house);
        x.see(0, 2, 5);
        x.see(0, 2, 4);
        due("SEEN twice, not alike", x.fits(0), 0);
        x.forget(1);
        due("the first is left alone", x.fits(0), 7);
        x.forget(0);
        due("nothing is SEEN", x.fits(0), 15);
    }

    private static void listening() {
        String house = "plain 1 2 5 7;plain 1 0 0;";
        TuneWard x = told(house);
        // In 2 three are left, in 4 two (none: plain, lullaby); in no minute one.
        answers("listen", x, (y, w) -> y.listen(0, w), 4, 2, BAD);
        x.see(0, 2, 5);
        answers("of plain, rondo, fugue", x, (y, w) -> y.listen(0, w), 4, 1, BAD);
        x.see(0, 4, NONE);
        answers("one is left", x, (y, w) -> y.listen(0, w), NONE, NONE, BAD);
        x.see(0, 4, 5);
        answers("none is left", x, (y, w) -> y.listen(0, w), NONE, NONE, BAD);
        TuneWard last = told("plain 9 9 0 0 0 0 0 0 0 0;");
        // plain and lullaby to 81 behind LENGTH 72, rondo 108, fugue 144: one minute tells each apart but these two.
        answers("far behind", last, (y, w) -> y.listen(0, w), 81, 2, BAD);
        last.see(0, 81, 0);
        answers("rondo or fugue, in 117 first", last, (y, w) -> y.listen(0, w), 117, 1, BAD);
        last.forget(0);
        last.see(0, 81, NONE);
        answers("they are alike in every minute", last, (y, w) -> y.listen(0, w), NONE, NONE, BAD);
        TuneWard first = told("plain 1 0 5;");
        // In 0 the lullaby tells; in 1 rondo and fugue have 5: two and two.
        answers("two and two", first, (y, w) -> y.listen(0, w), 1, 2, BAD);
        first.see(0, 1, NONE);
        answers("in minute 0", first, (y, w) -> y.listen(0, w), 0, 1, BAD);
    }

    // ---- promise 34

    private static void bySeed() {
        bad("drift(1, v, 0)", outside(1, 20), (x, v) -> x.drift(1, v, 0));
        bad("drift(1, 1, v)", NEITHER_0_NOR_1, (x, v) -> x.drift(1, 1, v));
        bad(NO_HOUSE, "drift, no TUNES: BAD ahead of STATE", outside(1, 20), (x, v) -> x.drift(1, v, 0));
        leavesAll(NO_HOUSE, "drift, no TUNES", STATE, x -> x.drift(1, 1, 0));
        leavesAll(NO_HOUSE, "drift, no TUNES", STATE, x -> x.drift(1, 20, 1));
        // Of one TUNE of one NOTE that is held to 4, what the second bits of each pair by 10 modulo 10 are:
        // of seed 0: 6 1 2 4, of 1: 5 1 2 1, of -1: 0 1 2 6, of 12345: 8 9 4 2, of 65536: 2 7 8 2.
        String house = "plain 1 0 0;player 4 9 1 0;bound 0;";
        int[] seeds = {0, 1, -1, 12345, 65536};
        int[] firsts = {1, 1, 0, 1, 0};
        for (int i = 0; i < seeds.length; i++) {
            due("the first by seed " + seeds[i], told(house).drift(seeds[i], 1, 0), firsts[i]);
        }
        due("to the second", told(house).drift(65536, 2, 0), 1);
        due("to the third", told(house).drift(-1, 3, 0), 0);
        due("to the fourth", told(house).drift(-1, 4, 0), 1);
        // Bits 16 to 30 know nothing of bit 31.
        for (int n : new int[] {1, 3, 4, 20}) {
            for (int what = 0; what < 2; what++) {
                long as = told(house).drift(-1, n, what);
                due("seed MOST is as -1", told(house).drift(MOST, n, what), as);
                due("seed LEAST is as 0", told(house).drift(LEAST, n, what), told(house).drift(0, n, what));
            }
        }
        due("20 minutes, paid", told(house).drift(0, 20, 1), 20);
        leavesAll(SMALL_HOUSE, "drift is only asked", 20 * told(SMALL_HOUSE).sum(1), x -> x.drift(0, 20, 1));
        manyNotes();
    }

    private static void manyNotes() {
        // Seed 12345: bits 21468, 9988, 22117, 3498: TUNE 0, NOTE 4 becomes 8; TUNE 1, NOTE 2 becomes 9.
        String house = "plain 1 0 1 1 1 1 1 1 1 1;plain 1 0 2 2 2 2 2 2 2 2;player 7 9 1 0;player 8 9 1 1;";
        TuneWard x = told(house);
        due("slips in minute 4, then in 2", x.drift(12345, 2, 1), 5 + 8 + 5 + 3);
        due("the first alone", x.drift(12345, 1, 1), 5 + 8);
        // Seed 1 of 4 TUNES: bits 16838, 5758, 10113, 17515: TUNE 2, NOTE 5758 % 3 = 1 becomes 5; TUNE 1, NOTE 0: 1.
        TuneWard four = told("plain1 0 2;plain1 0 2;plain1 0 1 1 1;plain1 0 3;player2 9 1 1;player4 9 5 2;bound1;bound2;");
        due("TUNE 2 slips in 1", four.drift(1, 1, 1), 1 + 10);
        due("one GETS AWAY", four.drift(1, 1, 0), 1);
        due("TUNE 1 becomes 1", four.drift(1, 2, 1), 2 * 11);
        due("the most of all", four.drift(1, 2, 0), 1);
    }

    // ---- promises 35 to 38

    private static void imagesAndSheets() {
        bad("keep", outside(0, 1), TuneWard::keep);
        bad("back", outside(0, 1), TuneWard::back);
        refused("there is none", STATE, x -> x.back(1));
        refused("all is as it was kept", 11, x -> x.back(0));
        refused("kept again", 1, x -> x.keep(0));
        leavesAll(NO_HOUSE, "an IMAGE of nothing", 0, x -> x.back(0));
        bad("sheet(v, 0, 1)", outside(0, 3), (x, v) -> x.sheet(v, 0, 1));
        bad("sheet(0, v, 1)", outside(0, 2), (x, v) -> x.sheet(0, v, 1));
        bad("sheet(0, 0, v)", new int[] {41, 42, MOST}, (x, v) -> x.sheet(0, 0, v));
        bad("sheet(v, 0, -1): BAD ahead of SIZE", outside(0, 3), (x, v) -> x.sheet(v, 0, -1));
        bad("sheet(0, v, -1): BAD ahead of SIZE", outside(0, 2), (x, v) -> x.sheet(0, v, -1));
        for (int n : new int[] {-1, -40, LEAST}) {
            refused("SIZE by " + n, -14, x -> x.sheet(0, 0, n));
            refused("SIZE where there is nothing", -14, x -> x.sheet(3, 2, n));
        }
        bad("lay(v, 0, 1)", outside(0, 3), (x, v) -> x.lay(v, 0, 1));
        int[] sizes = {40, 7, 0};
        for (int k = 0; k < 3; k++) {
            for (int i : outside(0, sizes[k] - 1)) {
                int sheet = k;
                refused("INDEX " + i + " of " + sizes[k], -12, x -> x.lay(sheet, i, 1));
            }
        }
        for (int i : new int[] {LEAST, -1, 0, 39, 40, MOST}) {
            refused("NULL, whatever the INDEX", -11, x -> x.lay(3, i, 1));
        }
        twoImages();
        newSheets();
        lowestBits();
    }

    private static void twoImages() {
        TuneWard x = told(SMALL_HOUSE);
        due("there was none", x.keep(0), 0);
        x.add(0, 9);
        due("there was none", x.keep(1), 0);
        due("two IMAGES", x.count(1), 2);
        x.add(0, 9);
        x.hire(0, 0, 0);
        x.bind(0, 0);
        due("NOTES in all", x.back(0), 3);
        due("the PLAYER", x.player(0, 0), 9);
        due("the PRISONER", x.bound(0), 1);
        due("NOTES in all", x.back(1), 4);
        x.add(0, 9);
        due("there was one", x.keep(1), 1);
        due("as it is now", x.back(1), 5);
        due("the other stays", x.back(0), 3);
        due("IMAGES stay when they are taken", x.count(1), 2);
        x.see(0, 0, 5);
        x.back(1);
        due("SEEN is no part of it", x.count(0), 1);
        x.text();
        answers("IMAGES are gone", x, TuneWard::back, STATE, STATE, BAD);
        due("no TUNES: an IMAGE all the same", x.keep(1), 0);
        due("no NOTES", x.back(1), 0);
        due("none of the other", x.back(0), STATE);
    }

    private static void newSheets() {
        TuneWard x = told("plain 1 0 1;plain 1 0 1;bound 1;");
        for (int lane = 0; lane < 3; lane++) {
            due("no CELLS", x.sheet(0, lane, 0), 1);
            due("no CELLS", x.count(3), 0);
            due("no CELLS", x.lay(0, 0, 1), -12);
            due("the most CELLS", x.sheet(0, lane, 40), 1);
            due("the most CELLS", x.count(3), 40);
            due("the last CELL", x.lay(0, 39, 1), 1);
            due("one behind", x.lay(0, 40, 1), -12);
            due("CELLS are 0", x.read(0, lane, 0, 1), 1);
            due("CELLS are 0", x.bound(0), 0);
            for (int i = 0; i < 40; i++) {
                due("lay", x.lay(0, i, 1), 1);
            }
            due("a new row", x.sheet(0, lane, 40), 1);
            x.bind(0, 1);
            for (int i = 0; i < 40; i += 2) {
                due("a new row is 0 again", x.read(0, lane, i, 1), 1);
                x.bind(0, 1);
            }
            due("shorter", x.sheet(0, lane, 2), 1);
            due("shorter", x.lay(0, 2, 1), -12);
        }
        due("the last SHEET", x.sheet(3, 2, 1), 1);
        due("one CELL", x.lay(3, 0, MOST), 1);
        due("SHEET 0 is another", x.count(3), 2);
    }

    // "CELL i of a SHEET becomes v (its lowest bits)", "BYTES, SHORTS, INTS, all with a sign"
    private static void lowestBits() {
        int[][] ones = {{1, 257, 65537, -255, LEAST + 1}, {1, 65537, -65535, LEAST + 1}, {1}};
        int[][] others = {{127, 128, 255, 129, -1, -128, MOST}, {257, 32767, 32768, 65535, -1, MOST},
            {257, 65537, -255, LEAST + 1, -1, MOST, LEAST}};
        for (int lane = 0; lane < 3; lane++) {
            for (int v : ones[lane]) {
                due("1 by the lowest bits of " + v, bindsTo(lane, v), 1);
            }
            for (int v : others[lane]) {
                due("another than 1 by " + v, bindsTo(lane, v), -20);
            }
        }
    }

    private static int bindsTo(int lane, int v) {
        TuneWard x = told("plain 1 0 1;plain 1 0 1;bound 0;");
        x.sheet(0, lane, 2);
        x.lay(0, 1, v);
        return x.read(0, lane, 0, 1);
    }

    // ---- promises 39, 40

    private static void reading() {
        bad("read(v, 1, 0, 0)", outside(0, 3), (x, v) -> x.read(v, 1, 0, 0));
        bad("read(1, v, 0, 0)", outside(0, 2), (x, v) -> x.read(1, v, 0, 0));
        bad("read(1, 1, 0, v)", outside(0, 20), (x, v) -> x.read(1, 1, 0, v));
        bad("read(3, 1, 0, v) of nothing", outside(0, 20), (x, v) -> x.read(3, 1, 0, v));
        // Pairs of SHEET 1: 0 1, 1 2, 0 1 and half a pair.
        refused("the third is BOUND to it by the first", -22, x -> x.read(1, 1, 0, 3));
        refused("ahead of the INDEX", -22, x -> x.read(1, 1, 0, 20));
        refused("the pair 1 1 is refused", -20, x -> x.read(1, 1, 1, 1));
        refused("the pair 1 1 is refused, whatever follows", -20, x -> x.read(1, 1, 1, 20));
        machineFaults();
        wholeSheets();
        refusedPairs();
        noneIsRead();
    }

    private static TuneWard pairs(int lane, int... cells) {
        TuneWard x = told("plain1 0 1;plain1 0 1;plain1 0 1;bound0;bound0;bound0;");
        x.sheet(0, lane, cells.length);
        for (int i = 0; i < cells.length; i++) {
            x.lay(0, i, cells[i]);
        }
        return x;
    }

    private static void reads(String what, TuneWard x, int lane, int f, int n, int want, int torn) {
        due(what, x.read(0, lane, f, n), want);
        due(what + ": torn", x.torn(), torn);
    }

    private static void machineFaults() {
        for (int lane = 0; lane < 3; lane++) {
            TuneWard x = pairs(lane, 0, 1, 1, 2, 2);
            for (int other = 0; other < 3; other++) {
                if (other != lane) {
                    reads("CAST", x, other, 0, 1, 0, 3);
                    reads("CAST, whatever the INDEX", x, other, 99, 20, 0, 3);
                }
            }
            for (int f : new int[] {LEAST, LEAST + 1, -40, -2, -1, 5, 6, 40, MOST - 1, MOST}) {
                reads("INDEX from " + f, x, lane, f, 1, 0, 2);
                reads("INDEX from " + f, x, lane, f, 20, 0, 2);
            }
            reads("half a pair", x, lane, 4, 1, 0, 2);
            due("no one was BOUND", x.bound(0) + x.bound(1) + x.bound(2), 0);
            reads("those that were whole ahead were", x, lane, 0, 3, 2, 2);
            due("the first", x.bound(0), 1);
            due("the second", x.bound(1), 2);
            due("not the third", x.bound(2), 0);
            due("nothing: NULL", x.read(1, lane, 0, 1), 0);
            due("nothing: NULL", x.torn(), 1);
            due("nothing: NULL, whatever the INDEX", x.read(3, lane, -1, 20), 0);
            due("nothing: NULL, whatever the INDEX", x.torn(), 1);
        }
        TuneWard none = pairs(1);
        reads("no CELLS", none, 1, 0, 1, 0, 2);
        reads("one CELL", pairs(1, 0), 1, 0, 1, 0, 2);
    }

    private static void wholeSheets() {
        int[] cells = new int[40];
        for (int i = 0; i < 20; i++) {
            cells[2 * i] = i % 3;
            cells[2 * i + 1] = 1 + i / 3 % 2;
        }
        TuneWard x = pairs(0, cells);
        reads("the most, to the last CELL", x, 0, 0, 20, 20, 0);
        due("the last that each was BOUND to", x.bound(0), 1);
        due("the last that each was BOUND to", x.bound(2), 2);
        TuneWard shorter = pairs(0, java.util.Arrays.copyOf(cells, 39));
        reads("one CELL too few", shorter, 0, 0, 20, 19, 2);
        reads("the last pair", pairs(0, cells), 0, 38, 1, 1, 0);
        reads("a pair behind the last", pairs(0, cells), 0, 38, 2, 1, 2);
        reads("half of the last pair", pairs(0, cells), 0, 39, 1, 0, 2);
        reads("exactly to the end", pairs(2, 0, 1), 2, 0, 1, 1, 0);
    }

    private static void refusedPairs() {
        int[][] pairsThatAreRefused = {{3, 0}, {-1, 0}, {0, 3}, {0, -1}, {0, 2}};
        for (int[] pair : pairsThatAreRefused) {
            TuneWard x = pairs(2, 1, 1, 0, 2, pair[0], pair[1], 2, 2);
            x.read(3, 0, 0, 1);
            due("refused by bind(): the third", x.read(0, 2, 0, 4), -22);
            due("refused by bind(): the third", x.read(0, 2, 0, 3), -22);
            due("none was", x.bound(0) + x.bound(1) + x.bound(2), 0);
            due("torn stays", x.torn(), 1);
            reads("the two ahead of it", x, 2, 0, 2, 2, 0);
            due("they were", x.bound(0) * 10 + x.bound(1), 21);
        }
        int[] cells = new int[40];
        for (int i = 0; i < 20; i++) {
            cells[2 * i + 1] = 1 + i % 2;
        }
        cells[39] = 1;
        TuneWard last = pairs(1, cells);
        due("the last of 20", last.read(0, 1, 0, 20), -39);
        due("none was", last.bound(0), 0);
        cells[0] = 3;
        due("the first of 20", pairs(1, cells).read(0, 1, 0, 20), -20);
        TuneWard first = pairs(1, 0, 1, 0, 1, 0);
        due("the first met: ahead of INDEX", first.read(0, 1, 0, 3), -21);
        reads("INDEX ahead of a pair that is not whole", pairs(1, 0, 1, 9), 1, 0, 2, 1, 2);
    }

    // "of n 0: 0, no FAULT, whatever the SHEET is", "one that is refused leaves it"
    private static void noneIsRead() {
        for (int f : new int[] {LEAST, -1, 0, 2, 40, MOST}) {
            TuneWard x = pairs(1, 0, 1);
            x.read(0, 1, 9, 1);
            reads("n 0 of another lane", x, 0, f, 0, 0, 0);
            x.read(0, 1, 9, 1);
            reads("n 0 of its lane", x, 1, f, 0, 0, 0);
            x.read(0, 1, 9, 1);
            due("n 0 of nothing", x.read(3, 1, f, 0), 0);
            due("n 0 of nothing: torn", x.torn(), 0);
            due("nobody was BOUND", x.bound(0), 0);
        }
        TuneWard x = pairs(1, 0, 0);
        for (int[] call : new int[][] {{4, 1, 0, 1}, {0, 3, 0, 1}, {0, 1, 0, 21}, {0, 1, 0, -1}, {0, 1, 0, 1}}) {
            for (int torn = 1; torn <= 3; torn++) {
                x.read(torn == 1 ? 1 : 0, torn == 3 ? 0 : 1, torn == 2 ? 2 : 0, 1);
                due("FAULT", x.torn(), torn);
                due("refused", x.read(call[0], call[1], call[2], call[3]) < 0 ? 1 : 0, 1);
                due("one that is refused leaves it", x.torn(), torn);
            }
        }
        TuneWard empty = new TuneWard();
        empty.sheet(0, 1, 2);
        due("nobody to be BOUND", empty.read(0, 1, 0, 1), -20);
        due("torn as at first", empty.torn(), 0);
    }

    // ---- promise 41

    private static void counting() {
        bad("count", outside(0, 5), TuneWard::count);
        answers("count", inUse(FULL_HOUSE), TuneWard::count, 2, 1, 10, 40, 11, 33, BAD);
        TuneWard x = told("fugue9 9 1 2 3 4 5 6 7 8;fugue9 9 1 2 3 4 5 6 7 8;fugue9 9 1 2 3 4 5 6 7 8;"
                + "fugue9 9 1 2 3 4 5 6 7 8;");
        answers("the most NOTES, LENGTHS", x, TuneWard::count, 0, 0, 0, NONE, 32, 576, BAD);
        for (int k = 1; k < 4; k++) {
            x.sheet(k, 0, 5);
        }
        due("SHEET 0 has nothing", x.count(3), NONE);
        x.sheet(0, 0, 0);
        due("SHEET 0 has no CELLS", x.count(3), 0);
        x.sheet(0, 0, -1);
        due("as it was", x.count(3), 0);
        x.sheet(0, 0, 40);
        due("as many as may be", x.count(3), 40);
    }
}
