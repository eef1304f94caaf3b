/** Prisoners who are held as long as a tune is being played: see ../shared/DOC.md. */
public final class TuneWard {
    public static final int BAD = -1, STATE = -2, FULL = -3, NONE = -4;

    private static final int MOST_TUNES = 4, MOST_PLAYERS = 4, MOST_PRISONERS = 6;
    private static final int MOST_NOTES = 8, MOST_ROW = 16;
    private static final int KINDS = 4, PLAIN = 0, RONDO = 1, FUGUE = 2, LULLABY = 3;
    private static final int MOST_NOTE = 9, MOST_TIMES = 9, MOST_START = 9;
    private static final int MOST_SKILL = 9, MOST_BREATH = 99, MOST_PAY = 9;
    private static final int MINUTES = 160, MOST_LENGTH = 144, STARTS_TRIED = 4;
    private static final int SERVED = 0, SLIP = 1, NO_BREATH = 2, CROSSED = 3;
    private static final int MOST_SEEN = 6, IMAGES = 2, SHEETS = 4, LANES = 3, MOST_CELLS = 40, MOST_READ = 20;
    private static final int NULL_FAULT = 1, INDEX_FAULT = 2, CAST_FAULT = 3, SIZE_FAULT = 4;
    private static final int TENTHS = 10;
    /** More than may GET AWAY, more than any COST. */
    private static final int ABOVE_ALL = 1000000;

    private final House now = new House();
    private final House told = new House();
    private final House trial = new House();
    private final House[] images = new House[IMAGES];
    private final boolean[] kept = new boolean[IMAGES];
    private final Tape tape = new Tape();
    private final Playing playing = new Playing();
    private final Sheet[] sheets = new Sheet[SHEETS];
    private final int[] seenTune = new int[MOST_SEEN];
    private final int[] seenMinute = new int[MOST_SEEN];
    private final int[] seenNote = new int[MOST_SEEN];
    private int seen = 0;
    private int tear = 0;

    public TuneWard() {
        for (int k = 0; k < IMAGES; k++) {
            images[k] = new House();
        }
        for (int k = 0; k < SHEETS; k++) {
            sheets[k] = new Sheet();
        }
    }

    // ---- the text, what there is

    public int feed(int c) {
        if (!within(c, 0, 127)) {
            return BAD;
        }
        return tape.append(c);
    }

    public int end(int n) {
        int had = tape.length;
        if (!within(n, 0, had)) {
            return BAD;
        }
        tape.length = n;
        return had;
    }

    public int text() {
        int answer = tape.tellAll(told);
        tape.length = 0;
        if (answer >= 0) {
            now.become(told);
            seen = 0;
            for (int k = 0; k < IMAGES; k++) {
                kept[k] = false;
            }
        }
        return answer;
    }

    public int fault() {
        return tape.faultFound;
    }

    public int rule(int what) {
        switch (what) {
            case 0: return now.tunes;
            case 1: return now.players;
            case 2: return now.prisoners;
            default: return BAD;
        }
    }

    public int tune(int t, int what) {
        if (!now.hasTune(t)) {
            return BAD;
        }
        switch (what) {
            case 0: return now.kind[t];
            case 1: return now.notes[t];
            case 2: return now.times[t];
            case 3: return now.start[t];
            case 4: return now.lengthAs(t, now.kind[t]);
            case 5: return now.boundTo(t);
            default: return BAD;
        }
    }

    public int note(int t, int i) {
        if (!now.hasNote(t, i)) {
            return BAD;
        }
        return now.score[t * MOST_NOTES + i];
    }

    public int has(int t, int m) {
        if (!now.hasTune(t) || !within(m, 0, MINUTES - 1)) {
            return BAD;
        }
        return now.noteAs(t, now.kind[t], m);
    }

    public int player(int p, int what) {
        if (!now.hasPlayer(p)) {
            return BAD;
        }
        switch (what) {
            case 0: return now.skill[p];
            case 1: return now.breath[p];
            case 2: return now.pay[p];
            case 3: return now.at[p];
            default: return BAD;
        }
    }

    public int bound(int q) {
        return now.hasPrisoner(q) ? now.bond[q] : BAD;
    }

    // ---- what is changed

    public int write(int t, int i, int v) {
        if (!now.hasNote(t, i) || !within(v, 0, MOST_NOTE)) {
            return BAD;
        }
        return exchange(now.score, t * MOST_NOTES + i, v);
    }

    public int add(int t, int v) {
        if (!now.hasTune(t) || !within(v, 0, MOST_NOTE)) {
            return BAD;
        }
        int many = now.notes[t];
        if (many >= MOST_NOTES) {
            return FULL;
        }
        now.score[t * MOST_NOTES + many] = v;
        now.notes[t] = many + 1;
        return many + 1;
    }

    public int set(int t, int what, int v) {
        if (!now.hasTune(t)) {
            return BAD;
        }
        switch (what) {
            case 0: return within(v, 0, KINDS - 1) ? exchange(now.kind, t, v) : BAD;
            case 2: return within(v, 1, MOST_TIMES) ? exchange(now.times, t, v) : BAD;
            case 3: return within(v, 0, MOST_START) ? exchange(now.start, t, v) : BAD;
            default: return BAD;
        }
    }

    public int hire(int p, int what, int v) {
        if (!now.hasPlayer(p)) {
            return BAD;
        }
        switch (what) {
            case 0: return within(v, 0, MOST_SKILL) ? exchange(now.skill, p, v) : BAD;
            case 1: return within(v, 1, MOST_BREATH) ? exchange(now.breath, p, v) : BAD;
            case 2: return within(v, 0, MOST_PAY) ? exchange(now.pay, p, v) : BAD;
            case 3: return now.hasTune(v) ? exchange(now.at, p, v) : BAD;
            default: return BAD;
        }
    }

    public int bind(int q, int t) {
        return now.rebind(q, t);
    }

    // ---- a playing

    public int out(int q, int what) {
        if (!now.hasPrisoner(q) || !within(what, 0, 1)) {
            return BAD;
        }
        return over(now.bond[q], what);
    }

    public int over(int t, int what) {
        if (!now.hasTune(t) || !within(what, 0, 2)) {
            return BAD;
        }
        playing.run(now, 0);
        switch (what) {
            case 0: return playing.overAt[t];
            case 1: return playing.why[t];
            default: return playing.sounded[t];
        }
    }

    public int plays(int p) {
        if (!now.hasPlayer(p)) {
            return BAD;
        }
        playing.run(now, 0);
        return playing.played[p];
    }

    public int sounds(int m) {
        if (!within(m, 0, MINUTES - 1)) {
            return BAD;
        }
        playing.run(now, 0);
        int bits = 0;
        for (int t = 0; t < now.tunes; t++) {
            // A TUNE never pauses, so what SOUNDED is one stretch from START on.
            if (m >= now.start[t] && m - now.start[t] < playing.sounded[t]) {
                bits |= 1 << t;
            }
        }
        return bits;
    }

    public int sum(int what) {
        if (!within(what, 0, 3)) {
            return BAD;
        }
        playing.run(now, 0);
        switch (what) {
            case 0: return playing.away(now);
            case 1: return playing.cost(now);
            case 2: return playing.lastOver(now);
            default: return playing.crossedTunes(now);
        }
    }

    public int first(int what) {
        if (!within(what, 0, 1)) {
            return BAD;
        }
        playing.run(now, 0);
        int earliest = -1;
        for (int q = 0; q < now.prisoners; q++) {
            if (playing.getsAway(now, q)
                    && (earliest < 0 || playing.outAt(now, q) < playing.outAt(now, earliest))) {
                earliest = q;
            }
        }
        if (earliest < 0) {
            return NONE;
        }
        return what == 0 ? playing.outAt(now, earliest) : earliest;
    }

    // ---- what is best

    public int best(int what) {
        boolean ofPlayer = what >= 10 && now.hasPlayer(what - 10);
        if (!within(what, 0, 1) && !ofPlayer) {
            return BAD;
        }
        if (now.tunes < 1) {
            return STATE;
        }
        trial.become(now);
        int codes = power(now.tunes, now.players);
        int bestCode = 0;
        int fewest = ABOVE_ALL;
        int cheapest = ABOVE_ALL;
        for (int code = 0; code < codes; code++) {
            spread(code, now.tunes, trial.at, now.players);
            playing.run(trial, 0);
            int away = playing.away(trial);
            int cost = playing.cost(trial);
            if (away < fewest || away == fewest && cost < cheapest) {
                fewest = away;
                cheapest = cost;
                bestCode = code;
            }
        }
        if (!ofPlayer) {
            return what == 0 ? fewest : cheapest;
        }
        spread(bestCode, now.tunes, trial.at, now.players);
        return trial.at[what - 10];
    }

    public int apart(int what) {
        boolean ofTune = what >= 10 && now.hasTune(what - 10);
        if (what != 0 && !ofTune) {
            return BAD;
        }
        if (now.tunes < 1) {
            return STATE;
        }
        trial.become(now);
        int codes = power(STARTS_TRIED, now.tunes);
        int bestCode = 0;
        int fewest = ABOVE_ALL;
        for (int code = 0; code < codes; code++) {
            spread(code, STARTS_TRIED, trial.start, now.tunes);
            playing.run(trial, 0);
            int away = playing.away(trial);
            if (away < fewest) {
                fewest = away;
                bestCode = code;
            }
        }
        if (!ofTune) {
            return fewest;
        }
        spread(bestCode, STARTS_TRIED, trial.start, now.tunes);
        return trial.start[what - 10];
    }

    public int compose(int length, int what) {
        if (!within(length, 1, MOST_LENGTH) || !within(what, 0, 2)) {
            return BAD;
        }
        for (int many = 1; many <= MOST_NOTES; many++) {
            for (int kind = 0; kind < KINDS; kind++) {
                for (int times = 1; times <= MOST_TIMES; times++) {
                    if (times * House.rowLength(kind, many) == length) {
                        return what == 0 ? many : what == 1 ? kind : times;
                    }
                }
            }
        }
        return NONE;
    }

    public int bribe(int set, int m, int what) {
        boolean asTold = within(set, 0, (1 << now.prisoners) - 1) && within(m, 0, MINUTES - 1) && within(what, 0, 1);
        if (!asTold) {
            return BAD;
        }
        int least = -1;
        for (int bribed = 0; bribed < 1 << now.players; bribed++) {
            if (least < 0 || Integer.bitCount(bribed) < Integer.bitCount(least)) {
                playing.run(now, bribed);
                if (playing.allOut(now, set, m)) {
                    least = bribed;
                }
            }
        }
        if (least < 0) {
            return NONE;
        }
        return what == 0 ? Integer.bitCount(least) : least;
    }

    public int teach(int what) {
        if (!within(what, 0, 1)) {
            return BAD;
        }
        playing.run(now, 0);
        int fewest = playing.away(now);
        int taught = -1;
        trial.become(now);
        for (int p = 0; p < now.players; p++) {
            trial.skill[p] = MOST_SKILL;
            playing.run(trial, 0);
            trial.skill[p] = now.skill[p];
            int away = playing.away(trial);
            if (away < fewest) {
                fewest = away;
                taught = p;
            }
        }
        if (taught < 0) {
            return NONE;
        }
        return what == 0 ? taught : fewest;
    }

    // ---- strings

    public long mean(int v, int what) {
        if (!within(v, 0, TENTHS) || !within(what, 0, 1)) {
            return BAD;
        }
        long sum = 0;
        for (int broken = 0; broken < 1 << now.players; broken++) {
            playing.run(now, broken);
            sum += weight(broken, v) * playing.away(now);
        }
        return inLowestTerms(sum, power(TENTHS, now.players), what);
    }

    public long luck(int v, int q, int what) {
        if (!within(v, 0, TENTHS) || !now.hasPrisoner(q) || !within(what, 0, 1)) {
            return BAD;
        }
        long sum = 0;
        for (int broken = 0; broken < 1 << now.players; broken++) {
            playing.run(now, broken);
            if (!playing.getsAway(now, q)) {
                sum += weight(broken, v);
            }
        }
        return inLowestTerms(sum, power(TENTHS, now.players), what);
    }

    // ---- which kind it is

    public int see(int t, int m, int note) {
        boolean asTold = now.hasTune(t) && within(m, 0, MINUTES - 1) && (note == NONE || within(note, 0, MOST_NOTE));
        if (!asTold) {
            return BAD;
        }
        if (seen >= MOST_SEEN) {
            return FULL;
        }
        seenTune[seen] = t;
        seenMinute[seen] = m;
        seenNote[seen] = note;
        seen++;
        return seen;
    }

    public int forget(int n) {
        int had = seen;
        if (!within(n, 0, had)) {
            return BAD;
        }
        seen = n;
        return had;
    }

    public int fits(int t) {
        return now.hasTune(t) ? fittingKinds(t) : BAD;
    }

    public int listen(int t, int what) {
        if (!now.hasTune(t) || !within(what, 0, 1)) {
            return BAD;
        }
        int kinds = fittingKinds(t);
        int fewest = Integer.bitCount(kinds);
        int minute = -1;
        for (int m = 0; m < MINUTES; m++) {
            int left = leftAtWorst(t, kinds, m);
            if (left < fewest) {
                fewest = left;
                minute = m;
            }
        }
        if (minute < 0) {
            return NONE;
        }
        return what == 0 ? minute : fewest;
    }

    // ---- by a seed

    public int drift(int seed, int n, int what) {
        if (!within(n, 1, 20) || !within(what, 0, 1)) {
            return BAD;
        }
        if (now.tunes < 1) {
            return STATE;
        }
        trial.become(now);
        int state = seed;
        int most = 0;
        int costs = 0;
        for (int i = 0; i < n; i++) {
            state = nextSeed(state);
            int t = middleBits(state) % trial.tunes;
            state = nextSeed(state);
            trial.spoil(t, middleBits(state));
            playing.run(trial, 0);
            most = Math.max(most, playing.away(trial));
            costs += playing.cost(trial);
        }
        return what == 0 ? most : costs;
    }

    // ---- images, sheets

    public int keep(int k) {
        if (!within(k, 0, IMAGES - 1)) {
            return BAD;
        }
        int before = kept[k] ? 1 : 0;
        images[k].become(now);
        kept[k] = true;
        return before;
    }

    public int back(int k) {
        if (!within(k, 0, IMAGES - 1)) {
            return BAD;
        }
        if (!kept[k]) {
            return STATE;
        }
        now.become(images[k]);
        return now.allNotes();
    }

    public int sheet(int k, int lane, int n) {
        if (!within(k, 0, SHEETS - 1) || !within(lane, 0, LANES - 1) || n > MOST_CELLS) {
            return BAD;
        }
        if (n < 0) {
            return -10 - SIZE_FAULT;
        }
        sheets[k].renew(lane, n);
        return 1;
    }

    public int lay(int k, int i, int v) {
        if (!within(k, 0, SHEETS - 1)) {
            return BAD;
        }
        Sheet sheet = sheets[k];
        if (!sheet.there) {
            return -10 - NULL_FAULT;
        }
        if (!sheet.hasCell(i)) {
            return -10 - INDEX_FAULT;
        }
        sheet.cells[i] = Sheet.narrowed(sheet.lane, v);
        return 1;
    }

    public int read(int k, int lane, int f, int n) {
        if (!within(k, 0, SHEETS - 1) || !within(lane, 0, LANES - 1) || !within(n, 0, MOST_READ)) {
            return BAD;
        }
        Sheet sheet = sheets[k];
        int found = n == 0 ? 0 : sheet.faultAs(lane);
        int whole = 0;
        // Bound in the trial first: a pair that is refused undoes those ahead of it.
        trial.become(now);
        for (int i = 0; i < n && found == 0; i++) {
            long cell = (long) f + 2 * i;
            if (!sheet.hasCell(cell) || !sheet.hasCell(cell + 1)) {
                found = INDEX_FAULT;
            } else if (trial.rebind(sheet.cells[(int) cell], sheet.cells[(int) cell + 1]) < 0) {
                return -20 - i;
            } else {
                whole++;
            }
        }
        now.become(trial);
        tear = found;
        return whole;
    }

    public int torn() {
        return tear;
    }

    public int count(int what) {
        switch (what) {
            case 0: return seen;
            case 1: return (kept[0] ? 1 : 0) + (kept[1] ? 1 : 0);
            case 2: return tape.length;
            case 3: return sheets[0].there ? sheets[0].size : NONE;
            case 4: return now.allNotes();
            case 5: return now.allLengths();
            default: return BAD;
        }
    }

    // ---- what the calls share

    private static boolean within(int v, int low, int high) {
        return v >= low && v <= high;
    }

    private static int exchange(int[] row, int i, int v) {
        int before = row[i];
        row[i] = v;
        return before;
    }

    private static int power(int base, int exponent) {
        int product = 1;
        for (int i = 0; i < exponent; i++) {
            product *= base;
        }
        return product;
    }

    /** The figures of a code go into a row, the highest first, so that codes go up as rows do. */
    private static void spread(int code, int base, int[] row, int many) {
        int rest = code;
        for (int i = many - 1; i >= 0 && base > 0; i--) {
            row[i] = rest % base;
            rest /= base;
        }
    }

    /** How many of 10 to the power of PLAYERS are the cases in which just these strings break. */
    private long weight(int broken, int v) {
        long product = 1;
        for (int p = 0; p < now.players; p++) {
            product *= (broken >> p & 1) == 1 ? v : TENTHS - v;
        }
        return product;
    }

    private static long inLowestTerms(long numerator, long denominator, int what) {
        long a = denominator;
        long b = numerator;
        for (int i = 0; i < 100 && b != 0; i++) {
            long rest = a % b;
            a = b;
            b = rest;
        }
        long part = what == 0 ? numerator : denominator;
        return a > 0 ? part / a : part;
    }

    private int fittingKinds(int t) {
        int bits = 0;
        for (int kind = 0; kind < KINDS; kind++) {
            boolean fitting = true;
            for (int i = 0; i < seen; i++) {
                if (seenTune[i] == t && now.noteAs(t, kind, seenMinute[i]) != seenNote[i]) {
                    fitting = false;
                }
            }
            if (fitting) {
                bits |= 1 << kind;
            }
        }
        return bits;
    }

    /** Of some KINDS, how many have the note that most of them have in a minute. */
    private int leftAtWorst(int t, int kinds, int m) {
        int worst = 0;
        for (int kind = 0; kind < KINDS; kind++) {
            int alike = 0;
            for (int other = 0; other < KINDS; other++) {
                boolean both = (kinds >> kind & kinds >> other & 1) == 1;
                if (both && now.noteAs(t, kind, m) == now.noteAs(t, other, m)) {
                    alike++;
                }
            }
            worst = Math.max(worst, alike);
        }
        return worst;
    }

    private static int nextSeed(int seed) {
        return seed * 1103515245 + 12345;
    }

    private static int middleBits(int seed) {
        return seed >>> 16 & 0x7fff;
    }

    /** TUNES, PLAYERS, PRISONERS: those that there are, those of a text, of an IMAGE, of a trial. */
    private static final class House {
        int tunes = 0;
        int players = 0;
        int prisoners = 0;
        final int[] kind = new int[MOST_TUNES];
        final int[] notes = new int[MOST_TUNES];
        final int[] times = new int[MOST_TUNES];
        final int[] start = new int[MOST_TUNES];
        final int[] score = new int[MOST_TUNES * MOST_NOTES];
        final int[] skill = new int[MOST_PLAYERS];
        final int[] breath = new int[MOST_PLAYERS];
        final int[] pay = new int[MOST_PLAYERS];
        final int[] at = new int[MOST_PLAYERS];
        final int[] bond = new int[MOST_PRISONERS];

        void clear() {
            tunes = 0;
            players = 0;
            prisoners = 0;
        }

        void become(House other) {
            tunes = other.tunes;
            players = other.players;
            prisoners = other.prisoners;
            System.arraycopy(other.kind, 0, kind, 0, MOST_TUNES);
            System.arraycopy(other.notes, 0, notes, 0, MOST_TUNES);
            System.arraycopy(other.times, 0, times, 0, MOST_TUNES);
            System.arraycopy(other.start, 0, start, 0, MOST_TUNES);
            System.arraycopy(other.score, 0, score, 0, MOST_TUNES * MOST_NOTES);
            System.arraycopy(other.skill, 0, skill, 0, MOST_PLAYERS);
            System.arraycopy(other.breath, 0, breath, 0, MOST_PLAYERS);
            System.arraycopy(other.pay, 0, pay, 0, MOST_PLAYERS);
            System.arraycopy(other.at, 0, at, 0, MOST_PLAYERS);
            System.arraycopy(other.bond, 0, bond, 0, MOST_PRISONERS);
        }

        boolean hasTune(int t) {
            return within(t, 0, tunes - 1);
        }

        boolean hasNote(int t, int i) {
            return hasTune(t) && within(i, 0, notes[t] - 1);
        }

        boolean hasPlayer(int p) {
            return within(p, 0, players - 1);
        }

        boolean hasPrisoner(int q) {
            return within(q, 0, prisoners - 1);
        }

        static int rowLength(int kind, int many) {
            switch (kind) {
                case RONDO: return many + (many + 1) / 2;
                case FUGUE: return 2 * many;
                default: return many;
            }
        }

        int lengthAs(int t, int ofKind) {
            return times[t] * rowLength(ofKind, notes[t]);
        }

        /** The note i of a ROW (i below its length) of a TUNE, were it of a KIND. */
        int rowNote(int t, int ofKind, int i) {
            int many = notes[t];
            int again = ofKind == FUGUE ? 2 * many - 1 - i : i - many;
            int written = score[t * MOST_NOTES + (i < many ? i : again)];
            return ofKind == LULLABY ? Math.max(written - 1, 0) : written;
        }

        /** The note that a TUNE would have in a minute, were it of a KIND, or NONE. */
        int noteAs(int t, int ofKind, int m) {
            int row = rowLength(ofKind, notes[t]);
            int i = m - start[t];
            if (row < 1 || i < 0 || i >= times[t] * row) {
                return NONE;
            }
            return rowNote(t, ofKind, i % row);
        }

        int boundTo(int t) {
            int bits = 0;
            for (int q = 0; q < prisoners; q++) {
                if (bond[q] == t) {
                    bits |= 1 << q;
                }
            }
            return bits;
        }

        int allNotes() {
            int all = 0;
            for (int t = 0; t < tunes; t++) {
                all += notes[t];
            }
            return all;
        }

        int allLengths() {
            int all = 0;
            for (int t = 0; t < tunes; t++) {
                all += lengthAs(t, kind[t]);
            }
            return all;
        }

        int rebind(int q, int t) {
            if (!hasPrisoner(q) || !hasTune(t)) {
                return BAD;
            }
            return bond[q] == t ? STATE : exchange(bond, q, t);
        }

        /** A NOTE of a TUNE changes as the bits of a seed tell. */
        void spoil(int t, int bits) {
            int many = notes[t];
            if (many > 0) {
                score[t * MOST_NOTES + bits % many] = bits / 10 % 10;
            }
        }

        boolean allTunesAreThere() {
            for (int p = 0; p < players; p++) {
                if (!hasTune(at[p])) {
                    return false;
                }
            }
            for (int q = 0; q < prisoners; q++) {
                if (!hasTune(bond[q])) {
                    return false;
                }
            }
            return true;
        }
    }

    /** A PLAYING of a House; its rows are used again by the next one. */
    private static final class Playing {
        private static final int NOT_YET = -1, SILENT = -1;

        final int[] overAt = new int[MOST_TUNES];
        final int[] why = new int[MOST_TUNES];
        final int[] sounded = new int[MOST_TUNES];
        final int[] played = new int[MOST_PLAYERS];
        final int[] breathLeft = new int[MOST_PLAYERS];
        final int[] heard = new int[MOST_TUNES];
        final int[] rowLength = new int[MOST_TUNES];
        final int[] length = new int[MOST_TUNES];
        final int[] row = new int[MOST_TUNES * MOST_ROW];
        int tunesLeft = 0;

        /** Plays all TUNES to their ends; PLAYERS among the idle (bits) do not play at all. */
        void run(House house, int idle) {
            for (int t = 0; t < house.tunes; t++) {
                prepareTune(house, t);
            }
            for (int p = 0; p < house.players; p++) {
                played[p] = 0;
                breathLeft[p] = (idle >> p & 1) == 1 ? 0 : house.breath[p];
            }
            tunesLeft = house.tunes;
            for (int m = 0; m < MINUTES && tunesLeft > 0; m++) {
                for (int t = 0; t < house.tunes; t++) {
                    boolean begun = overAt[t] == NOT_YET && m >= house.start[t];
                    heard[t] = begun ? noteHeard(house, t, m) : SILENT;
                }
                crossAll(house, m);
            }
        }

        private void prepareTune(House house, int t) {
            int kind = house.kind[t];
            overAt[t] = NOT_YET;
            sounded[t] = 0;
            length[t] = house.lengthAs(t, kind);
            rowLength[t] = House.rowLength(kind, house.notes[t]);
            // Written out once, as a ROW is played many TIMES.
            for (int i = 0; i < rowLength[t]; i++) {
                row[t * MOST_ROW + i] = house.rowNote(t, kind, i);
            }
        }

        private void finish(int t, int m, int reason) {
            overAt[t] = m;
            why[t] = reason;
            tunesLeft--;
        }

        /** The note by which a TUNE SOUNDS in a minute; where it does not, it is OVER. */
        private int noteHeard(House house, int t, int m) {
            if (rowLength[t] < 1 || sounded[t] >= length[t]) {
                finish(t, m, SERVED);
                return SILENT;
            }
            int p = playerOf(house, t);
            if (p < 0) {
                finish(t, m, NO_BREATH);
                return SILENT;
            }
            breathLeft[p]--;
            played[p]++;
            int note = row[t * MOST_ROW + sounded[t] % rowLength[t]];
            if (note > house.skill[p]) {
                finish(t, m, SLIP);
                return SILENT;
            }
            sounded[t]++;
            return note;
        }

        private int playerOf(House house, int t) {
            for (int p = 0; p < house.players; p++) {
                if (house.at[p] == t && breathLeft[p] > 0) {
                    return p;
                }
            }
            return -1;
        }

        private void crossAll(House house, int m) {
            for (int a = 0; a < house.tunes; a++) {
                for (int b = a + 1; b < house.tunes; b++) {
                    if (heard[a] != SILENT && heard[a] == heard[b]) {
                        crossThird(house, a, b, m);
                    }
                }
            }
        }

        private void crossThird(House house, int a, int b, int m) {
            for (int t = 0; t < house.tunes; t++) {
                if (t != a && t != b && heard[t] != SILENT && overAt[t] == NOT_YET) {
                    finish(t, m, CROSSED);
                    return;
                }
            }
        }

        int outAt(House house, int q) {
            return overAt[house.bond[q]];
        }

        boolean getsAway(House house, int q) {
            return why[house.bond[q]] != SERVED;
        }

        int away(House house) {
            int many = 0;
            for (int q = 0; q < house.prisoners; q++) {
                if (getsAway(house, q)) {
                    many++;
                }
            }
            return many;
        }

        boolean allOut(House house, int set, int m) {
            for (int q = 0; q < house.prisoners; q++) {
                if ((set >> q & 1) == 1 && outAt(house, q) > m) {
                    return false;
                }
            }
            return true;
        }

        int cost(House house) {
            int all = 0;
            for (int p = 0; p < house.players; p++) {
                all += played[p] * house.pay[p];
            }
            return all;
        }

        int lastOver(House house) {
            int last = 0;
            for (int t = 0; t < house.tunes; t++) {
                last = Math.max(last, overAt[t]);
            }
            return last;
        }

        int crossedTunes(House house) {
            int many = 0;
            for (int t = 0; t < house.tunes; t++) {
                if (why[t] == CROSSED) {
                    many++;
                }
            }
            return many;
        }
    }

    /** THE TAPE, and how its TOKENS are read. */
    private static final class Tape {
        private static final int MOST_BYTES = 160;
        private static final int END = 0, NAME = 1, NUMBER = 2, SIGN = 3, NO_TOKEN = 4;
        private static final int UNREADABLE = 1, MISPLACED = 2, OUT_OF_BOUNDS = 3, TOO_MANY = 5, NO_SUCH_TUNE = 6;

        final int[] bytes = new int[MOST_BYTES];
        int length = 0;
        int faultFound = 0;
        int faultPlace = 0;
        int token = END;
        int tokenPlace = 0;
        int next = 0;

        int append(int c) {
            if (length >= MOST_BYTES) {
                return FULL;
            }
            bytes[length] = c;
            length++;
            return length;
        }

        /** How many lines it told the House; by a FAULT -10 less its place, and the House is of no use. */
        int tellAll(House house) {
            house.clear();
            faultFound = 0;
            next = 0;
            int lines = 0;
            advance();
            while (faultFound == 0 && token != END && lines < MOST_BYTES) {
                tellLine(house);
                advance();
                lines++;
            }
            if (faultFound == 0 && !house.allTunesAreThere()) {
                fail(NO_SUCH_TUNE, length);
            }
            return faultFound == 0 ? lines : -10 - faultPlace;
        }

        private void tellLine(House house) {
            if (token == NO_TOKEN) {
                fail(UNREADABLE, tokenPlace);
            } else if (isName("plain")) {
                tellTune(house, PLAIN);
            } else if (isName("rondo")) {
                tellTune(house, RONDO);
            } else if (isName("fugue")) {
                tellTune(house, FUGUE);
            } else if (isName("lullaby")) {
                tellTune(house, LULLABY);
            } else if (isName("player")) {
                tellPlayer(house);
            } else if (isName("bound")) {
                tellBound(house);
            } else {
                fail(MISPLACED, tokenPlace);
            }
        }

        private void tellTune(House house, int kind) {
            int t = house.tunes;
            if (t >= MOST_TUNES) {
                fail(TOO_MANY, tokenPlace);
                return;
            }
            house.tunes++;
            house.kind[t] = kind;
            house.times[t] = nextNumber(1, MOST_TIMES);
            house.start[t] = nextNumber(0, MOST_START);
            house.score[t * MOST_NOTES] = nextNumber(0, MOST_NOTE);
            house.notes[t] = 1;
            advance();
            for (int i = 1; i <= MOST_NOTES && faultFound == 0 && token == NUMBER; i++) {
                int note = number(0, MOST_NOTE);
                if (i == MOST_NOTES) {
                    fail(TOO_MANY, tokenPlace);
                } else {
                    house.score[t * MOST_NOTES + i] = note;
                    house.notes[t] = i + 1;
                    advance();
                }
            }
            sign();
        }

        private void tellPlayer(House house) {
            int p = house.players;
            if (p >= MOST_PLAYERS) {
                fail(TOO_MANY, tokenPlace);
                return;
            }
            house.players++;
            house.skill[p] = nextNumber(0, MOST_SKILL);
            house.breath[p] = nextNumber(1, MOST_BREATH);
            house.pay[p] = nextNumber(0, MOST_PAY);
            house.at[p] = nextNumber(0, MOST_TUNES - 1);
            advance();
            sign();
        }

        private void tellBound(House house) {
            int q = house.prisoners;
            if (q >= MOST_PRISONERS) {
                fail(TOO_MANY, tokenPlace);
                return;
            }
            house.prisoners++;
            house.bond[q] = nextNumber(0, MOST_TUNES - 1);
            advance();
            sign();
        }

        private int nextNumber(int low, int high) {
            advance();
            return number(low, high);
        }

        /** The NUMBER that the TOKEN is; where it can not be one, a FAULT is found. */
        private int number(int low, int high) {
            if (token == NO_TOKEN) {
                fail(UNREADABLE, tokenPlace);
                return low;
            }
            if (token != NUMBER) {
                fail(MISPLACED, tokenPlace);
                return low;
            }
            int value = 0;
            for (int i = tokenPlace; i < next; i++) {
                value = value * 10 + bytes[i] - '0';
            }
            if (!within(value, low, high)) {
                fail(OUT_OF_BOUNDS, tokenPlace);
                return low;
            }
            return value;
        }

        private void sign() {
            if (token != SIGN) {
                fail(token == NO_TOKEN ? UNREADABLE : MISPLACED, tokenPlace);
            }
        }

        private void fail(int what, int place) {
            // The first one met is told, so what follows from it is passed over.
            if (faultFound == 0) {
                faultFound = what;
                faultPlace = place;
            }
        }

        private void advance() {
            while (next < length && bytes[next] == ' ') {
                next++;
            }
            tokenPlace = next;
            if (next >= length) {
                token = END;
            } else if (within(bytes[next], 'a', 'z')) {
                token = NAME;
                pass('a', 'z');
            } else if (within(bytes[next], '0', '9')) {
                pass('0', '9');
                token = next - tokenPlace <= 2 ? NUMBER : NO_TOKEN;
            } else {
                token = bytes[next] == ';' ? SIGN : NO_TOKEN;
                next++;
            }
        }

        private void pass(int low, int high) {
            while (next < length && within(bytes[next], low, high)) {
                next++;
            }
        }

        private boolean isName(String name) {
            if (token != NAME || next - tokenPlace != name.length()) {
                return false;
            }
            for (int i = 0; i < name.length(); i++) {
                if (bytes[tokenPlace + i] != name.charAt(i)) {
                    return false;
                }
            }
            return true;
        }
    }

    /** A SHEET; its row is as long as one may be, and used again by the next one. */
    private static final class Sheet {
        boolean there = false;
        int lane = 0;
        int size = 0;
        final int[] cells = new int[MOST_CELLS];

        void renew(int newLane, int newSize) {
            there = true;
            lane = newLane;
            size = newSize;
            for (int i = 0; i < MOST_CELLS; i++) {
                cells[i] = 0;
            }
        }

        boolean hasCell(long i) {
            return i >= 0 && i < size;
        }

        /** What the machine finds when the SHEET is taken as of a lane. */
        int faultAs(int asLane) {
            if (!there) {
                return NULL_FAULT;
            }
            return lane == asLane ? 0 : CAST_FAULT;
        }

        static int narrowed(int lane, int v) {
            switch (lane) {
                case 0: return (byte) v;
                case 1: return (short) v;
                default: return v;
            }
        }
    }
}
