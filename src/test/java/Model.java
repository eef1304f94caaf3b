import java.math.BigInteger;
import java.util.ArrayList;
import java.util.HashMap;
import java.util.List;
import java.util.Map;
import java.util.TreeMap;
import java.util.function.Consumer;
import java.util.regex.Matcher;
import java.util.regex.Pattern;

/** The document a second time, told in another way: lists, maps, tunes written out minute by minute. */
final class Model {
    static final int BAD = -1, STATE = -2, FULL = -3, NONE = -4;

    static final class Tune {
        int kind;
        int times;
        int start;
        List<Integer> notes = new ArrayList<>();

        List<Integer> whole(int asKind) {
            List<Integer> row = new ArrayList<>(notes);
            int n = notes.size();
            if (asKind == 1) {
                row.addAll(notes.subList(0, n % 2 == 0 ? n / 2 : n / 2 + 1));
            }
            if (asKind == 2) {
                for (int i = n - 1; i >= 0; i--) {
                    row.add(notes.get(i));
                }
            }
            if (asKind == 3) {
                row.replaceAll(v -> v == 0 ? 0 : v - 1);
            }
            List<Integer> all = new ArrayList<>();
            for (int i = 0; i < times; i++) {
                all.addAll(row);
            }
            return all;
        }

        int in(int m, int asKind) {
            List<Integer> all = whole(asKind);
            return m < start || m >= start + all.size() ? NONE : all.get(m - start);
        }
    }

    static final class World {
        List<Tune> tunes = new ArrayList<>();
        List<int[]> players = new ArrayList<>();
        List<Integer> bonds = new ArrayList<>();

        World copy() {
            World w = new World();
            for (Tune t : tunes) {
                Tune c = new Tune();
                c.kind = t.kind;
                c.times = t.times;
                c.start = t.start;
                c.notes = new ArrayList<>(t.notes);
                w.tunes.add(c);
            }
            for (int[] p : players) {
                w.players.add(p.clone());
            }
            w.bonds = new ArrayList<>(bonds);
            return w;
        }
    }

    static final class Played {
        int[] over;
        int[] why;
        int[] sounded;
        int[] minutes;
        Map<Integer, Integer> sounding = new HashMap<>();
        int away;
        int cost;
    }

    World w = new World();
    List<Integer> tape = new ArrayList<>();
    int fault;
    int torn;
    List<int[]> seen = new ArrayList<>();
    World[] images = new World[2];
    Object[] sheets = new Object[4];

    static Played play(World w, int idle) {
        Played r = new Played();
        int n = w.tunes.size();
        r.over = new int[n];
        r.why = new int[n];
        r.sounded = new int[n];
        r.minutes = new int[w.players.size()];
        List<List<Integer>> scores = new ArrayList<>();
        for (int t = 0; t < n; t++) {
            r.over[t] = -1;
            scores.add(w.tunes.get(t).whole(w.tunes.get(t).kind));
        }
        for (int m = 0; m < 400; m++) {
            Map<Integer, Integer> notes = new TreeMap<>();
            for (int t = 0; t < n; t++) {
                if (r.over[t] >= 0 || w.tunes.get(t).start > m) {
                    continue;
                }
                if (r.sounded[t] == scores.get(t).size()) {
                    r.over[t] = m;
                    continue;
                }
                int who = -1;
                for (int p = w.players.size() - 1; p >= 0; p--) {
                    int[] player = w.players.get(p);
                    if (player[3] == t && (idle & 1 << p) == 0 && r.minutes[p] < player[1]) {
                        who = p;
                    }
                }
                if (who < 0) {
                    r.over[t] = m;
                    r.why[t] = 2;
                    continue;
                }
                r.minutes[who]++;
                int note = scores.get(t).get(m - w.tunes.get(t).start);
                if (note > w.players.get(who)[0]) {
                    r.over[t] = m;
                    r.why[t] = 1;
                    continue;
                }
                r.sounded[t]++;
                notes.put(t, note);
                r.sounding.merge(m, 1 << t, Integer::sum);
            }
            for (int a : notes.keySet()) {
                for (int b : notes.keySet()) {
                    if (a < b && notes.get(a).equals(notes.get(b))) {
                        for (int c : notes.keySet()) {
                            if (c != a && c != b && r.over[c] < 0) {
                                r.over[c] = m;
                                r.why[c] = 3;
                                break;
                            }
                        }
                    }
                }
            }
        }
        for (int bond : w.bonds) {
            r.away += r.why[bond] != 0 ? 1 : 0;
        }
        for (int p = 0; p < r.minutes.length; p++) {
            r.cost += r.minutes[p] * w.players.get(p)[2];
        }
        return r;
    }

    boolean noTune(int t) {
        return t < 0 || t >= w.tunes.size();
    }

    boolean noPlayer(int p) {
        return p < 0 || p >= w.players.size();
    }

    boolean noPrisoner(int q) {
        return q < 0 || q >= w.bonds.size();
    }

    static boolean off(int v, int low, int high) {
        return v < low || v > high;
    }

    int feed(int c) {
        if (off(c, 0, 127)) {
            return BAD;
        }
        if (tape.size() == 160) {
            return FULL;
        }
        tape.add(c);
        return tape.size();
    }

    int end(int n) {
        int had = tape.size();
        if (off(n, 0, had)) {
            return BAD;
        }
        tape = new ArrayList<>(tape.subList(0, n));
        return had;
    }

    static final class Fault extends Exception {
        final int kind;
        final int place;

        Fault(int kind, int place) {
            this.kind = kind;
            this.place = place;
        }
    }

    private String bytes;
    private Matcher tokens;
    private String token;
    private int place;
    private static final Pattern TOKEN = Pattern.compile(" *([a-z]+|[0-9]+|;|.|$)", Pattern.DOTALL);

    int text() {
        StringBuilder s = new StringBuilder();
        for (int c : tape) {
            s.append((char) c);
        }
        bytes = s.toString();
        tape.clear();
        World told = new World();
        try {
            int lines = tellAll(told);
            w = told;
            fault = 0;
            seen.clear();
            images = new World[2];
            return lines;
        } catch (Fault f) {
            fault = f.kind;
            return -10 - f.place;
        }
    }

    private void take() throws Fault {
        if (!tokens.find() || tokens.group(1).isEmpty()) {
            token = "";
            place = bytes.length();
            return;
        }
        token = tokens.group(1);
        place = tokens.start(1);
        if (!token.matches("[a-z]+|[0-9]{1,2}|;")) {
            throw new Fault(1, place);
        }
    }

    private int number(int low, int high) throws Fault {
        if (!token.matches("[0-9]+")) {
            throw new Fault(2, place);
        }
        int v = Integer.parseInt(token);
        if (off(v, low, high)) {
            throw new Fault(3, place);
        }
        take();
        return v;
    }

    private int tellAll(World told) throws Fault {
        tokens = TOKEN.matcher(bytes);
        int lines = 0;
        int highest = -1;
        take();
        while (!token.isEmpty()) {
            int kind = List.of("plain", "rondo", "fugue", "lullaby", "player", "bound").indexOf(token);
            if (kind < 0) {
                throw new Fault(2, place);
            }
            int have = kind < 4 ? told.tunes.size() : kind == 4 ? told.players.size() : told.bonds.size();
            if (have == (kind == 5 ? 6 : 4)) {
                throw new Fault(5, place);
            }
            take();
            if (kind < 4) {
                Tune t = new Tune();
                t.kind = kind;
                t.times = number(1, 9);
                t.start = number(0, 9);
                do {
                    if (t.notes.size() == 8) {
                        throw new Fault(token.matches("[0-9]") ? 5 : 3, place);
                    }
                    t.notes.add(number(0, 9));
                } while (token.matches("[0-9]+"));
                told.tunes.add(t);
            } else if (kind == 4) {
                told.players.add(new int[] {number(0, 9), number(1, 99), number(0, 9), number(0, 3)});
                highest = Math.max(highest, told.players.get(have)[3]);
            } else {
                told.bonds.add(number(0, 3));
                highest = Math.max(highest, told.bonds.get(have));
            }
            if (!token.equals(";")) {
                throw new Fault(2, place);
            }
            take();
            lines++;
        }
        if (highest >= told.tunes.size()) {
            throw new Fault(6, bytes.length());
        }
        return lines;
    }

    int rule(int what) {
        return off(what, 0, 2) ? BAD : new int[] {w.tunes.size(), w.players.size(), w.bonds.size()}[what];
    }

    int tune(int t, int what) {
        if (noTune(t) || off(what, 0, 5)) {
            return BAD;
        }
        Tune x = w.tunes.get(t);
        int bits = 0;
        for (int q = 0; q < w.bonds.size(); q++) {
            bits += w.bonds.get(q) == t ? 1 << q : 0;
        }
        return new int[] {x.kind, x.notes.size(), x.times, x.start, x.whole(x.kind).size(), bits}[what];
    }

    int note(int t, int i) {
        return noTune(t) || off(i, 0, w.tunes.get(t).notes.size() - 1) ? BAD : w.tunes.get(t).notes.get(i);
    }

    int has(int t, int m) {
        return noTune(t) || off(m, 0, 159) ? BAD : w.tunes.get(t).in(m, w.tunes.get(t).kind);
    }

    int player(int p, int what) {
        return noPlayer(p) || off(what, 0, 3) ? BAD : w.players.get(p)[what];
    }

    int bound(int q) {
        return noPrisoner(q) ? BAD : w.bonds.get(q);
    }

    int write(int t, int i, int v) {
        return note(t, i) == BAD || off(v, 0, 9) ? BAD : w.tunes.get(t).notes.set(i, v);
    }

    int add(int t, int v) {
        if (noTune(t) || off(v, 0, 9)) {
            return BAD;
        }
        List<Integer> notes = w.tunes.get(t).notes;
        if (notes.size() == 8) {
            return FULL;
        }
        notes.add(v);
        return notes.size();
    }

    int set(int t, int what, int v) {
        int was = what == 0 || what == 2 || what == 3 ? tune(t, what) : BAD;
        if (was == BAD || what == 0 && off(v, 0, 3) || what == 2 && off(v, 1, 9) || what == 3 && off(v, 0, 9)) {
            return BAD;
        }
        Tune x = w.tunes.get(t);
        x.kind = what == 0 ? v : x.kind;
        x.times = what == 2 ? v : x.times;
        x.start = what == 3 ? v : x.start;
        return was;
    }

    int hire(int p, int what, int v) {
        int was = player(p, what);
        if (was == BAD || off(v, what == 1 ? 1 : 0, new int[] {9, 99, 9, w.tunes.size() - 1}[what])) {
            return BAD;
        }
        w.players.get(p)[what] = v;
        return was;
    }

    int bind(int q, int t) {
        if (noPrisoner(q) || noTune(t)) {
            return BAD;
        }
        return w.bonds.get(q) == t ? STATE : w.bonds.set(q, t);
    }

    int out(int q, int what) {
        return noPrisoner(q) || off(what, 0, 1) ? BAD : over(w.bonds.get(q), what);
    }

    int over(int t, int what) {
        if (noTune(t) || off(what, 0, 2)) {
            return BAD;
        }
        Played r = play(w, 0);
        return new int[][] {r.over, r.why, r.sounded}[what][t];
    }

    int plays(int p) {
        return noPlayer(p) ? BAD : play(w, 0).minutes[p];
    }

    int sounds(int m) {
        return off(m, 0, 159) ? BAD : play(w, 0).sounding.getOrDefault(m, 0);
    }

    int sum(int what) {
        if (off(what, 0, 3)) {
            return BAD;
        }
        Played r = play(w, 0);
        int last = 0;
        int crossed = 0;
        for (int t = 0; t < r.over.length; t++) {
            last = Math.max(last, r.over[t]);
            crossed += r.why[t] == 3 ? 1 : 0;
        }
        return new int[] {r.away, r.cost, last, crossed}[what];
    }

    int first(int what) {
        if (off(what, 0, 1)) {
            return BAD;
        }
        Played r = play(w, 0);
        for (int m = 0; m < 200; m++) {
            for (int q = 0; q < w.bonds.size(); q++) {
                int t = w.bonds.get(q);
                if (r.over[t] == m && r.why[t] != 0) {
                    return what == 0 ? m : q;
                }
            }
        }
        return NONE;
    }

    /** Tries all rows of choices, the first figure slowest. */
    private static void choose(int[] row, int at, int base, Consumer<int[]> use) {
        if (at == row.length) {
            use.accept(row);
            return;
        }
        for (int v = 0; v < base; v++) {
            row[at] = v;
            choose(row, at + 1, base, use);
        }
    }

    int best(int what) {
        if (off(what, 0, 1) && (what < 10 || noPlayer(what - 10))) {
            return BAD;
        }
        if (w.tunes.isEmpty()) {
            return STATE;
        }
        List<int[]> found = new ArrayList<>();
        choose(new int[w.players.size()], 0, w.tunes.size(), row -> {
            World c = w.copy();
            for (int p = 0; p < row.length; p++) {
                c.players.get(p)[3] = row[p];
            }
            Played r = play(c, 0);
            int worth = r.away * 100000 + r.cost;
            if (found.isEmpty() || worth < found.get(0)[0]) {
                found.clear();
                found.add(new int[] {worth, r.away, r.cost});
                found.add(row.clone());
            }
        });
        return what >= 10 ? found.get(1)[what - 10] : found.get(0)[what + 1];
    }

    int apart(int what) {
        if (what != 0 && (what < 10 || noTune(what - 10))) {
            return BAD;
        }
        if (w.tunes.isEmpty()) {
            return STATE;
        }
        List<int[]> found = new ArrayList<>();
        choose(new int[w.tunes.size()], 0, 4, row -> {
            World c = w.copy();
            for (int t = 0; t < row.length; t++) {
                c.tunes.get(t).start = row[t];
            }
            int away = play(c, 0).away;
            if (found.isEmpty() || away < found.get(0)[0]) {
                found.clear();
                found.add(new int[] {away});
                found.add(row.clone());
            }
        });
        return what == 0 ? found.get(0)[0] : found.get(1)[what - 10];
    }

    int compose(int length, int what) {
        if (off(length, 1, 144) || off(what, 0, 2)) {
            return BAD;
        }
        for (int code = 0; code < 8 * 4 * 9; code++) {
            Tune t = new Tune();
            t.times = code % 9 + 1;
            for (int i = 0; i <= code / 36; i++) {
                t.notes.add(0);
            }
            if (t.whole(code / 9 % 4).size() == length) {
                return new int[] {t.notes.size(), code / 9 % 4, t.times}[what];
            }
        }
        return NONE;
    }

    int bribe(int set, int m, int what) {
        if (off(set, 0, (1 << w.bonds.size()) - 1) || off(m, 0, 159) || off(what, 0, 1)) {
            return BAD;
        }
        for (int many = 0; many <= w.players.size(); many++) {
            for (int bits = 0; bits < 1 << w.players.size(); bits++) {
                if (Integer.bitCount(bits) == many) {
                    Played r = play(w, bits);
                    boolean all = true;
                    for (int q = 0; q < w.bonds.size(); q++) {
                        all &= (set & 1 << q) == 0 || r.over[w.bonds.get(q)] <= m;
                    }
                    if (all) {
                        return what == 0 ? many : bits;
                    }
                }
            }
        }
        return NONE;
    }

    int teach(int what) {
        if (off(what, 0, 1)) {
            return BAD;
        }
        int now = play(w, 0).away;
        for (int away = 0; away < now; away++) {
            for (int p = 0; p < w.players.size(); p++) {
                World c = w.copy();
                c.players.get(p)[0] = 9;
                if (play(c, 0).away == away) {
                    return what == 0 ? p : away;
                }
            }
        }
        return NONE;
    }

    private long chance(int v, int what, int q) {
        BigInteger above = BigInteger.ZERO;
        BigInteger below = BigInteger.TEN.pow(w.players.size());
        for (int bits = 0; bits < 1 << w.players.size(); bits++) {
            int broken = Integer.bitCount(bits);
            Played r = play(w, bits);
            int worth = q < 0 ? r.away : r.why[w.bonds.get(q)] == 0 ? 1 : 0;
            above = above.add(BigInteger.valueOf(v).pow(broken)
                    .multiply(BigInteger.valueOf(10 - v).pow(w.players.size() - broken))
                    .multiply(BigInteger.valueOf(worth)));
        }
        BigInteger both = above.gcd(below);
        return (what == 0 ? above : below).divide(both).longValueExact();
    }

    long mean(int v, int what) {
        return off(v, 0, 10) || off(what, 0, 1) ? BAD : chance(v, what, -1);
    }

    long luck(int v, int q, int what) {
        return off(v, 0, 10) || noPrisoner(q) || off(what, 0, 1) ? BAD : chance(v, what, q);
    }

    int see(int t, int m, int note) {
        if (noTune(t) || off(m, 0, 159) || note != NONE && off(note, 0, 9)) {
            return BAD;
        }
        if (seen.size() == 6) {
            return FULL;
        }
        seen.add(new int[] {t, m, note});
        return seen.size();
    }

    int forget(int n) {
        int had = seen.size();
        if (off(n, 0, had)) {
            return BAD;
        }
        seen = new ArrayList<>(seen.subList(0, n));
        return had;
    }

    int fits(int t) {
        if (noTune(t)) {
            return BAD;
        }
        int bits = 0;
        for (int kind = 0; kind < 4; kind++) {
            int asKind = kind;
            if (seen.stream().allMatch(s -> s[0] != t || w.tunes.get(t).in(s[1], asKind) == s[2])) {
                bits += 1 << kind;
            }
        }
        return bits;
    }

    int listen(int t, int what) {
        if (noTune(t) || off(what, 0, 1)) {
            return BAD;
        }
        int kinds = fits(t);
        for (int left = 0; left < Integer.bitCount(kinds); left++) {
            for (int m = 0; m < 160; m++) {
                Map<Integer, Integer> groups = new HashMap<>();
                for (int kind = 0; kind < 4; kind++) {
                    if ((kinds & 1 << kind) != 0) {
                        groups.merge(w.tunes.get(t).in(m, kind), 1, Integer::sum);
                    }
                }
                if (groups.values().stream().max(Integer::compare).get() == left) {
                    return what == 0 ? m : left;
                }
            }
        }
        return NONE;
    }

    int drift(int seed, int n, int what) {
        if (off(n, 1, 20) || off(what, 0, 1)) {
            return BAD;
        }
        if (w.tunes.isEmpty()) {
            return STATE;
        }
        World c = w.copy();
        BigInteger s = BigInteger.valueOf(seed);
        int most = 0;
        int costs = 0;
        for (int i = 0; i < n; i++) {
            s = s.multiply(BigInteger.valueOf(1103515245)).add(BigInteger.valueOf(12345));
            int which = s.shiftRight(16).intValue() & 32767;
            s = s.multiply(BigInteger.valueOf(1103515245)).add(BigInteger.valueOf(12345));
            int bits = s.shiftRight(16).intValue() & 32767;
            List<Integer> notes = c.tunes.get(which % c.tunes.size()).notes;
            notes.set(bits % notes.size(), bits / 10 % 10);
            Played r = play(c, 0);
            most = Math.max(most, r.away);
            costs += r.cost;
        }
        return what == 0 ? most : costs;
    }

    int keep(int k) {
        if (off(k, 0, 1)) {
            return BAD;
        }
        int was = images[k] == null ? 0 : 1;
        images[k] = w.copy();
        return was;
    }

    int back(int k) {
        if (off(k, 0, 1)) {
            return BAD;
        }
        if (images[k] == null) {
            return STATE;
        }
        w = images[k].copy();
        return count(4);
    }

    int sheet(int k, int lane, int n) {
        if (off(k, 0, 3) || off(lane, 0, 2) || n > 40) {
            return BAD;
        }
        if (n < 0) {
            return -14;
        }
        sheets[k] = lane == 0 ? new byte[n] : lane == 1 ? (Object) new short[n] : new int[n];
        return 1;
    }

    int lay(int k, int i, int v) {
        if (off(k, 0, 3)) {
            return BAD;
        }
        try {
            Object s = sheets[k];
            if (s instanceof byte[] row) {
                row[i] = (byte) v;
            } else if (s instanceof short[] row) {
                row[i] = (short) v;
            } else {
                ((int[]) s)[i] = v;
            }
            return 1;
        } catch (NullPointerException e) {
            return -11;
        } catch (IndexOutOfBoundsException e) {
            return -12;
        }
    }

    private int cell(int k, int lane, int i) {
        return lane == 0 ? ((byte[]) sheets[k])[i] : lane == 1 ? ((short[]) sheets[k])[i] : ((int[]) sheets[k])[i];
    }

    int read(int k, int lane, int f, int n) {
        if (off(k, 0, 3) || off(lane, 0, 2) || off(n, 0, 20)) {
            return BAD;
        }
        World before = w.copy();
        int found = 0;
        int i = 0;
        try {
            for (; i < n; i++) {
                int q = cell(k, lane, f + 2 * i);
                int t = cell(k, lane, f + 2 * i + 1);
                if (bind(q, t) < 0) {
                    w = before;
                    return -20 - i;
                }
            }
        } catch (NullPointerException e) {
            found = 1;
        } catch (IndexOutOfBoundsException e) {
            found = 2;
        } catch (ClassCastException e) {
            found = 3;
        }
        torn = found;
        return i;
    }

    int count(int what) {
        int notes = 0;
        int lengths = 0;
        for (Tune t : w.tunes) {
            notes += t.notes.size();
            lengths += t.whole(t.kind).size();
        }
        int cells = sheets[0] == null ? NONE : java.lang.reflect.Array.getLength(sheets[0]);
        int kept = (images[0] == null ? 0 : 1) + (images[1] == null ? 0 : 1);
        return off(what, 0, 5) ? BAD : new int[] {seen.size(), kept, tape.size(), cells, notes, lengths}[what];
    }
}
