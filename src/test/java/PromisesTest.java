/** Each promise by answers that were worked out by hand. */
public final class PromisesTest {
    private static final int BAD = TuneWard.BAD, STATE = TuneWard.STATE, FULL = TuneWard.FULL, NONE = TuneWard.NONE;
    private static final int LEAST = Integer.MIN_VALUE, MOST = Integer.MAX_VALUE;

    /** Four tunes of different kinds, four players, three prisoners. */
    private static final String KINDS = "plain 2 0 3 5 7;rondo 3 1 5 2 4;fugue 1 2 5 9;lullaby 2 3 0 6;"
            + "player 7 30 2 0;player 9 4 1 1;bound 0;bound 3;bound 0;";

    public static void main(String[] args) {
        aNewObject();
        theTape();
        whatTextTells();
        faultsOfTokens();
        faultsOfNumbers();
        faultsOfTooMany();
        whatAFaultLeaves();
        whatThereIs();
        notesOfKinds();
        changes();
        binding();
        served();
        slips();
        breath();
        crossings();
        sums();
        firstAway();
        best();
        bestOfSeveral();
        apart();
        compose();
        bribe();
        teach();
        strings();
        seen();
        listening();
        drifting();
        images();
        sheets();
        reading();
        counts();
        Checks.close();
    }

    private static void due(String what, long got, long want) {
        Checks.due(what, got, want);
    }

    private static TuneWard told(String bytes) {
        return Checks.told(bytes);
    }

    /** Tells a text whose fault is due at a place. */
    private static void faulty(String bytes, int fault, int place) {
        TuneWard x = new TuneWard();
        Checks.type(x, bytes);
        due("text of " + bytes, x.text(), -10 - place);
        due("fault of " + bytes, x.fault(), fault);
        due("the tape behind " + bytes, x.count(2), 0);
        due("tunes behind " + bytes, x.rule(0), 0);
    }

    private static void taken(String bytes, int lines) {
        TuneWard x = new TuneWard();
        Checks.type(x, bytes);
        due("text of " + bytes, x.text(), lines);
        due("fault of " + bytes, x.fault(), 0);
        due("the tape behind " + bytes, x.count(2), 0);
    }

    // Promise 1
    private static void aNewObject() {
        TuneWard x = new TuneWard();
        due("BAD", TuneWard.BAD, -1);
        due("STATE", TuneWard.STATE, -2);
        due("FULL", TuneWard.FULL, -3);
        due("NONE", TuneWard.NONE, -4);
        for (int what = 0; what < 3; what++) {
            due("rule", x.rule(what), 0);
        }
        for (int k = 0; k < 4; k++) {
            due("lay on nothing", x.lay(k, 0, 1), -11);
        }
        due("fault", x.fault(), 0);
        due("torn", x.torn(), 0);
        due("sum 0", x.sum(0), 0);
        due("sum 1", x.sum(1), 0);
        due("sum 2", x.sum(2), 0);
        due("sum 3", x.sum(3), 0);
        due("sounds", x.sounds(0), 0);
        due("first", x.first(0), NONE);
        due("teach", x.teach(0), NONE);
        due("back", x.back(0), STATE);
        due("tune", x.tune(0, 0), BAD);
        due("player", x.player(0, 0), BAD);
        due("bound", x.bound(0), BAD);
        due("images", x.count(1), 0);
    }

    // Promises 2, 3
    private static void theTape() {
        TuneWard x = new TuneWard();
        due("feed -1", x.feed(-1), BAD);
        due("feed 128", x.feed(128), BAD);
        due("feed least", x.feed(LEAST), BAD);
        due("feed 0", x.feed(0), 1);
        due("feed 127", x.feed(127), 2);
        due("end -1", x.end(-1), BAD);
        due("end 3", x.end(3), BAD);
        due("end 2", x.end(2), 2);
        due("end 1", x.end(1), 2);
        due("count", x.count(2), 1);
        due("end 0", x.end(0), 1);
        due("end 0 again", x.end(0), 0);
        for (int i = 1; i <= 160; i++) {
            due("feed blank", x.feed(' '), i);
        }
        due("feed 161st", x.feed(' '), FULL);
        due("feed 161st bad", x.feed(128), BAD);
        due("end 161", x.end(161), BAD);
        due("end 160", x.end(160), 160);
        due("text of blanks", x.text(), 0);
        due("fault of blanks", x.fault(), 0);
        Checks.type(x, "plain 1 0 1;junk");
        due("end 12", x.end(12), 16);
        due("text of what was kept", x.text(), 1);
    }

    // Promise 4
    private static void whatTextTells() {
        taken("", 0);
        taken("plain 1 0 1;", 1);
        taken("plain1 0 1;", 1);
        taken("  plain  1   0 1  ;  ", 1);
        taken("plain 09 00 01;", 1);
        taken("plain 1 0 1 2 3 4 5 6 7 8;", 1);
        taken("player 0 1 0 3;bound 3;plain 1 0 1;plain 1 0 1;plain 1 0 1;plain 1 0 1;", 6);
        taken("plain 9 9 9;player 9 99 9 0;", 2);
        taken("bound 0;bound 0;bound 0;bound 0;bound 0;bound 0;plain 1 0 1;", 7);
        TuneWard x = told("lullaby 2 3 4 5;player 1 2 3 0;bound 0;");
        due("kind", x.tune(0, 0), 3);
        Checks.type(x, "rondo 9 8 7;");
        due("text", x.text(), 1);
        due("kind in place", x.tune(0, 0), 1);
        due("notes in place", x.tune(0, 1), 1);
        due("times in place", x.tune(0, 2), 9);
        due("start in place", x.tune(0, 3), 8);
        due("note in place", x.note(0, 0), 7);
        due("players as at first", x.rule(1), 0);
        due("prisoners as at first", x.rule(2), 0);
        due("text of nothing", x.text(), 0);
        due("tunes as at first", x.rule(0), 0);
    }

    // Promises 4, 5: faults 1, 2
    private static void faultsOfTokens() {
        faulty("plain 1 0 1,", 1, 11);
        faulty("Plain 1 0 1;", 1, 0);
        faulty("plain\t1 0 1;", 1, 5);
        faulty("plain 1 0 100;", 1, 10);
        faulty("plain 1 0  001;", 1, 11);
        faulty("123", 1, 0);
        faulty("plain -1 0 1;", 1, 6);
        faulty("plain 1 0 1;!", 1, 12);
        faulty("plain 1 0 1 :", 1, 12);
        faulty("march 1 !", 2, 0);
        faulty("plai 1 0 1;", 2, 0);
        faulty("plains 1 0 1;", 2, 0);
        faulty("plainplain 1 0 1;", 2, 0);
        faulty(" ;", 2, 1);
        faulty("plain 1 0 1;;", 2, 12);
        faulty("7", 2, 0);
        faulty("plain 1 0;", 2, 9);
        faulty("plain;", 2, 5);
        faulty("plain plain 1", 2, 6);
        faulty("plain 1 x 1;", 2, 8);
        faulty("plain 1 0 1 bound 0;", 2, 12);
        faulty("plain 1 0 1 ", 2, 12);
        faulty("plain", 2, 5);
        faulty("plain  ", 2, 7);
        faulty("plain 1 0 1;bound 0", 2, 19);
        faulty("plain 1 0 1;bound 0 0;", 2, 20);
        faulty("plain 1 0 1;player 1 1 1;", 2, 24);
        faulty("plain 1 0 1;player 1 1 1 0 0;", 2, 27);
    }

    // Promises 4, 5: faults 3, 6
    private static void faultsOfNumbers() {
        faulty("plain 0 0 1;", 3, 6);
        faulty("plain 10 0 1;", 3, 6);
        faulty("plain 1 10 1;", 3, 8);
        faulty("plain 1 0 10;", 3, 10);
        faulty("plain 1 0 1 10!", 3, 12);
        faulty("player 10 1 0 0;", 3, 7);
        faulty("player 9 0 0 0;", 3, 9);
        faulty("player 9 100 0 0;", 1, 9);
        faulty("player 9 1 10 0;", 3, 11);
        faulty("player 9 1 9 4;", 3, 13);
        faulty("bound 4;", 3, 6);
        faulty("bound 3;", 6, 8);
        faulty("bound 0;", 6, 8);
        faulty("player 1 1 1 0; ", 6, 16);
        faulty("plain 1 0 1;bound 1;", 6, 20);
        faulty("plain 1 0 1;player 1 1 1 1;", 6, 27);
        faulty("bound 0;x", 2, 8);
    }

    // Promises 4, 5: fault 5
    private static void faultsOfTooMany() {
        String tunes = "plain 1 0 1;plain 1 0 1;rondo 1 0 1;fugue 1 0 1;";
        String players = "player 1 1 1 0;player 1 1 1 0;player 1 1 1 0;player 1 1 1 0;";
        String prisoners = "bound 0;bound 0;bound 0;bound 0;bound 0;bound 0;";
        taken(tunes + players + prisoners.substring(0, 48), 14);
        faulty(tunes + " lullaby !", 5, 49);
        faulty(tunes + "lullaby", 5, 48);
        faulty(players + "player!", 5, 60);
        faulty(prisoners + "bound!", 5, 48);
        faulty("plain 1 0 1 2 3 4 5 6 7 8 9;", 5, 26);
        faulty("plain 1 0 1 2 3 4 5 6 7 8 9!", 5, 26);
        faulty("plain 1 0 1 2 3 4 5 6 7 8 123", 1, 26);
        faulty("plain 1 0 1 2 3 4 5 6 7 8 x", 2, 26);
        faulty("plain 1 0 1 2 3 4 5 6 7 8 10;", 3, 26);
    }

    private static void whatAFaultLeaves() {
        TuneWard x = told("lullaby 2 3 4 5;player 1 2 3 0;bound 0;");
        x.see(0, 0, 1);
        x.keep(1);
        x.sheet(0, 2, 7);
        Checks.type(x, "plain 1 0 1;bound 3;");
        due("text", x.text(), -30);
        due("fault", x.fault(), 6);
        due("kind stays", x.tune(0, 0), 3);
        due("note stays", x.note(0, 1), 5);
        due("player stays", x.player(0, 1), 2);
        due("bound stays", x.bound(0), 0);
        due("seen stays", x.count(0), 1);
        due("images stay", x.count(1), 1);
        due("sheets stay", x.count(3), 7);
        Checks.type(x, "plain 1 0 1;");
        due("fault until text", x.fault(), 6);
        due("text", x.text(), 1);
        due("fault", x.fault(), 0);
        due("seen gone", x.count(0), 0);
        due("images gone", x.count(1), 0);
        due("back", x.back(1), STATE);
        due("keep", x.keep(1), 0);
        due("sheets stay by a text", x.count(3), 7);
    }

    // Promises 6, 7, 8, 10, 11
    private static void whatThereIs() {
        TuneWard x = told(KINDS);
        due("rule 0", x.rule(0), 4);
        due("rule 1", x.rule(1), 2);
        due("rule 2", x.rule(2), 3);
        due("rule 3", x.rule(3), BAD);
        due("rule -1", x.rule(-1), BAD);
        int[][] tunes = {{0, 3, 2, 0, 6, 5}, {1, 3, 3, 1, 15, 0}, {2, 2, 1, 2, 4, 0}, {3, 2, 2, 3, 4, 2}};
        for (int t = 0; t < 4; t++) {
            for (int what = 0; what < 6; what++) {
                due("tune " + t + " " + what, x.tune(t, what), tunes[t][what]);
            }
        }
        due("tune 4", x.tune(4, 0), BAD);
        due("tune -1", x.tune(-1, 0), BAD);
        due("tune 0 6", x.tune(0, 6), BAD);
        due("tune 0 -1", x.tune(0, -1), BAD);
        due("note 0 2", x.note(0, 2), 7);
        due("note 3 0", x.note(3, 0), 0);
        due("note 3 1", x.note(3, 1), 6);
        due("note 3 2", x.note(3, 2), BAD);
        due("note 0 -1", x.note(0, -1), BAD);
        due("note 4 0", x.note(4, 0), BAD);
        int[][] players = {{7, 30, 2, 0}, {9, 4, 1, 1}};
        for (int p = 0; p < 2; p++) {
            for (int what = 0; what < 4; what++) {
                due("player " + p + " " + what, x.player(p, what), players[p][what]);
            }
        }
        due("player 2", x.player(2, 0), BAD);
        due("player -1", x.player(-1, 0), BAD);
        due("player 0 4", x.player(0, 4), BAD);
        due("player 0 -1", x.player(0, -1), BAD);
        due("bound 0", x.bound(0), 0);
        due("bound 1", x.bound(1), 3);
        due("bound 3", x.bound(3), BAD);
        due("bound -1", x.bound(-1), BAD);
    }

    // Promise 9
    private static void notesOfKinds() {
        TuneWard x = told(KINDS);
        row(x, 0, 0, 3, 5, 7, 3, 5, 7, NONE);
        row(x, 1, 1, 5, 2, 4, 5, 2, 5, 2, 4, 5, 2, 5, 2, 4, 5, 2, NONE);
        row(x, 2, 2, 5, 9, 9, 5, NONE);
        row(x, 3, 3, 0, 5, 0, 5, NONE);
        due("ahead of START", x.has(1, 0), NONE);
        due("ahead of START", x.has(3, 2), NONE);
        due("159", x.has(0, 159), NONE);
        due("160", x.has(0, 160), BAD);
        due("-1", x.has(0, -1), BAD);
        due("tune 4", x.has(4, 0), BAD);
        due("tune -1", x.has(-1, 0), BAD);
        TuneWard y = told("fugue 9 9 1 2 3 4 5 6 7 8;rondo 1 0 6;rondo 1 0 6 7 8 9;");
        due("longest", y.tune(0, 4), 144);
        due("its last", y.has(0, 152), 1);
        due("behind it", y.has(0, 153), NONE);
        row(y, 1, 0, 6, 6, NONE);
        row(y, 2, 0, 6, 7, 8, 9, 6, 7, NONE);
    }

    private static void row(TuneWard x, int t, int start, int... notes) {
        for (int i = 0; i < notes.length; i++) {
            due("has " + t + " " + (start + i), x.has(t, start + i), notes[i]);
        }
    }

    // Promises 12, 13, 14, 15
    private static void changes() {
        TuneWard x = told(KINDS);
        due("write", x.write(0, 2, 9), 7);
        due("written", x.note(0, 2), 9);
        due("write back", x.write(0, 2, 0), 9);
        due("write 10", x.write(0, 2, 10), BAD);
        due("write -1", x.write(0, 2, -1), BAD);
        due("write note 3", x.write(0, 3, 1), BAD);
        due("write tune 4", x.write(4, 0, 1), BAD);
        due("written stays", x.note(0, 2), 0);
        due("add -1", x.add(2, -1), BAD);
        due("add 10", x.add(2, 10), BAD);
        due("add tune 4", x.add(4, 1), BAD);
        for (int i = 3; i <= 8; i++) {
            due("add", x.add(2, i), i);
            due("added", x.note(2, i - 1), i);
        }
        due("add 9th", x.add(2, 1), FULL);
        due("add 9th bad", x.add(2, 10), BAD);
        due("length", x.tune(2, 4), 16);
        due("the next tune stays", x.note(3, 0), 0);
        due("set kind", x.set(1, 0, 3), 1);
        due("kind", x.tune(1, 0), 3);
        due("set kind 0", x.set(1, 0, 0), 3);
        due("set kind 4", x.set(1, 0, 4), BAD);
        due("set kind -1", x.set(1, 0, -1), BAD);
        due("set times", x.set(1, 2, 9), 3);
        due("set times 1", x.set(1, 2, 1), 9);
        due("set times 0", x.set(1, 2, 0), BAD);
        due("set times 10", x.set(1, 2, 10), BAD);
        due("times", x.tune(1, 2), 1);
        due("set start", x.set(1, 3, 9), 1);
        due("set start 0", x.set(1, 3, 0), 9);
        due("set start 10", x.set(1, 3, 10), BAD);
        due("set start -1", x.set(1, 3, -1), BAD);
        due("set 1", x.set(1, 1, 1), BAD);
        due("set 4", x.set(1, 4, 1), BAD);
        due("set tune 4", x.set(4, 0, 1), BAD);
        due("set tune -1", x.set(-1, 0, 1), BAD);
        int[] lows = {0, 1, 0, 0};
        int[] highs = {9, 99, 9, 3};
        int[] were = {9, 4, 1, 1};
        for (int what = 0; what < 4; what++) {
            due("hire low", x.hire(1, what, lows[what]), were[what]);
            due("hire high", x.hire(1, what, highs[what]), lows[what]);
            due("hire below", x.hire(1, what, lows[what] - 1), BAD);
            due("hire above", x.hire(1, what, highs[what] + 1), BAD);
            due("hired", x.player(1, what), highs[what]);
        }
        due("hire 4", x.hire(1, 4, 1), BAD);
        due("hire -1", x.hire(1, -1, 1), BAD);
        due("hire player 2", x.hire(2, 0, 1), BAD);
        due("hire player -1", x.hire(-1, 0, 1), BAD);
        TuneWard y = told("plain 1 0 1;player 1 1 1 0;");
        due("hire at no tune", y.hire(0, 3, 1), BAD);
        due("hire where he is", y.hire(0, 3, 0), 0);
    }

    // Promise 16
    private static void binding() {
        TuneWard x = told(KINDS);
        due("bind", x.bind(0, 3), 0);
        due("bound", x.bound(0), 3);
        due("bits", x.tune(3, 5), 3);
        due("bind again", x.bind(0, 3), STATE);
        due("bind tune 4", x.bind(0, 4), BAD);
        due("bind tune -1", x.bind(0, -1), BAD);
        due("bind prisoner 3", x.bind(3, 0), BAD);
        due("bind prisoner -1", x.bind(-1, 0), BAD);
        due("bind back", x.bind(0, 0), 3);
    }

    private static void isOver(TuneWard x, int t, int minute, int why, int sounded) {
        due("over " + t + " minute", x.over(t, 0), minute);
        due("over " + t + " why", x.over(t, 1), why);
        due("over " + t + " sounded", x.over(t, 2), sounded);
    }

    // Promises 17, 18, 19, 20: why 0
    private static void served() {
        TuneWard x = told("plain 2 1 3;player 9 1 3 0;player 9 9 1 0;bound 0;");
        isOver(x, 0, 3, 0, 2);
        due("out", x.out(0, 0), 3);
        due("why", x.out(0, 1), 0);
        due("the first one's breath", x.plays(0), 1);
        due("who stands behind", x.plays(1), 1);
        due("cost", x.sum(1), 4);
        due("away", x.sum(0), 0);
        due("first", x.first(0), NONE);
        int[] sounds = {0, 1, 1, 0};
        for (int m = 0; m < 4; m++) {
            due("sounds " + m, x.sounds(m), sounds[m]);
        }
        due("sounds 159", x.sounds(159), 0);
        due("sounds 160", x.sounds(160), BAD);
        due("sounds -1", x.sounds(-1), BAD);
        due("out prisoner 1", x.out(1, 0), BAD);
        due("out prisoner -1", x.out(-1, 0), BAD);
        due("out what 2", x.out(0, 2), BAD);
        due("out what -1", x.out(0, -1), BAD);
        due("over tune 1", x.over(1, 0), BAD);
        due("over tune -1", x.over(-1, 0), BAD);
        due("over what 3", x.over(0, 3), BAD);
        due("over what -1", x.over(0, -1), BAD);
        due("plays player 2", x.plays(2), BAD);
        due("plays player -1", x.plays(-1), BAD);
        TuneWard longest = told("fugue 9 9 1 2 3 4 5 6 7 8;player 9 99 9 0;player 9 99 9 0;bound 0;");
        isOver(longest, 0, 153, 0, 144);
        due("plays 45", longest.plays(1), 45);
        due("dear", longest.sum(1), 1296);
        due("a playing changes nothing", longest.player(0, 1), 99);
    }

    // Promises 17, 18, 19: why 1
    private static void slips() {
        TuneWard x = told("plain 2 0 3 5;player 4 9 2 0;bound 0;bound 0;");
        isOver(x, 0, 1, 1, 1);
        due("he has played", x.plays(0), 2);
        due("cost", x.sum(1), 4);
        due("sounds 0", x.sounds(0), 1);
        due("sounds 1", x.sounds(1), 0);
        due("away", x.sum(0), 2);
        x.hire(0, 0, 5);
        isOver(x, 0, 4, 0, 4);
        TuneWard last = told("lullaby 1 0 4 5;player 3 1 1 0;player 4 9 1 0;bound 0;");
        isOver(last, 0, 2, 0, 2);
        last.hire(1, 0, 3);
        isOver(last, 0, 1, 1, 1);
    }

    // Promises 17, 18, 19: why 2
    private static void breath() {
        TuneWard x = told("plain 3 4 1;player 9 2 1 0;bound 0;plain 1 2 1;");
        isOver(x, 0, 6, 2, 2);
        due("plays", x.plays(0), 2);
        isOver(x, 1, 2, 2, 0);
        x.hire(0, 1, 3);
        isOver(x, 0, 7, 0, 3);
        TuneWard behind = told("plain 4 0 1;player 9 1 1 0;player 9 2 1 0;bound 0;");
        isOver(behind, 0, 3, 2, 3);
        due("plays 0", behind.plays(0), 1);
        due("plays 1", behind.plays(1), 2);
    }

    // Promises 17, 18, 20, 21: why 3
    private static void crossings() {
        String players = "player 9 99 1 0;player 9 99 1 1;player 9 99 1 2;player 9 99 1 3;";
        TuneWard all = told("plain 1 0 1;plain 2 0 1;plain 3 0 1;" + players.substring(0, 48) + "bound 1;");
        for (int t = 0; t < 3; t++) {
            isOver(all, t, 0, 3, 1);
        }
        due("sounds", all.sounds(0), 7);
        due("crossed", all.sum(3), 3);
        due("last", all.sum(2), 0);
        TuneWard two = told("plain 2 0 1;plain 2 0 1;" + players.substring(0, 32));
        isOver(two, 0, 2, 0, 2);
        due("none is crossed", two.sum(3), 0);
        TuneWard four = told("plain 3 0 1;plain 3 0 1;plain 3 0 2;plain 3 0 3;" + players);
        isOver(four, 2, 0, 3, 1);
        isOver(four, 3, 1, 3, 2);
        isOver(four, 0, 3, 0, 3);
        due("sounds 0", four.sounds(0), 15);
        due("sounds 1", four.sounds(1), 11);
        due("sounds 2", four.sounds(2), 3);
        due("crossed", four.sum(3), 2);
        due("cost", four.sum(1), 9);
        TuneWard pairs = told("plain 2 0 1;plain 2 0 2;plain 2 0 1;plain 2 0 2;" + players);
        isOver(pairs, 1, 0, 3, 1);
        isOver(pairs, 0, 0, 3, 1);
        isOver(pairs, 2, 2, 0, 2);
        isOver(pairs, 3, 2, 0, 2);
        TuneWard lastMinute = told("plain 2 0 1;plain 2 0 1;plain 1 1 5;" + players.substring(0, 48));
        isOver(lastMinute, 2, 1, 3, 1);
        TuneWard slipped = told("plain 2 0 5;plain 2 0 5;plain 2 0 1;player 4 9 1 0;" + players.substring(16, 48));
        isOver(slipped, 0, 0, 1, 0);
        isOver(slipped, 2, 2, 0, 2);
    }

    // Promise 21
    private static void sums() {
        TuneWard x = told("plain 2 0 3;plain 3 2 4;player 9 9 2 0;player 9 1 5 1;bound 0;bound 1;bound 1;");
        due("away", x.sum(0), 2);
        due("cost", x.sum(1), 9);
        due("last", x.sum(2), 3);
        due("crossed", x.sum(3), 0);
        due("sum 4", x.sum(4), BAD);
        due("sum -1", x.sum(-1), BAD);
    }

    // Promise 22
    private static void firstAway() {
        TuneWard x = told("plain 1 5 1;plain 1 2 1;plain 1 0 1;player 9 9 0 2;bound 0;bound 1;bound 2;bound 1;");
        due("minute", x.first(0), 2);
        due("prisoner", x.first(1), 1);
        due("first 2", x.first(2), BAD);
        due("first -1", x.first(-1), BAD);
        x.set(0, 3, 2);
        due("prisoner of several", x.first(1), 0);
        x.bind(0, 2);
        x.bind(1, 2);
        x.bind(3, 2);
        due("nobody", x.first(0), NONE);
        due("nobody", x.first(1), NONE);
        due("nobody bad", x.first(2), BAD);
    }

    // Promise 23
    private static void best() {
        TuneWard x = told("plain 2 0 9;plain 2 0 2;player 9 9 3 1;player 5 9 1 0;bound 0;bound 1;");
        due("both away now", x.sum(0), 1);
        due("away", x.best(0), 0);
        due("cost", x.best(1), 8);
        due("player 0", x.best(10), 0);
        due("player 1", x.best(11), 1);
        due("player 2", x.best(12), BAD);
        due("what 2", x.best(2), BAD);
        due("what 9", x.best(9), BAD);
        due("what -1", x.best(-1), BAD);
        due("what most", x.best(MOST), BAD);
        due("nothing is changed", x.player(0, 3), 1);
        TuneWard none = new TuneWard();
        due("no tunes", none.best(0), STATE);
        due("no tunes", none.best(1), STATE);
        due("no tunes, no player", none.best(10), BAD);
        due("no tunes, no what", none.best(2), BAD);
        TuneWard alone = told("plain 1 0 1;bound 0;");
        due("nobody plays", alone.best(0), 1);
        due("nobody is paid", alone.best(1), 0);
    }

    private static void bestOfSeveral() {
        TuneWard x = told("plain 1 0 1;plain 1 0 1;player 9 9 2 1;player 9 9 2 1;bound 0;bound 1;");
        due("the first by players", x.best(10), 0);
        due("the first by players", x.best(11), 1);
        TuneWard cheap = told("plain 5 0 1;plain 5 0 1;player 9 9 1 0;player 9 9 3 0;");
        due("away", cheap.best(0), 0);
        due("least cost", cheap.best(1), 5);
        due("the dear one stands behind", cheap.best(10), 0);
        due("the dear one stands behind", cheap.best(11), 0);
        TuneWard three = told("plain 1 0 1;plain 1 5 1;plain 1 9 1;player 9 9 0 2;player 9 9 0 1;player 9 9 0 0;bound 2;");
        due("0 0 2 is ahead of 0 2 0", three.best(10), 0);
        due("0 0 2 is ahead of 0 2 0", three.best(11), 0);
        due("0 0 2 is ahead of 0 2 0", three.best(12), 2);
    }

    // Promise 24
    private static void apart() {
        TuneWard x = told("plain 2 9 1;plain 2 0 1;plain 3 0 4;"
                + "player 9 99 1 0;player 9 99 1 1;player 9 99 1 2;bound 2;");
        due("away", x.apart(0), 0);
        due("start 0", x.apart(10), 0);
        due("start 1", x.apart(11), 0);
        due("start 2", x.apart(12), 2);
        due("start 3", x.apart(13), BAD);
        due("what 1", x.apart(1), BAD);
        due("what 9", x.apart(9), BAD);
        due("what -1", x.apart(-1), BAD);
        due("nothing is changed", x.tune(0, 3), 9);
        x.add(2, 4);
        x.set(2, 2, 9);
        x.set(0, 2, 9);
        x.set(1, 2, 9);
        due("away", x.apart(0), 1);
        due("the first of all", x.apart(12), 0);
        due("no tunes", new TuneWard().apart(0), STATE);
        due("no tunes, no start", new TuneWard().apart(10), BAD);
        TuneWard close = told("plain 4 0 1;plain 8 0 1;fugue 6 0 5;"
                + "player 9 99 1 0;player 9 99 1 1;player 9 99 1 2;bound 2;");
        due("only by 4 it would not", close.apart(0), 1);
        close.set(0, 2, 3);
        due("by 3 it does not", close.apart(0), 0);
        TuneWard one = told("plain 1 9 1;bound 0;");
        due("away all the same", one.apart(0), 1);
        due("0 comes first", one.apart(10), 0);
    }

    // Promise 25
    private static void compose() {
        int[][] cases = {{1, 1, 0, 1}, {9, 1, 0, 9}, {10, 1, 1, 5}, {12, 1, 1, 6}, {18, 1, 1, 9}, {15, 2, 1, 5},
            {20, 2, 2, 5}, {21, 2, 1, 7}, {27, 2, 1, 9}, {28, 2, 2, 7}, {11, 7, 1, 1}, {7, 1, 0, 7}, {144, 8, 2, 9}};
        for (int[] c : cases) {
            for (int what = 0; what < 3; what++) {
                due("compose " + c[0] + " " + what, x().compose(c[0], what), c[1 + what]);
            }
        }
        due("compose 13", x().compose(13, 0), NONE);
        due("compose 13", x().compose(13, 2), NONE);
        due("compose 143", x().compose(143, 0), NONE);
        due("compose 0", x().compose(0, 0), BAD);
        due("compose 145", x().compose(145, 0), BAD);
        due("compose what 3", x().compose(1, 3), BAD);
        due("compose what -1", x().compose(1, -1), BAD);
        due("compose 13, what 3", x().compose(13, 3), BAD);
    }

    private static TuneWard x() {
        return new TuneWard();
    }

    // Promise 26
    private static void bribe() {
        TuneWard x = told("plain 9 0 1;plain 2 0 2;player 9 9 1 0;player 9 9 1 0;player 9 9 1 1;bound 0;bound 1;");
        due("two stand there", x.bribe(1, 5, 0), 2);
        due("set", x.bribe(1, 5, 1), 3);
        due("served in 2", x.bribe(2, 2, 0), 0);
        due("served in 2", x.bribe(2, 2, 1), 0);
        due("before that", x.bribe(2, 1, 0), 1);
        due("before that", x.bribe(2, 1, 1), 4);
        due("all", x.bribe(3, 0, 0), 3);
        due("all", x.bribe(3, 0, 1), 7);
        due("all, late", x.bribe(3, 9, 0), 0);
        due("nobody", x.bribe(0, 0, 0), 0);
        due("nobody", x.bribe(0, 0, 1), 0);
        x.hire(0, 1, 4);
        x.hire(1, 1, 5);
        due("one is enough, the least", x.bribe(1, 5, 1), 1);
        due("one is enough", x.bribe(1, 5, 0), 1);
        due("only the second", x.bribe(1, 4, 1), 2);
        x.set(0, 3, 6);
        due("none", x.bribe(1, 5, 0), NONE);
        due("none", x.bribe(1, 5, 1), NONE);
        due("set 4", x.bribe(4, 5, 0), BAD);
        due("set -1", x.bribe(-1, 5, 0), BAD);
        due("m 160", x.bribe(1, 160, 0), BAD);
        due("m -1", x.bribe(1, -1, 0), BAD);
        due("m 159", x.bribe(3, 159, 0), 0);
        due("what 2", x.bribe(1, 5, 2), BAD);
        due("what -1", x.bribe(1, 5, -1), BAD);
        due("no prisoners", new TuneWard().bribe(1, 5, 0), BAD);
        TuneWard fewer = told("plain 9 0 1;player 9 2 1 0;player 9 2 1 0;player 9 5 1 0;bound 0;");
        due("the third alone, not the two ahead", fewer.bribe(1, 5, 0), 1);
        due("the third alone, not the two ahead", fewer.bribe(1, 5, 1), 4);
    }

    // Promise 27
    private static void teach() {
        TuneWard x = told("plain 2 0 9;plain 2 0 8;player 1 9 1 0;player 1 9 1 1;bound 0;bound 1;bound 1;");
        due("who", x.teach(0), 1);
        due("how many", x.teach(1), 1);
        due("what 2", x.teach(2), BAD);
        due("what -1", x.teach(-1), BAD);
        due("nothing is changed", x.player(1, 0), 1);
        x.bind(2, 0);
        x.bind(0, 1);
        due("again", x.teach(0), 1);
        x.bind(0, 0);
        x.bind(1, 0);
        due("the other", x.teach(0), 0);
        due("all are kept", x.teach(1), 0);
        x.hire(0, 0, 9);
        due("none", x.teach(0), NONE);
        due("none", x.teach(1), NONE);
        due("none, bad", x.teach(2), BAD);
        TuneWard even = told("plain 2 0 9;plain 2 0 8;player 1 9 1 0;player 1 9 1 1;bound 0;bound 1;");
        due("of several the first", even.teach(0), 0);
        TuneWard both = told("plain 2 0 9;player 1 1 1 0;player 1 9 1 0;bound 0;");
        due("one alone does not do", both.teach(0), NONE);
    }

    // Promises 28, 29
    private static void strings() {
        TuneWard x = told("plain 2 0 1;plain 2 0 2;player 9 9 1 0;player 9 9 1 0;player 9 9 1 1;bound 0;bound 0;bound 1;");
        fraction(x, 0, 0, 1, 1, 1, 1, 1);
        fraction(x, 10, 3, 1, 0, 1, 0, 1);
        // Tune 0 is lost by 1/4, tune 1 by 1/2: 2/4 and 1/2.
        fraction(x, 5, 1, 1, 3, 4, 1, 2);
        // By 9/100 and 3/10.
        fraction(x, 3, 12, 25, 91, 100, 7, 10);
        due("mean v 11", x.mean(11, 0), BAD);
        due("mean v -1", x.mean(-1, 0), BAD);
        due("mean what 2", x.mean(5, 2), BAD);
        due("mean what -1", x.mean(5, -1), BAD);
        due("luck v 11", x.luck(11, 0, 0), BAD);
        due("luck v -1", x.luck(-1, 0, 0), BAD);
        due("luck what 2", x.luck(5, 0, 2), BAD);
        due("luck what -1", x.luck(5, 0, -1), BAD);
        due("luck prisoner 3", x.luck(5, 3, 0), BAD);
        due("luck prisoner -1", x.luck(5, -1, 0), BAD);
        TuneWard none = new TuneWard();
        due("mean of nobody", none.mean(5, 0), 0);
        due("mean of nobody", none.mean(5, 1), 1);
        TuneWard alone = told("plain 2 0 1;bound 0;");
        due("nobody plays", alone.mean(5, 0), 1);
        due("nobody plays", alone.mean(5, 1), 1);
        due("nobody plays", alone.luck(5, 0, 0), 0);
        due("nobody plays", alone.luck(5, 0, 1), 1);
    }

    private static void fraction(TuneWard x, int v, int mean, int by, int luck, int of, int luck2, int of2) {
        due("mean " + v, x.mean(v, 0), mean);
        due("mean by " + v, x.mean(v, 1), by);
        due("luck " + v, x.luck(v, 0, 0), luck);
        due("luck by " + v, x.luck(v, 0, 1), of);
        due("luck 2 " + v, x.luck(v, 2, 0), luck2);
        due("luck 2 by " + v, x.luck(v, 2, 1), of2);
    }

    // Promises 30, 31, 32
    private static void seen() {
        TuneWard x = told("plain 1 1 3 5 7;plain 1 0 0;");
        due("fits at first", x.fits(0), 15);
        due("see", x.see(0, 1, 3), 1);
        due("fits plain, rondo, fugue", x.fits(0), 7);
        due("see", x.see(0, 4, 3), 2);
        due("fits rondo", x.fits(0), 2);
        due("see", x.see(0, 0, NONE), 3);
        due("nothing ahead of START", x.fits(0), 2);
        due("see", x.see(0, 159, 1), 4);
        due("fits none", x.fits(0), 0);
        due("another tune", x.fits(1), 15);
        due("see", x.see(1, 1, NONE), 5);
        due("plain or a lullaby", x.fits(1), 9);
        due("see bad tune", x.see(2, 0, 0), BAD);
        due("see bad tune", x.see(-1, 0, 0), BAD);
        due("see bad minute", x.see(0, 160, 0), BAD);
        due("see bad minute", x.see(0, -1, 0), BAD);
        due("see bad note", x.see(0, 0, 10), BAD);
        due("see bad note", x.see(0, 0, -1), BAD);
        due("see bad note", x.see(0, 0, -3), BAD);
        due("see bad note", x.see(0, 0, -5), BAD);
        due("see", x.see(1, 0, 9), 6);
        due("see 7th", x.see(0, 0, 0), FULL);
        due("see 7th bad", x.see(0, 0, 10), BAD);
        due("forget 7", x.forget(7), BAD);
        due("forget -1", x.forget(-1), BAD);
        due("forget", x.forget(1), 6);
        due("count", x.count(0), 1);
        due("fits as then", x.fits(0), 7);
        due("forget none", x.forget(1), 1);
        due("fits tune 2", x.fits(2), BAD);
        due("fits tune -1", x.fits(-1), BAD);
        x.write(0, 0, 4);
        due("fits as it is now", x.fits(0), 8);
        due("forget all", x.forget(0), 1);
        due("fits all", x.fits(0), 15);
    }

    // Promise 33
    private static void listening() {
        TuneWard x = told("plain 1 1 3 5 7;plain 1 0 0;");
        // In minute 1 the lullaby is 1 lower; in 4 plain and lullaby are over, rondo has 3, fugue 7.
        due("minute", x.listen(0, 0), 4);
        due("left", x.listen(0, 1), 2);
        x.see(0, 4, NONE);
        due("minute", x.listen(0, 0), 1);
        due("left", x.listen(0, 1), 1);
        x.see(0, 1, 2);
        due("one is left", x.listen(0, 0), NONE);
        due("one is left", x.listen(0, 1), NONE);
        x.see(0, 1, 3);
        due("none fits", x.listen(0, 0), NONE);
        due("plain and lullaby are as one", x.listen(1, 0), 1);
        due("plain and lullaby are as one", x.listen(1, 1), 2);
        due("tune 2", x.listen(2, 0), BAD);
        due("tune -1", x.listen(-1, 0), BAD);
        due("what 2", x.listen(0, 2), BAD);
        due("what -1", x.listen(0, -1), BAD);
    }

    // Promise 34
    private static void drifting() {
        TuneWard x = told("plain 1 0 5;player 3 9 2 0;bound 0;bound 0;");
        // The bits of seed 1 are 16838, 5758, 10113, 17515: by 5758 the NOTE becomes 575 modulo 10, a slip.
        due("once", x.drift(1, 1, 0), 2);
        due("once, cost", x.drift(1, 1, 1), 2);
        // By 17515 it becomes 1751 modulo 10, and is served.
        due("twice", x.drift(1, 2, 0), 2);
        due("twice, cost", x.drift(1, 2, 1), 4);
        due("nothing is changed", x.note(0, 0), 5);
        TuneWard two = told("plain 1 0 1 1;plain 1 0 1 1;player 9 9 2 0;player 1 9 2 1;bound 1;");
        // Bits 16838 even: tune 0, note 5758 even: 0, becomes 5; bits 10113 odd: tune 1, 17515: note 1 becomes 1.
        due("tunes and notes", two.drift(1, 2, 0), 0);
        due("tunes and notes, cost", two.drift(1, 2, 1), 16);
        due("n 0", x.drift(1, 0, 0), BAD);
        due("n 21", x.drift(1, 21, 0), BAD);
        due("n 20", x.drift(MOST, 20, 0) >= 0 ? 1 : 0, 1);
        due("seed least", x.drift(LEAST, 1, 0) >= 0 ? 1 : 0, 1);
        due("what 2", x.drift(1, 1, 2), BAD);
        due("what -1", x.drift(1, 1, -1), BAD);
        due("no tunes", new TuneWard().drift(1, 1, 0), STATE);
        due("no tunes, bad", new TuneWard().drift(1, 0, 0), BAD);
    }

    // Promises 35, 36
    private static void images() {
        TuneWard x = told(KINDS);
        due("keep", x.keep(0), 0);
        due("images", x.count(1), 1);
        x.write(0, 0, 9);
        x.add(2, 7);
        x.set(1, 2, 9);
        x.hire(0, 0, 1);
        x.bind(0, 2);
        x.see(0, 0, 0);
        due("keep 1", x.keep(1), 0);
        due("images", x.count(1), 2);
        due("back", x.back(0), 10);
        due("note", x.note(0, 0), 3);
        due("notes", x.tune(2, 1), 2);
        due("times", x.tune(1, 2), 3);
        due("player", x.player(0, 0), 7);
        due("bound", x.bound(0), 0);
        due("seen stays", x.count(0), 1);
        due("back 1", x.back(1), 11);
        due("note", x.note(0, 0), 9);
        due("added", x.note(2, 2), 7);
        x.write(0, 0, 8);
        due("the image stays as it is", x.back(1), 11);
        due("note", x.note(0, 0), 9);
        due("keep again", x.keep(1), 1);
        due("keep 2", x.keep(2), BAD);
        due("keep -1", x.keep(-1), BAD);
        due("back 2", x.back(2), BAD);
        due("back -1", x.back(-1), BAD);
        TuneWard none = new TuneWard();
        due("keep nothing", none.keep(1), 0);
        due("back none", none.back(0), STATE);
        due("back nothing", none.back(1), 0);
    }

    // Promises 37, 38
    private static void sheets() {
        TuneWard x = told("plain 1 0 1;plain 1 0 1;bound 0;");
        due("sheet", x.sheet(0, 0, 40), 1);
        due("cells", x.count(3), 40);
        due("sheet 41", x.sheet(0, 0, 41), BAD);
        due("sheet -1", x.sheet(0, 0, -1), -14);
        due("sheet least", x.sheet(0, 0, LEAST), -14);
        due("the sheet stays", x.count(3), 40);
        due("sheet k 4", x.sheet(4, 0, 1), BAD);
        due("sheet k -1", x.sheet(-1, 0, 1), BAD);
        due("sheet lane 3", x.sheet(0, 3, 1), BAD);
        due("sheet lane -1", x.sheet(0, -1, 1), BAD);
        due("bad ahead of SIZE", x.sheet(4, 0, -1), BAD);
        due("bad ahead of SIZE", x.sheet(0, 3, -1), BAD);
        due("lay", x.lay(0, 39, 5), 1);
        due("lay 40", x.lay(0, 40, 5), -12);
        due("lay -1", x.lay(0, -1, 5), -12);
        due("lay k 4", x.lay(4, 0, 5), BAD);
        due("lay k -1", x.lay(-1, 0, 5), BAD);
        due("lay on nothing", x.lay(3, 99, 5), -11);
        due("sheet of 0", x.sheet(0, 2, 0), 1);
        due("cells", x.count(3), 0);
        due("lay on 0", x.lay(0, 0, 1), -12);
        due("cells are 0 again", x.sheet(1, 2, 4), 1);
        x.lay(1, 1, 1);
        due("read", x.read(1, 2, 0, 1), 1);
        due("bound", x.bound(0), 1);
        due("new", x.sheet(1, 2, 4), 1);
        due("read 0 0", x.read(1, 2, 0, 1), 1);
        due("bound", x.bound(0), 0);
        int[] lanes = {257, 65537};
        for (int lane = 0; lane < 2; lane++) {
            x.sheet(2, lane, 2);
            x.lay(2, 1, lanes[lane]);
            due("lowest bits", x.read(2, lane, 0, 1), lane == 0 ? 1 : -20);
        }
        x.bind(0, 0);
        due("lowest bits of a short", x.read(2, 1, 0, 1), 1);
        x.lay(2, 1, 32768);
        due("with a sign", x.read(2, 1, 0, 1), -20);
        x.sheet(2, 2, 2);
        x.lay(2, 1, 65536);
        due("an int is whole", x.read(2, 2, 0, 1), -20);
    }

    // Promises 39, 40
    private static void reading() {
        TuneWard x = told("plain 1 0 1;plain 1 0 1;plain 1 0 1;bound 0;bound 0;");
        due("nothing", x.read(0, 0, 0, 1), 0);
        due("torn", x.torn(), 1);
        due("nothing, n 0", x.read(0, 0, 0, 0), 0);
        due("torn", x.torn(), 0);
        x.sheet(0, 1, 7);
        int[] cells = {0, 1, 1, 2, 0, 2, 1};
        for (int i = 0; i < cells.length; i++) {
            due("lay", x.lay(0, i, cells[i]), 1);
        }
        due("cast", x.read(0, 0, 0, 1), 0);
        due("torn", x.torn(), 3);
        due("cast ahead of index", x.read(0, 2, -1, 1), 0);
        due("torn", x.torn(), 3);
        due("index", x.read(0, 1, -1, 1), 0);
        due("torn", x.torn(), 2);
        due("n 0, no fault", x.read(0, 0, -1, 0), 0);
        due("torn", x.torn(), 0);
        due("index most", x.read(0, 1, MOST, 2), 0);
        due("torn", x.torn(), 2);
        due("index least", x.read(0, 1, LEAST, 20), 0);
        due("those ahead were", x.read(0, 1, 0, 20), 3);
        due("torn", x.torn(), 2);
        due("bound 0", x.bound(0), 2);
        due("bound 1", x.bound(1), 2);
        due("refused: bound to it", x.read(0, 1, 2, 1), -20);
        due("torn stays", x.torn(), 2);
        x.bind(0, 0);
        x.bind(1, 0);
        x.lay(0, 5, 3);
        due("no such tune", x.read(0, 1, 0, 3), -22);
        due("none was", x.bound(0), 0);
        due("none was", x.bound(1), 0);
        due("refused ahead of the index", x.read(0, 1, 2, 20), -21);
        x.lay(0, 2, 5);
        due("no such prisoner", x.read(0, 1, 0, 2), -21);
        due("the first met", x.read(0, 1, 0, 3), -21);
        due("half a pair", x.read(0, 1, 6, 1), 0);
        due("torn", x.torn(), 2);
        due("whole", x.read(0, 1, 0, 1), 1);
        due("torn", x.torn(), 0);
        due("k 4", x.read(4, 1, 0, 0), BAD);
        due("k -1", x.read(-1, 1, 0, 0), BAD);
        due("lane 3", x.read(0, 3, 0, 0), BAD);
        due("lane -1", x.read(0, -1, 0, 0), BAD);
        due("n 21", x.read(0, 1, 0, 21), BAD);
        due("n -1", x.read(0, 1, 0, -1), BAD);
        x.read(3, 1, 0, 1);
        due("torn", x.torn(), 1);
        due("bad leaves it", x.read(0, 1, 0, 21), BAD);
        due("torn", x.torn(), 1);
        x.text();
        due("text leaves it", x.torn(), 1);
        x.sheet(0, 1, 40);
        due("bind of nobody", x.read(0, 1, 0, 20), -20);
    }

    // Promise 41
    private static void counts() {
        TuneWard x = told(KINDS);
        due("seen", x.count(0), 0);
        due("images", x.count(1), 0);
        due("tape", x.count(2), 0);
        due("cells", x.count(3), NONE);
        due("notes", x.count(4), 10);
        due("lengths", x.count(5), 29);
        due("6", x.count(6), BAD);
        due("-1", x.count(-1), BAD);
        x.feed('x');
        due("tape", x.count(2), 1);
        x.sheet(1, 0, 3);
        due("cells of sheet 0", x.count(3), NONE);
        x.keep(1);
        due("images", x.count(1), 1);
        x.see(0, 0, 0);
        due("seen", x.count(0), 1);
    }
}
