/** For each promise of the document: ordinary inputs, the edges that it names, wrong inputs; answers worked out by hand. */
public final class PromisesTest {
    private static final int BAD = -1, STATE = -2, FULL = -3, FEW = -4, STALE = -5, NONE = -9;
    private static final String THREE = "copy 1;copy 1;copy 1;read 2;write 2;";
    private static final String MIXED = "copy 2;copy 1;witness 1;copy 1;read 2;write 4;";
    private static int promise = 0;
    private static int wrong = 0;
    private static int asked = 0;

    private static void due(String call, int got, int want) {
        asked++;
        if (got != want) {
            wrong++;
            System.out.println("promise " + promise + ": " + call + " answered " + got + ", due is " + want);
        }
    }

    private static void type(VoteFiles files, String text) {
        for (int i = 0; i < text.length(); i++) {
            files.type(text.charAt(i));
        }
    }

    private static VoteFiles told(String text) {
        VoteFiles files = new VoteFiles();
        type(files, text);
        if (files.file() < 0) {
            due("file of " + text, -1, 0);
        }
        return files;
    }

    /** Text, and what file() answers to it. */
    private static void fileDue(String text, int want) {
        VoteFiles files = told(THREE);
        files.writes(0, 5);
        type(files, text);
        due("file of '" + text + "'", files.file(), want);
        if (want < 0) {
            due("letters behind the fault in '" + text + "'", files.count(6), text.length());
            due("version behind the fault in '" + text + "'", files.copy(0, 2), 1);
        } else {
            due("letters behind '" + text + "'", files.count(6), 0);
        }
    }

    private static void copyDue(VoteFiles files, int copy, int... want) {
        for (int what = 0; what < want.length; what++) {
            due("copy(" + copy + ", " + what + ")", files.copy(copy, what), want[what]);
        }
    }

    private static void groupDue(VoteFiles files, int group, int... want) {
        for (int what = 0; what < want.length; what++) {
            due("group(" + group + ", " + what + ")", files.group(group, what), want[what]);
        }
    }

    private static void countDue(VoteFiles files, int... want) {
        for (int what = 0; what < want.length; what++) {
            due("count(" + what + ")", files.count(what), want[what]);
        }
    }

    private static void newObject() {
        promise = 1;
        VoteFiles files = new VoteFiles();
        countDue(files, 0, 1, 1, 1, 0, 0, 0, 0);
        due("asked()", files.asked(), 0);
        due("undo()", files.undo(), STATE);
        due("back(0)", files.back(0), STATE);
        due("back(1)", files.back(1), STATE);
        due("reads(0)", files.reads(0), FEW);
        due("writes(2, 1)", files.writes(2, 1), FEW);
        due("mends(1)", files.mends(1), FEW);
        due("copy(0, 0)", files.copy(0, 0), BAD);
        groupDue(files, 0, 0, NONE, 0, NONE, 0, 0, 0, 0);
        due("keep(1)", files.keep(1), 0);
        due("back(1)", files.back(1), 0);
        due("BAD", VoteFiles.BAD, BAD);
        due("STATE", VoteFiles.STATE, STATE);
        due("FULL", VoteFiles.FULL, FULL);
        due("FEW", VoteFiles.FEW, FEW);
        due("STALE", VoteFiles.STALE, STALE);
        due("NONE", VoteFiles.NONE, NONE);
    }

    private static void types() {
        promise = 2;
        VoteFiles files = new VoteFiles();
        due("type(-1)", files.type(-1), BAD);
        due("type(256)", files.type(256), BAD);
        due("type(min)", files.type(Integer.MIN_VALUE), BAD);
        due("type(max)", files.type(Integer.MAX_VALUE), BAD);
        for (int i = 1; i <= 120; i++) {
            due("type, the letter " + i, files.type(i % 2 == 0 ? 0 : 255), i);
        }
        due("type at 120", files.type(32), FULL);
        due("type of a wrong one at 120", files.type(256), BAD);
        due("count(6)", files.count(6), 120);
        due("file()", files.file(), -10);
    }

    private static void clears() {
        promise = 3;
        VoteFiles files = told(THREE);
        due("clear() of nothing", files.clear(), 0);
        type(files, "copy 1;");
        due("clear()", files.clear(), 7);
        due("clear() again", files.clear(), 0);
        due("count(6)", files.count(6), 0);
        due("count(0)", files.count(0), 3);
        type(files, "  ");
        due("type after clear", files.type('x'), 3);
        files.clear();
        due("file()", files.file(), 0);
    }

    private static void filesRight() {
        promise = 4;
        fileDue("", 0);
        fileDue("    ", 0);
        fileDue("copy 5;read 3;write 3;", 3);
        fileDue("write 3;read 3;copy 5;", 3);
        fileDue("copy5;read3;write3;", 3);
        fileDue("  copy   5  ;  read 3 ;write    3; ", 3);
        fileDue("witness 0;copy 1;read 1;write 1;", 4);
        fileDue("copy 5;copy 5;copy 5;witness 5;copy 5;copy 5;read 30;write 30;", 8);
        fileDue("copy 5;copy 5;copy 5;witness 5;copy 5;copy 5;read 15;write 16;", 8);
        fileDue("copy 0;copy 0;copy 0;copy 0;copy 0;copy 1;read 1;write 1;", 8);
    }

    private static void filesFaulty() {
        promise = 4;
        fileDue("copy", -14);
        fileDue("copy 1", -16);
        fileDue("copy 1  ", -18);
        fileDue("copy 1;rea", -17);
        fileDue("copy 1;read", -21);
        fileDue("1", -10);
        fileDue(" ;", -11);
        fileDue("copy copy 1;", -15);
        fileDue("copy 1 1;", -17);
        fileDue("copy 1 # 1;", -17);
        fileDue("copy #", -15);
        fileDue("copy#", -14);
        fileDue("Copy 1;", -10);
        fileDue("cOpy 1;", -10);
        fileDue("copying 1;", -10);
        fileDue("xopy 1;", -10);
        fileDue("copx 1;", -10);
        fileDue("copy 1;bead 1;write 1;", -17);
        fileDue("copy 1;read 1;wrote 1;", -24);
        fileDue("copy 1;witless 1;read 1;", -17);
        fileDue("copy 1;write 1;write", -25);
        fileDue("copy 00;", -15);
        fileDue("copy 01;", -15);
        fileDue("copy 6;", -15);
        fileDue("copy 100;", -15);
        fileDue("copy 4294967297;", -15);
        fileDue("copy 1;;", -17);
        fileDue("copy 1\t;", -16);
        fileDue("copy -1;", -15);
        fileDue("read 31;", -15);
        fileDue("read 0;", -15);
        fileDue("write 31;", -16);
        fileDue("write 0;", -16);
        fileDue("read 1;copy 1;read 1;", -24);
        fileDue("write 1;copy 1;write 1;", -25);
        fileDue("copy 1;copy 1;copy 1;copy 1;copy 1;copy 1;copy 1;", -52);
        fileDue("copy 1;copy 1;copy 1;copy 1;copy 1;copy 1;witness 1;", -52);
        fileDue("copy 1;copy 1;copy 1;copy 1;copy 1;copy 1;copy", -52);
        fileDue("copy \u00e9;", -15);
        fileDue("\u00e9", -10);
    }

    private static void filesUnlawful() {
        promise = 4;
        fileDue("copy 1;", -17);
        fileDue("copy 1;read 1;", -24);
        fileDue("copy 1;write 1;", -25);
        fileDue("read 1;write 1;", -25);
        fileDue("copy 0;read 1;write 1;", -32);
        fileDue("copy 3;read 1;write 2;", -32);
        fileDue("copy 3;read 2;write 2; ", 3);
        fileDue("copy 4;read 4;write 2;", -32);
        fileDue("copy 4;read 4;write 3;", 3);
        fileDue("copy 3;read 4;write 3;", -32);
        fileDue("copy 3;read 3;write 4; ", -33);
    }

    private static void filesAnew() {
        promise = 4;
        VoteFiles files = told(THREE);
        files.writes(0, 7);
        files.reads(0);
        files.flips(1);
        files.moves(2, 1);
        files.sees(0, 1);
        files.keep(0);
        files.keep(1);
        type(files, MIXED);
        due("file()", files.file(), 6);
        countDue(files, 4, 1, 2, 4, 5, 0, 0, 0);
        for (int copy = 0; copy < 4; copy++) {
            copyDue(files, copy, 1, 0, 0, copy == 2 ? NONE : 0, 0, copy == 0 ? 2 : 1, copy == 2 ? 1 : 0);
        }
        due("back(0)", files.back(0), STATE);
        due("back(1)", files.back(1), STATE);
        due("undo()", files.undo(), STATE);
        due("asked()", files.asked(), 7);
        due("file() of nothing", files.file(), 0);
        countDue(files, 0, 1, 1, 1, 0, 0, 0, 0);
    }

    private static void reads() {
        promise = 5;
        VoteFiles files = told(THREE);
        due("reads(-1)", files.reads(-1), BAD);
        due("reads(3)", files.reads(3), BAD);
        due("reads(0)", files.reads(0), 0);
        due("reads(1)", files.reads(1), FEW);
        files.writes(0, 999);
        due("reads(0)", files.reads(0), 1);
        due("asked()", files.asked(), 999);
        files.flips(0);
        due("reads(0) of two", files.reads(0), 1);
        files.flips(1);
        due("reads(0) of one", files.reads(0), FEW);
        due("count(7): a read can't be undone", files.count(7), 3);

        files = told("copy 1;witness 1;witness 1;read 2;write 2;");
        files.flips(0);
        due("reads(0) of witnesses", files.reads(0), STALE);
        files.writes(0, 4);
        files.flips(0);
        due("reads(0) with an old copy", files.reads(0), STALE);
        files.moves(0, 1);
        due("reads(1): FEW ahead of STALE", files.reads(1), FEW);
    }

    private static void writes() {
        promise = 6;
        VoteFiles files = told("copy 2;copy 1;witness 1;copy 1;read 2;write 4;");
        due("writes(-1, 0)", files.writes(-1, 0), BAD);
        due("writes(3, 0)", files.writes(3, 0), BAD);
        due("writes(0, -1)", files.writes(0, -1), BAD);
        due("writes(0, 1000)", files.writes(0, 1000), BAD);
        due("writes(1, 1000)", files.writes(1, 1000), BAD);
        due("writes(0, 0)", files.writes(0, 0), 1);
        due("writes(0, 999)", files.writes(0, 999), 2);
        files.flips(3);
        due("writes(0, 3)", files.writes(0, 3), 3);
        copyDue(files, 0, 1, 0, 3, 3, 0);
        copyDue(files, 1, 1, 0, 3, 3, 0);
        copyDue(files, 2, 1, 0, 3, NONE, 0);
        copyDue(files, 3, 0, 0, 2, 999, 0);
        files.flips(1);
        due("writes(0, 4)", files.writes(0, 4), FEW);
        copyDue(files, 0, 1, 0, 3, 3, 0);

        files = told("copy 1;witness 1;witness 1;read 2;write 2;");
        files.flips(0);
        due("writes(0, 8): no data is asked for", files.writes(0, 8), 1);
        files.flips(0);
        due("writes(0, 9) over what is stale", files.writes(0, 9), 2);
        due("reads(0)", files.reads(0), 2);
        due("asked()", files.asked(), 9);
    }

    private static void mends() {
        promise = 7;
        VoteFiles files = told("copy 1;copy 1;witness 1;copy 1;copy 0;read 2;write 3;");
        due("mends(-1)", files.mends(-1), BAD);
        due("mends(3)", files.mends(3), BAD);
        due("mends(2)", files.mends(2), FEW);
        due("mends(0) where all is current", files.mends(0), 0);
        due("count(7)", files.count(7), 1);
        files.flips(1);
        files.flips(4);
        files.writes(0, 6);
        files.writes(0, 7);
        files.flips(1);
        files.flips(4);
        files.flips(3);
        due("mends(0)", files.mends(0), 2);
        copyDue(files, 1, 1, 0, 2, 7);
        copyDue(files, 4, 1, 0, 2, 7);
        copyDue(files, 2, 1, 0, 2, NONE);
        copyDue(files, 3, 0, 0, 2, 7);
        due("mends(0) again", files.mends(0), 0);

        files = told("copy 1;witness 1;witness 1;read 2;write 2;");
        files.flips(0);
        files.writes(0, 4);
        files.flips(0);
        due("mends(0) without data", files.mends(0), STALE);
        files.flips(1);
        files.flips(2);
        due("mends(0): FEW ahead of STALE", files.mends(0), FEW);
    }

    private static void votesRefused() {
        promise = 8;
        VoteFiles files = told(THREE);
        due("votes of group -1", files.votes(-1, 0, 1, 0, 2, 2), BAD);
        due("votes of group 3", files.votes(3, 0, 1, 0, 2, 2), BAD);
        due("votes of copy -1", files.votes(0, -1, 1, 0, 2, 2), BAD);
        due("votes of copy 3", files.votes(0, 3, 1, 0, 2, 2), BAD);
        due("votes -1", files.votes(0, 0, -1, 0, 2, 2), BAD);
        due("votes 6", files.votes(0, 0, 6, 0, 2, 2), BAD);
        due("witness -1", files.votes(0, 0, 1, -1, 2, 2), BAD);
        due("witness 2", files.votes(0, 0, 1, 2, 2, 2), BAD);
        due("read 0", files.votes(0, 0, 1, 0, 0, 2), BAD);
        due("read 31", files.votes(0, 0, 1, 0, 31, 2), BAD);
        due("write 0", files.votes(0, 0, 1, 0, 2, 0), BAD);
        due("write 31", files.votes(0, 0, 1, 0, 2, 31), BAD);
        due("read 30, not lawful", files.votes(0, 0, 1, 0, 30, 30), STATE);
        due("read and write too few", files.votes(0, 0, 1, 0, 1, 2), STATE);
        due("twice write too few", files.votes(0, 0, 2, 0, 4, 2), STATE);
        due("write above all", files.votes(0, 0, 0, 0, 2, 3), STATE);
        due("nobody, not lawful", files.votes(1, 0, 1, 0, 1, 1), FEW);
        due("nobody, lawful", files.votes(1, 0, 1, 0, 2, 2), FEW);
        files.flips(0);
        files.flips(1);
        due("too few, not lawful", files.votes(0, 0, 1, 0, 1, 1), STATE);
        due("too few, lawful", files.votes(0, 0, 1, 0, 2, 2), FEW);
        countDue(files, 3, 1, 2, 2, 3, 0, 0, 2);

        files = told("copy 1;witness 1;witness 1;read 2;write 2;");
        files.flips(0);
        files.writes(0, 4);
        due("no data", files.votes(0, 1, 1, 0, 2, 2), STALE);
        due("no data, not lawful", files.votes(0, 1, 1, 0, 1, 1), STATE);
        files.flips(1);
        due("too few, no data", files.votes(0, 1, 1, 0, 2, 2), FEW);
    }

    private static void votesFull() {
        promise = 8;
        VoteFiles files = told(THREE);
        for (int number = 1; number < 8; number++) {
            due("votes", files.votes(0, 0, 1, 0, 2, 2), number);
        }
        due("a ninth", files.votes(0, 0, 1, 0, 2, 2), FULL);
        due("a ninth, not lawful", files.votes(0, 0, 1, 0, 1, 1), FULL);
        due("a ninth, nobody there", files.votes(1, 0, 1, 0, 2, 2), FULL);
        due("a ninth, a wrong one", files.votes(0, 0, 6, 0, 2, 2), BAD);
        groupDue(files, 0, 7, 7, 3, 0, 1, 1, 1, 0);
        due("undo()", files.undo(), 6);
        due("votes again", files.votes(0, 0, 1, 0, 3, 3), 7);
    }

    private static void votesDone() {
        promise = 8;
        VoteFiles files = told("copy 1;copy 1;witness 1;read 2;write 2;");
        files.writes(0, 5);
        files.flips(0);
        due("a witness becomes a copy, 0 being away", files.votes(0, 2, 3, 0, 2, 4), 1);
        copyDue(files, 0, 0, 0, 1, 5, 0, 1, 0);
        copyDue(files, 1, 1, 0, 1, 5, 1, 1, 0);
        copyDue(files, 2, 1, 0, 1, 5, 1, 3, 0);
        countDue(files, 3, 2, 2, 4, 5);
        due("writes(0, 6)", files.writes(0, 6), 2);
        due("a copy becomes a witness", files.votes(0, 1, 1, 1, 2, 4), 2);
        copyDue(files, 1, 1, 0, 2, NONE, 2, 1, 1);
        copyDue(files, 2, 1, 0, 2, 6, 2, 3, 0);
        due("who is away becomes a witness", files.votes(0, 0, 2, 1, 3, 4), 3);
        copyDue(files, 0, 0, 0, 1, 5, 0, 2, 1);
        files.flips(0);
        groupDue(files, 0, 7, 3, 6, 2, 1, 1, 1, 1);
        due("mends(0)", files.mends(0), 1);
        copyDue(files, 0, 1, 0, 2, NONE, 3, 2, 1);

        files = told("copy 1;copy 1;witness 1;read 2;write 2;");
        files.flips(2);
        files.votes(0, 2, 1, 0, 2, 2);
        copyDue(files, 2, 0, 0, 0, NONE, 0, 1, 0);
        files.flips(2);
        files.flips(0);
        files.writes(0, 9);
        copyDue(files, 2, 1, 0, 1, 9, 1, 1, 0);
    }

    /** What a GROUP knows is its own, old or new. */
    private static void votesOfOldOnes() {
        promise = 8;
        VoteFiles files = told(THREE);
        files.moves(2, 1);
        due("votes(0, ..)", files.votes(0, 0, 3, 0, 2, 4), 1);
        groupDue(files, 0, 3, 1, 4, 0, 1, 1, 1, 1);
        groupDue(files, 1, 4, 0, 1, 0, 1, 0, 0, 0);
        due("lawful by the newest, not by what is known", files.votes(1, 1, 1, 0, 3, 4), STATE);
        due("lawful by what is known, not by the newest", files.votes(1, 1, 1, 0, 2, 2), FEW);
        files.moves(0, 1);
        groupDue(files, 1, 5, 1, 4, 0, 1, 1, 1, 1);
        due("all else as known", files.votes(1, 1, 0, 0, 3, 3), 2);
        copyDue(files, 0, 1, 1, 0, 0, 2, 3, 0);
        copyDue(files, 1, 1, 0, 0, 0, 1, 0, 0);
        copyDue(files, 2, 1, 1, 0, 0, 2, 1, 0);
    }

    private static void flips() {
        promise = 9;
        VoteFiles files = told(THREE);
        due("flips(-1)", files.flips(-1), BAD);
        due("flips(3)", files.flips(3), BAD);
        due("flips(2)", files.flips(2), 0);
        due("copy(2, 0)", files.copy(2, 0), 0);
        due("flips(2)", files.flips(2), 1);
        due("copy(2, 0)", files.copy(2, 0), 1);
        due("count(7)", files.count(7), 2);
    }

    private static void moves() {
        promise = 10;
        VoteFiles files = told(THREE);
        due("moves(-1, 0)", files.moves(-1, 0), BAD);
        due("moves(3, 1)", files.moves(3, 1), BAD);
        due("moves(0, -1)", files.moves(0, -1), BAD);
        due("moves(0, 3)", files.moves(0, 3), BAD);
        due("moves(0, 0)", files.moves(0, 0), STATE);
        due("moves(0, 2)", files.moves(0, 2), 0);
        due("moves(0, 2)", files.moves(0, 2), STATE);
        due("moves(0, 1)", files.moves(0, 1), 2);
        files.flips(1);
        due("moves(1, 1): it is down", files.moves(1, 1), 0);
        due("copy(1, 1)", files.copy(1, 1), 1);
        due("group(1, 0)", files.group(1, 0), 1);
        due("count(7)", files.count(7), 4);
    }

    private static void undoes() {
        promise = 11;
        VoteFiles files = told(THREE);
        due("undo() of nothing", files.undo(), STATE);
        files.flips(0);
        files.writes(0, 5);
        files.flips(0);
        files.mends(0);
        files.moves(2, 1);
        files.votes(0, 0, 5, 0, 4, 4);
        files.reads(0);
        files.moves(2, 1);
        files.flips(7);
        due("count(7)", files.count(7), 6);
        due("undo() of votes", files.undo(), 5);
        countDue(files, 3, 1, 2, 2, 3);
        copyDue(files, 0, 1, 0, 1, 5, 0, 1, 0);
        due("undo() of moves", files.undo(), 4);
        due("copy(2, 1)", files.copy(2, 1), 0);
        due("undo() of mends", files.undo(), 3);
        copyDue(files, 0, 1, 0, 0, 0);
        due("undo() of flips", files.undo(), 2);
        due("copy(0, 0)", files.copy(0, 0), 0);
        due("undo() of writes", files.undo(), 1);
        copyDue(files, 1, 1, 0, 0, 0);
        due("undo() of flips", files.undo(), 0);
        due("copy(0, 0)", files.copy(0, 0), 1);
        due("undo() of nothing", files.undo(), STATE);
        due("asked()", files.asked(), 5);

        for (int i = 1; i <= 13; i++) {
            files.writes(0, i);
            due("count(7)", files.count(7), Math.min(i, 10));
        }
        for (int i = 12; i >= 3; i--) {
            due("undo()", files.undo(), i - 3);
            copyDue(files, 1, 1, 0, i, i);
        }
        due("undo() of what is lost", files.undo(), STATE);
        due("copy(1, 2)", files.copy(1, 2), 3);
        files.sees(0, 0);
        files.keep(0);
        files.flips(0);
        files.undo();
        due("count(5): what was seen stays", files.count(5), 1);
        due("back(0): images stay", files.back(0), 3);
    }

    private static void copies() {
        promise = 12;
        VoteFiles files = told(MIXED);
        due("copy(-1, 0)", files.copy(-1, 0), BAD);
        due("copy(4, 0)", files.copy(4, 0), BAD);
        due("copy(0, -1)", files.copy(0, -1), BAD);
        due("copy(0, 7)", files.copy(0, 7), BAD);
        copyDue(files, 0, 1, 0, 0, 0, 0, 2, 0);
        copyDue(files, 2, 1, 0, 0, NONE, 0, 1, 1);
        files.writes(0, 12);
        files.moves(3, 2);
        files.flips(3);
        files.votes(0, 3, 4, 1, 4, 5);
        copyDue(files, 3, 0, 2, 1, 12, 0, 4, 1);
        copyDue(files, 0, 1, 0, 1, 12, 1, 2, 0);
    }

    private static void groups() {
        promise = 13;
        VoteFiles files = told(MIXED);
        due("group(-1, 0)", files.group(-1, 0), BAD);
        due("group(3, 0)", files.group(3, 0), BAD);
        due("group(0, -1)", files.group(0, -1), BAD);
        due("group(0, 8)", files.group(0, 8), BAD);
        due("group(1, 8): nobody there", files.group(1, 8), BAD);
        groupDue(files, 0, 15, 0, 5, 0, 1, 1, 1, 1);
        groupDue(files, 1, 0, NONE, 0, NONE, 0, 0, 0, 0);
        files.moves(0, 1);
        groupDue(files, 0, 14, 0, 3, 0, 1, 1, 0, 0);
        groupDue(files, 1, 1, 0, 2, 0, 1, 1, 0, 0);
        files.flips(0);
        groupDue(files, 1, 0, NONE, 0, NONE, 0, 0, 0, 0);

        files = told("copy 1;witness 1;witness 1;read 2;write 2;");
        files.flips(0);
        groupDue(files, 0, 6, 0, 2, 0, 0, 0, 1, 0);
        files.writes(0, 4);
        files.flips(0);
        groupDue(files, 0, 7, 0, 3, 1, 0, 0, 1, 0);
    }

    private static void askeds() {
        promise = 14;
        VoteFiles files = told(THREE);
        files.writes(0, 41);
        due("asked() before a read", files.asked(), 0);
        files.reads(0);
        due("asked()", files.asked(), 41);
        files.writes(0, 42);
        due("asked() after a write", files.asked(), 41);
        files.reads(1);
        due("asked() after a refused read", files.asked(), 41);
        files.undo();
        files.undo();
        due("asked() after undo()", files.asked(), 41);
        files.keep(0);
        files.back(0);
        due("asked() after back()", files.asked(), 41);
        files.reads(0);
        due("asked()", files.asked(), 0);
    }

    private static void chanceDue(VoteFiles files, int x, int way, int upper, int lower) {
        due("chance(" + x + ", " + way + ", 0)", files.chance(x, way, 0), upper);
        due("chance(" + x + ", " + way + ", 1)", files.chance(x, way, 1), lower);
    }

    private static void chances() {
        promise = 15;
        VoteFiles files = told(THREE);
        due("chance(-1, 0, 0)", files.chance(-1, 0, 0), BAD);
        due("chance(11, 0, 0)", files.chance(11, 0, 0), BAD);
        due("chance(1, -1, 0)", files.chance(1, -1, 0), BAD);
        due("chance(1, 2, 0)", files.chance(1, 2, 0), BAD);
        due("chance(1, 0, -1)", files.chance(1, 0, -1), BAD);
        due("chance(1, 0, 2)", files.chance(1, 0, 2), BAD);
        chanceDue(files, 0, 0, 0, 1);
        chanceDue(files, 10, 1, 1, 1);
        chanceDue(files, 9, 0, 243, 250);
        chanceDue(files, 5, 1, 1, 2);
        files.flips(0);
        files.flips(1);
        chanceDue(files, 9, 0, 243, 250);
        chanceDue(new VoteFiles(), 10, 0, 0, 1);
        chanceDue(new VoteFiles(), 5, 1, 0, 1);

        files = told("copy 5;copy 5;copy 5;copy 5;copy 5;witness 5;read 30;write 30;");
        chanceDue(files, 9, 0, 531441, 1000000);
        chanceDue(files, 1, 1, 1, 1000000);
        chanceDue(files, 5, 1, 1, 64);
        files.votes(0, 0, 0, 0, 25, 25);
        chanceDue(files, 9, 0, 59049, 100000);
    }

    private static void leasts() {
        promise = 16;
        VoteFiles files = told("copy 1;copy 2;witness 2;copy 3;copy 0;read 3;write 6;");
        due("least(-1)", files.least(-1), BAD);
        due("least(2)", files.least(2), BAD);
        due("least(0)", files.least(0), 8);
        due("least(1)", files.least(1), 11);
        files.votes(0, 3, 2, 0, 3, 5);
        due("least(0)", files.least(0), 3);
        due("least(1)", files.least(1), 7);
        files.flips(1);
        due("least(0), who is down counts too", files.least(0), 3);
        due("least(0) without copies", new VoteFiles().least(0), 0);
        due("least(1) without copies", new VoteFiles().least(1), 0);
    }

    private static void bestDue(VoteFiles files, int x, int a, int... want) {
        for (int what = 0; what < 3; what++) {
            due("best(" + x + ", " + a + ", " + what + ")", files.best(x, a, what), want[what]);
        }
    }

    private static void bests() {
        promise = 17;
        VoteFiles files = told(THREE);
        due("best(-1, 0, 0)", files.best(-1, 0, 0), BAD);
        due("best(11, 0, 0)", files.best(11, 0, 0), BAD);
        due("best(0, -1, 0)", files.best(0, -1, 0), BAD);
        due("best(0, 11, 0)", files.best(0, 11, 0), BAD);
        due("best(0, 0, -1)", files.best(0, 0, -1), BAD);
        due("best(0, 0, 3)", files.best(0, 0, 3), BAD);
        due("best without copies", new VoteFiles().best(5, 5, 0), NONE);
        due("best without copies, a wrong one", new VoteFiles().best(5, 5, 3), BAD);
        bestDue(files, 0, 5, 0, 1, 1);
        bestDue(files, 10, 5, 10000, 1, 1);
        bestDue(files, 9, 5, 9720, 21, 2);
        bestDue(files, 9, 10, 9990, 21, 3);
        bestDue(files, 1, 0, 1000, 1, 1);
        VoteFiles six = told("copy 1;copy 1;copy 1;copy 1;copy 1;copy 1;read 1;write 6;");
        bestDue(six, 9, 10, 9999990, 1365, 6);
        bestDue(six, 10, 0, 10000000, 1, 1);
        // Five of six with a vote each, three for both: 0.99144 of 10 million.
        bestDue(six, 9, 5, 9914400, 341, 3);
    }

    private static void seens() {
        promise = 18;
        VoteFiles files = told(THREE);
        due("sees(-1, 0)", files.sees(-1, 0), BAD);
        due("sees(2, 0)", files.sees(2, 0), BAD);
        due("sees(0, -1)", files.sees(0, -1), BAD);
        due("sees(0, 2)", files.sees(0, 2), BAD);
        for (int i = 1; i <= 6; i++) {
            due("sees(" + i % 2 + ", 1)", files.sees(i % 2, 1), i);
        }
        due("sees at 6", files.sees(0, 1), FULL);
        due("a wrong one at 6", files.sees(2, 1), BAD);
        due("count(5)", files.count(5), 6);
        due("count(7)", files.count(7), 0);
        due("sees without copies", new VoteFiles().sees(0, 1), 1);
    }

    private static void forgets() {
        promise = 19;
        VoteFiles files = told(THREE);
        due("forget() of nothing", files.forget(), 0);
        files.sees(0, 0);
        files.sees(1, 0);
        due("unseen(0)", files.unseen(0), 4);
        due("forget()", files.forget(), 2);
        due("forget()", files.forget(), 0);
        due("unseen(0)", files.unseen(0), 8);
        due("sees(0, 1)", files.sees(0, 1), 1);
    }

    private static void unseens() {
        promise = 20;
        VoteFiles files = told("copy 2;copy 1;copy 0;read 1;write 3;");
        due("unseen(-1)", files.unseen(-1), BAD);
        due("unseen(2)", files.unseen(2), BAD);
        due("unseen(0)", files.unseen(0), 8);
        due("unseen(1)", files.unseen(1), 0);
        files.sees(0, 1);
        due("unseen(0)", files.unseen(0), 6);
        due("unseen(1)", files.unseen(1), 0);
        files.sees(1, 0);
        due("unseen(0)", files.unseen(0), 4);
        due("unseen(1)", files.unseen(1), 1);
        files.flips(0);
        files.moves(1, 2);
        due("unseen(0), how things are does not matter", files.unseen(0), 4);
        files.undo();
        files.undo();
        files.votes(0, 2, 5, 0, 3, 6);
        due("unseen(0) by the newest", files.unseen(0), 2);
        due("unseen(1) by the newest", files.unseen(1), 3);
        files.sees(1, 1);
        due("unseen(0)", files.unseen(0), 0);
        due("unseen(1)", files.unseen(1), NONE);

        files = new VoteFiles();
        due("unseen(0) without copies", files.unseen(0), 1);
        due("unseen(1) without copies", files.unseen(1), 0);
        files.sees(0, 1);
        due("unseen(0) without copies", files.unseen(0), 0);
        due("unseen(1) without copies", files.unseen(1), NONE);
    }

    private static void keeps() {
        promise = 21;
        VoteFiles files = told(THREE);
        due("keep(-1)", files.keep(-1), BAD);
        due("keep(2)", files.keep(2), BAD);
        due("keep(0)", files.keep(0), 3);
        files.writes(0, 8);
        due("keep(1)", files.keep(1), 3);
        due("count(7)", files.count(7), 1);
        files.writes(0, 9);
        due("keep(1) again", files.keep(1), 3);
        files.back(0);
        copyDue(files, 0, 1, 0, 0, 0);
        files.back(1);
        copyDue(files, 0, 1, 0, 2, 9);
    }

    private static void backs() {
        promise = 22;
        VoteFiles files = told("copy 1;copy 1;witness 1;read 2;write 2;");
        due("back(-1)", files.back(-1), BAD);
        due("back(2)", files.back(2), BAD);
        due("back(0)", files.back(0), STATE);
        files.votes(0, 0, 3, 0, 2, 4);
        files.writes(0, 8);
        files.moves(1, 2);
        files.flips(2);
        files.keep(0);
        due("back(1)", files.back(1), STATE);
        due("count(7) after a refusal", files.count(7), 4);
        files.undo();
        files.undo();
        files.undo();
        files.undo();
        files.votes(0, 2, 4, 0, 3, 5);
        files.votes(0, 2, 5, 0, 3, 5);
        files.sees(0, 1);
        type(files, "co");
        due("back(0)", files.back(0), 3);
        countDue(files, 3, 2, 2, 4, 5, 1, 2, 0);
        copyDue(files, 0, 1, 0, 1, 8, 1, 3, 0);
        copyDue(files, 1, 1, 2, 1, 8, 1, 1, 0);
        copyDue(files, 2, 0, 0, 1, NONE, 1, 1, 1);
        due("undo() behind back()", files.undo(), STATE);
        files.flips(0);
        due("back(0) once more", files.back(0), 3);
        due("copy(0, 0)", files.copy(0, 0), 1);
    }

    private static void counts() {
        promise = 23;
        VoteFiles files = told(MIXED);
        due("count(-1)", files.count(-1), BAD);
        due("count(8)", files.count(8), BAD);
        countDue(files, 4, 1, 2, 4, 5, 0, 0, 0);
        files.votes(0, 1, 3, 0, 3, 5);
        files.flips(0);
        files.sees(1, 1);
        files.type('x');
        countDue(files, 4, 2, 3, 5, 7, 1, 1, 2);
    }

    public static void main(String[] args) {
        newObject();
        types();
        clears();
        filesRight();
        filesFaulty();
        filesUnlawful();
        filesAnew();
        reads();
        writes();
        mends();
        votesRefused();
        votesFull();
        votesDone();
        votesOfOldOnes();
        flips();
        moves();
        undoes();
        copies();
        groups();
        askeds();
        chances();
        leasts();
        bests();
        seens();
        forgets();
        unseens();
        keeps();
        backs();
        counts();
        System.out.println("PromisesTest: " + asked + " answers, " + wrong + " wrong");
        if (wrong != 0) {
            System.exit(1);
        }
    }
}
