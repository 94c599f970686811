import java.util.ArrayList;
import java.util.IdentityHashMap;
import java.util.List;
import java.util.Map;
import java.util.function.IntFunction;

/**
 * Each sentence of the document that names a boundary case, as a test of its own: the last value that is taken and
 * the first that is refused, empty and full, what a refused call leaves, which of two refusals goes first.
 */
public final class BoundaryTest {
    private static final int BAD = -1, STATE = -2, FULL = -3, FEW = -4, STALE = -5, NONE = -9;
    private static final int LOWEST = Integer.MIN_VALUE, HIGHEST = Integer.MAX_VALUE;

    private static final String ONE = "copy 1;read 1;write 1;";
    private static final String THREE = "copy 1;copy 1;copy 1;read 2;write 2;";
    private static final String SIX = "copy 1;copy 1;copy 1;copy 1;copy 1;copy 1;";
    private static final String HEAVY = "copy 5;copy 5;copy 5;copy 5;copy 5;copy 5;";
    private static final String WITNESSED = "copy 1;witness 1;witness 1;read 2;write 2;";

    private interface Call {
        int on(VoteFiles files);
    }

    private interface Story {
        void tell(VoteFiles files);
    }

    private static final Call NOTHING = files -> 0;
    private static final Story EMPTY = files -> { };
    private static final Story BUSY = BoundaryTest::busy;

    private static final Map<Story, List<Integer>> UNTOUCHED = new IdentityHashMap<>();
    private static String sentence = "";
    private static int sentences = 0;
    private static int asked = 0;
    private static int wrong = 0;

    // ---- how it is tested

    private static void sentence(String words) {
        sentence = words;
        sentences++;
    }

    private static void due(String call, int got, int want) {
        asked++;
        if (got != want) {
            fail(call + " answered " + got + ", due is " + want);
        }
    }

    private static void fail(String what) {
        wrong++;
        System.out.println("\"" + sentence + "\": " + what);
    }

    private static void type(VoteFiles files, String text) {
        for (int i = 0; i < text.length(); i++) {
            files.type(text.charAt(i));
        }
    }

    private static void tell(VoteFiles files, String text) {
        files.clear();
        type(files, text);
        if (files.file() < 0) {
            fail("the text of this test is refused: " + text);
        }
    }

    private static VoteFiles told(String text) {
        VoteFiles files = new VoteFiles();
        tell(files, text);
        return files;
    }

    private static VoteFiles after(Story story) {
        VoteFiles files = new VoteFiles();
        story.tell(files);
        return files;
    }

    /** Something of all that there is, so that whatever a refused call would change can be seen. */
    private static void busy(VoteFiles files) {
        tell(files, "copy 2;copy 1;witness 1;copy 1;read 2;write 4;");
        files.writes(0, 7);
        files.keep(0);
        files.flips(3);
        files.writes(0, 8);
        files.reads(0);
        files.flips(3);
        files.votes(0, 1, 2, 0, 3, 4);
        files.writes(0, 9);
        files.moves(3, 1);
        files.keep(1);
        files.flips(2);
        files.sees(0, 1);
        files.sees(1, 0);
        type(files, "copy 1; ");
    }

    private static void look(VoteFiles files, List<Integer> found) {
        for (int what = 0; what < 8; what++) {
            found.add(files.count(what));
        }
        for (int copy = 0; copy < 6; copy++) {
            for (int what = 0; what < 7; what++) {
                found.add(files.copy(copy, what));
            }
        }
        for (int group = 0; group < 3; group++) {
            for (int what = 0; what < 8; what++) {
                found.add(files.group(group, what));
            }
        }
        found.add(files.asked());
        found.add(files.unseen(0));
        found.add(files.unseen(1));
    }

    /** All that can be found out behind a call, each part on an object of its own: one lives for 512 calls. */
    private static List<Integer> trace(Story story, Call call) {
        List<Call> ends = new ArrayList<>(List.of(NOTHING, VoteFiles::file, f -> f.back(0), f -> f.back(1)));
        for (int many = 1; many <= 11; many++) {
            int times = many;
            ends.add(files -> undoMany(files, times));
        }
        List<Integer> found = new ArrayList<>();
        for (Call end : ends) {
            VoteFiles files = after(story);
            call.on(files);
            found.add(end.on(files));
            look(files, found);
        }
        return found;
    }

    private static int undoMany(VoteFiles files, int times) {
        int last = 0;
        for (int i = 0; i < times; i++) {
            last = files.undo();
        }
        return last;
    }

    /** The answer, and that all stays as it was. */
    private static void leavesAll(Story story, String name, Call call, int want) {
        due(name, call.on(after(story)), want);
        if (!trace(story, call).equals(UNTOUCHED.computeIfAbsent(story, s -> trace(s, NOTHING)))) {
            fail(name + " changed something");
        }
    }

    private static void taken(Story story, String name, Call call, int want) {
        due(name, call.on(after(story)), want);
    }

    /** All of these numbers, where one stands in a call: BAD, and nothing changes. */
    private static void bad(String name, IntFunction<Call> calls, int... numbers) {
        for (int number : numbers) {
            leavesAll(BUSY, name + " of " + number, calls.apply(number), BAD);
        }
    }

    private static Story typed(String text) {
        return files -> {
            busy(files);
            files.clear();
            type(files, text);
        };
    }

    private static Story filed(String text) {
        return files -> tell(files, text);
    }

    private static void right(String text, int items) {
        VoteFiles files = after(typed(text));
        due("letters of '" + text + "'", files.count(6), text.length());
        due("file() of '" + text + "'", files.file(), items);
        due("letters behind file() of '" + text + "'", files.count(6), 0);
    }

    private static void fault(String text, int place) {
        leavesAll(typed(text), "file() of '" + text + "'", VoteFiles::file, -10 - place);
    }

    private static void copyDue(VoteFiles files, int copy, int... want) {
        for (int what = 0; what < want.length; what++) {
            due("copy(" + copy + ", " + what + ")", files.copy(copy, what), want[what]);
        }
    }

    private static void groupDue(VoteFiles files, int group, int... want) {
        for (int what = 0; what < want.length; what++) {
            due("group(" + group + ", " + what + ")", files.group(group, what), want[what]);
        }
    }

    private static void countDue(VoteFiles files, int... want) {
        for (int what = 0; what < want.length; what++) {
            due("count(" + what + ")", files.count(what), want[what]);
        }
    }

    private static String blanks(int many) {
        return " ".repeat(many);
    }

    // ---- the text

    private static void sixCopies() {
        sentence("COPIES 0, 1, .. (6 at most); a seventh COPY");
        right(SIX + "read 3;write 4;", 8);
        right("witness 1;witness 1;witness 1;witness 1;witness 1;witness 1;read 6;write 6;", 8);
        VoteFiles files = told(SIX + "read 3;write 4;");
        due("count(0)", files.count(0), 6);
        copyDue(files, 5, 1, 0, 0, 0, 0, 1, 0);
        due("copy(6, 0)", files.copy(6, 0), BAD);
        fault(SIX + "copy 1;read 4;write 4;", 42);
        fault(SIX + "witness 1;read 4;write 4;", 42);
        fault(SIX + "read 3;write 4; copy 0;", 58);
        fault(SIX + "copy", 42);
        fault(SIX + "copy;", 42);
        fault(SIX + "copy 6;", 42);
        fault("witness 1;" + SIX, 45);
    }

    private static void votesInTheText() {
        sentence("VOTES (0 .. 5); a NUMBER beyond what it may be");
        right("copy 0;copy 1;read 1;write 1;", 4);
        right("witness 0;copy 1;read 1;write 1;", 4);
        right("copy 5;read 3;write 3;", 3);
        right("witness 5;read 3;write 3;", 3);
        due("copy(0, 5) of 0", told("copy 0;copy 1;read 1;write 1;").copy(0, 5), 0);
        due("copy(0, 5) of 5", told("copy 5;read 3;write 3;").copy(0, 5), 5);
        fault("copy 6;read 3;write 4;", 5);
        fault("witness 6;read 3;write 4;", 8);
        fault("copy 10;", 5);
        fault("copy 99;", 5);
        fault("copy 30;", 5);
        fault("copy -1;", 5);
        fault("read 1;copy 6;", 12);
        fault("write 1;witness 6;", 16);
    }

    private static void needsInTheText() {
        sentence("READ, WRITE (1 .. 30)");
        right(ONE, 3);
        countDue(told(ONE), 1, 1, 1, 1, 1);
        right(HEAVY + "read 30;write 30;", 8);
        countDue(told(HEAVY + "read 30;write 30;"), 6, 1, 30, 30, 30);
        fault("copy 1;read 0;write 1;", 12);
        fault("copy 1;read 1;write 0;", 20);
        fault(HEAVY + "read 31;write 30;", 47);
        fault(HEAVY + "read 30;write 31;", 56);
        fault("read 99;", 5);
        fault("write 99;", 6);
        // 30 is a NUMBER that may be; only all together is not LAWFUL.
        fault("copy 1;read 30;write 1;", 23);
        fault("copy 1;read 1;write 30;", 23);
    }

    private static void lawfulSum() {
        sentence("LAWFUL: READ and WRITE are above TOTAL");
        fault("copy 5;read 2;write 3;", 22);
        right("copy 5;read 3;write 3;", 3);
        right("copy 5;read 2;write 4;", 3);
        fault("copy 5;read 1;write 4;", 22);
        right("copy 5;read 1;write 5;", 3);
        fault(HEAVY + "read 14;write 16;", 59);
        right(HEAVY + "read 15;write 16;", 8);
        fault(HEAVY + "read 1;write 29;", 58);
        right(HEAVY + "read 1;write 30;", 8);
    }

    private static void lawfulTwice() {
        sentence("twice WRITE, too");
        fault("copy 4;read 4;write 2;", 22);
        right("copy 4;read 4;write 3;", 3);
        fault("copy 5;read 5;write 2;", 22);
        right("copy 5;read 5;write 3;", 3);
        fault(HEAVY + "read 30;write 15;", 59);
        right(HEAVY + "read 30;write 16;", 8);
        fault("copy 2;read 2;write 1;", 22);
        right("copy 2;read 2;write 2;", 3);
    }

    private static void lawfulNeither() {
        sentence("neither is above it");
        right("copy 3;read 3;write 3;", 3);
        fault("copy 3;read 4;write 3;", 22);
        fault("copy 3;read 3;write 4;", 22);
        fault("copy 1;read 2;write 1;", 22);
        fault("copy 1;read 1;write 2;", 22);
        fault("copy 0;read 1;write 1;", 22);
        fault("copy 0;witness 0;read 1;write 1;", 32);
    }

    private static void fullText() {
        sentence("a text (120 letters at most)");
        String longest = SIX + blanks(120 - SIX.length() - 15) + "read 3;write 4;";
        due("the letters of the longest", longest.length(), 120);
        right(longest, 8);
        right(longest.substring(0, 119).replace("write 4", "write 4;"), 8);
        right(blanks(120), 0);
        Story full = typed(longest);
        leavesAll(full, "type(59) at 120", files -> files.type(59), FULL);
        leavesAll(full, "type(32) at 120", files -> files.type(32), FULL);
        leavesAll(typed(longest.substring(0, 119)), "a text without its last letter", VoteFiles::file, -10 - 119);
        fault(blanks(119) + "x", 119);
        fault(blanks(119) + ";", 119);
        fault("copy 1" + blanks(114), 120);
        fault(SIX + blanks(78), 120);
        fault("a".repeat(120), 0);
        fault("copy " + "1".repeat(115), 5);
        fault("copy " + "0".repeat(115), 5);
        VoteFiles files = after(full);
        due("type at 120", files.type('x'), FULL);
        due("file() behind the refusal", files.file(), 8);
        due("type behind file()", files.type('x'), 1);
    }

    private static void blanksBetween() {
        sentence("blanks (32) between TOKENS");
        right("copy1;read1;write1;", 3);
        right("   copy   1   ;   read   1   ;   write   1   ;   ", 3);
        fault("co py 1;", 0);
        fault("copy 1;re ad 1;write 1;", 7);
        fault("copy 1 0;", 7);
        fault("copy 1;read 1 0;", 14);
    }

    /** One after the other, each of the 256: alone, between TOKENS, and behind all. */
    private static void otherLetters() {
        sentence("FAULT: of any other letter that TOKEN's place");
        for (int letter = 0; letter < 256; letter++) {
            String sign = String.valueOf((char) letter);
            if (letter == ' ') {
                right(sign, 0);
                continue;
            }
            fault(sign, 0);
            boolean digit = letter >= '0' && letter <= '9';
            fault("copy" + (letter >= 'a' && letter <= 'z' || digit ? " " : "") + sign + "#",
                digit ? letter <= '5' ? 6 : 5 : letter >= 'a' && letter <= 'z' ? 5 : 4);
            fault(ONE + sign, 22);
            if (letter != ';') {
                fault("copy 1 " + sign + ";", 7);
            }
        }
    }

    private static void eachEnded() {
        sentence("ITEMS, each ended by ;");
        right("copy 2;read 1;write 2;", 3);
        fault("copy 2;read 1;write 2", 21);
        fault("copy 2 read 1;write 2;", 7);
        fault("copy 2;read 1 write 2;", 14);
        fault("copy 2;;read 1;write 2;", 7);
        fault(";copy 2;read 1;write 2;", 0);
        fault("copy 2;read 1;write 2;;", 22);
        fault("copy 2;read 1;write 2; ;", 23);
        fault("copy;read 1;write 2;", 4);
        fault("copy 2 2;", 7);
        fault("2 copy;", 0);
        fault("copy read 1;", 5);
        fault("read write 1;", 5);
    }

    private static void nextCopy() {
        sentence("copy V, witness V (the next COPY)");
        VoteFiles files = told("write 6;witness 3;read 5;copy 0;witness 5;copy 2;");
        countDue(files, 4, 1, 5, 6, 10);
        copyDue(files, 0, 1, 0, 0, NONE, 0, 3, 1);
        copyDue(files, 1, 1, 0, 0, 0, 0, 0, 0);
        copyDue(files, 2, 1, 0, 0, NONE, 0, 5, 1);
        copyDue(files, 3, 1, 0, 0, 0, 0, 2, 0);
    }

    private static void onceEach() {
        sentence("read N, write N (once each); read, write again");
        right("read 1;write 1;copy 1;", 3);
        right("write 1;read 1;copy 1;", 3);
        fault("copy 1;read 1;read 1;write 1;", 14);
        fault("copy 1;write 1;write 1;read 1;", 15);
        fault(ONE + "read 1;", 22);
        fault(ONE + "write 1;", 22);
        fault(ONE + "read", 22);
        fault(ONE + "write 31;", 22);
    }

    private static void words() {
        sentence("WORDS (rows of letters a .. z: copy, witness, read, write); any other WORD");
        String[] others = {"cop", "copyy", "ccopy", "copz", "bopy", "witnes", "witnesss", "witnest", "vitness", "rea",
            "reads", "reae", "qead", "writ", "writes", "writf", "xrite", "a", "z", "copywitness", "copyread"};
        for (String other : others) {
            fault(other + " 1;read 1;write 1;", 0);
            fault("copy 1;" + other + " 1;", 7);
        }
        fault("Copy 1;", 0);
        fault("copY 1;", 0);
        // ` and { stand beside a and z: they end a WORD and are none.
        fault("copy` 1;", 4);
        fault("copy{ 1;", 4);
        fault("`copy 1;", 0);
        fault("{copy 1;", 0);
    }

    private static void numbers() {
        sentence("a NUMBER above 99 or with a 0 ahead of others, that TOKEN's");
        right("copy 0;copy 5;copy 5;read 10;write 10;", 5);
        fault("copy 00;", 5);
        fault("copy 01;", 5);
        fault("copy 05;", 5);
        fault("copy 1;read 01;write 1;", 12);
        fault("copy 1;read 1;write 01;", 20);
        fault("copy 1;read 001;", 12);
        fault("copy 99;", 5);
        fault("copy 100;", 5);
        fault("copy 101;", 5);
        fault("100;", 0);
        // What would be 1 again if it were counted in 8, 16, 32 or 64 bits.
        fault("copy 257;", 5);
        fault("copy 65537;", 5);
        fault("copy 4294967297;", 5);
        fault("copy 18446744073709551617;", 5);
        fault("copy 1;read 4294967297;write 1;", 12);
        // / and : stand beside 0 and 9: they end a NUMBER and are none.
        fault("copy 1/;", 6);
        fault("copy 1:;", 6);
        fault("copy 1;read 1;write 1<", 21);
    }

    private static void firstFault() {
        sentence("FAULT: the place of the first letter of the first TOKEN that can't stand there");
        fault("copy 6;#", 5);
        fault("copy #;copy 6;", 5);
        fault("copy 1 1 #", 7);
        fault("coyp 100", 0);
        fault("copy 100 coyp", 5);
        fault("copy 1;read 0;read 1;", 12);
        fault("   witness    77  ;", 14);
        fault(SIX + "copy 100;#", 42);
        fault(ONE + " #", 23);
    }

    private static void endsEarly() {
        sentence("the text's length, if it ends too early");
        fault("copy", 4);
        fault("copy ", 5);
        fault("copy 1", 6);
        fault("copy 1  ", 8);
        fault("witness", 7);
        fault("read", 4);
        fault("read 30", 7);
        fault("write", 5);
        fault(ONE + "copy", 26);
        fault(ONE + "copy 1", 28);
    }

    private static void unlawfulText() {
        sentence("or if, all else being right, it is not LAWFUL (read, write not told, too)");
        fault("copy 1;", 7);
        fault("copy 1;   ", 10);
        fault("copy 1;read 1;", 14);
        fault("copy 1;write 1;", 15);
        fault("read 1;", 7);
        fault("write 1;", 8);
        fault("copy 2;read 1;write 1;", 22);
        fault("copy 2;read 1;write 1;  ", 24);
        fault("copy 2;read 1;write 1;#", 22);
        fault("copy 2;read 1;write 1;copy", 26);
        right("copy 1;read 1;write 1;copy 0;", 4);
    }

    private static void noItems() {
        sentence("(No ITEMS: no COPIES; then nothing is asked of READ, WRITE: 1 and 1.)");
        right("", 0);
        right(" ", 0);
        VoteFiles files = after(typed(""));
        files.file();
        countDue(files, 0, 1, 1, 1, 0, 0, 0, 0);
        due("flips(0)", files.flips(0), BAD);
        // These are ITEMS, and READ is above a TOTAL of 0.
        fault("read 1;write 1;", 15);
    }

    private static void types() {
        sentence("A letter (0 .. 255) comes to THE TEXT: how many it has. BAD; FULL: 120.");
        taken(EMPTY, "type(0)", files -> files.type(0), 1);
        taken(EMPTY, "type(255)", files -> files.type(255), 1);
        bad("type", letter -> files -> files.type(letter), -1, 256, LOWEST, HIGHEST, 256 + ';', ';' - 256);
        VoteFiles files = new VoteFiles();
        for (int many = 1; many <= 120; many++) {
            due("type, letter " + many, files.type(32), many);
        }
        due("type, letter 121", files.type(32), FULL);
        Story full = typed(blanks(120));
        leavesAll(full, "type(-1) at 120", f -> f.type(-1), BAD);
        leavesAll(full, "type(256) at 120", f -> f.type(256), BAD);
        leavesAll(full, "type(0) at 120", f -> f.type(0), FULL);
        leavesAll(full, "type(255) at 120", f -> f.type(255), FULL);
        taken(typed(blanks(119)), "type at 119", f -> f.type(32), 120);
    }

    private static void clears() {
        sentence("THE TEXT is empty: how many letters it had.");
        leavesAll(typed(""), "clear() of nothing", VoteFiles::clear, 0);
        taken(typed("x"), "clear() of one", VoteFiles::clear, 1);
        taken(typed(blanks(120)), "clear() of 120", VoteFiles::clear, 120);
        VoteFiles files = after(typed("x".repeat(120)));
        files.clear();
        due("clear() again", files.clear(), 0);
        due("type behind clear()", files.type('c'), 1);
        due("file() behind clear(): what was there is gone", files.file(), -10);
        files = after(typed("copy 1;copy"));
        files.clear();
        type(files, ONE);
        due("file() of what came behind clear()", files.file(), 3);
        files = after(BUSY);
        files.clear();
        countDue(files, 4, 2, 3, 4, 6, 2, 0, 8);
    }

    private static void readAnew() {
        sentence("Read anew: as told, nothing can be UNDONE, nothing SEEN, IMAGES are gone; THE TEXT is empty then");
        VoteFiles files = after(typed(ONE));
        due("file()", files.file(), 3);
        countDue(files, 1, 1, 1, 1, 1, 0, 0, 0);
        copyDue(files, 0, 1, 0, 0, 0, 0, 1, 0);
        due("copy(1, 0)", files.copy(1, 0), BAD);
        due("undo()", files.undo(), STATE);
        due("back(0)", files.back(0), STATE);
        due("back(1)", files.back(1), STATE);
        due("unseen(0)", files.unseen(0), 2);
        due("clear()", files.clear(), 0);
        due("asked(): that stays", files.asked(), 8);
        due("flips(0)", files.flips(0), 0);
        due("undo() of what came behind", files.undo(), 0);
        due("keep(0)", files.keep(0), 1);
        due("file() of nothing", files.file(), 0);
        due("back(0)", files.back(0), STATE);
        countDue(files, 0, 1, 1, 1, 0, 0, 0, 0);
    }

    private static void nothingIsLeft() {
        sentence("THE TEXT tells all anew: nothing is left of a text that was told, or refused, before");
        VoteFiles files = told("witness 5;witness 5;witness 5;copy 5;read 11;write 12;");
        tell(files, THREE);
        countDue(files, 3, 1, 2, 2, 3);
        for (int copy = 0; copy < 3; copy++) {
            copyDue(files, copy, 1, 0, 0, 0, 0, 1, 0);
        }
        type(files, "read 9;write 9;witness 4;witness 4;witness 4;copy 4;copy");
        due("file() that is refused", files.file(), -66);
        files.clear();
        type(files, "copy 1;read 1;");
        due("file() without a write", files.file(), -24);
        files.clear();
        type(files, THREE);
        due("file()", files.file(), 5);
        countDue(files, 3, 1, 2, 2, 3);
        for (int copy = 0; copy < 3; copy++) {
            copyDue(files, copy, 1, 0, 0, 0, 0, 1, 0);
        }
        due("the number of the first CONFIGURATION", files.votes(0, 0, 1, 1, 2, 2), 1);
        tell(files, THREE);
        due("count(1)", files.count(1), 1);
        due("votes once more", files.votes(0, 1, 1, 0, 2, 2), 1);
        copyDue(files, 0, 1, 0, 0, 0, 1, 1, 0);
    }

    private static void newObject() {
        sentence("VoteFiles(): No COPIES.");
        VoteFiles files = new VoteFiles();
        countDue(files, 0, 1, 1, 1, 0, 0, 0, 0);
        for (int copy = -1; copy < 7; copy++) {
            for (int what = -1; what < 8; what++) {
                due("copy(" + copy + ", " + what + ")", files.copy(copy, what), BAD);
            }
        }
        leavesAll(EMPTY, "flips(0)", f -> f.flips(0), BAD);
        leavesAll(EMPTY, "moves(0, 1)", f -> f.moves(0, 1), BAD);
        leavesAll(EMPTY, "moves(0, 0)", f -> f.moves(0, 0), BAD);
        leavesAll(EMPTY, "votes(0, 0, 1, 0, 1, 1)", f -> f.votes(0, 0, 1, 0, 1, 1), BAD);
        leavesAll(EMPTY, "undo()", VoteFiles::undo, STATE);
        leavesAll(EMPTY, "back(0)", f -> f.back(0), STATE);
        leavesAll(EMPTY, "back(1)", f -> f.back(1), STATE);
        leavesAll(EMPTY, "clear()", VoteFiles::clear, 0);
        leavesAll(EMPTY, "forget()", VoteFiles::forget, 0);
        leavesAll(EMPTY, "asked()", VoteFiles::asked, 0);
    }

    // ---- what is done

    private static void lastCall() {
        sentence("An object is used for at most 512 calls after it has been made");
        VoteFiles files = new VoteFiles();
        int calls = 0;
        for (int i = 0; i < ONE.length(); i++) {
            calls++;
            due("type, call " + calls, files.type(ONE.charAt(i)), i + 1);
        }
        calls++;
        due("file(), call " + calls, files.file(), 3);
        int version = 0;
        while (calls < 510) {
            calls++;
            version++;
            due("writes, call " + calls, files.writes(0, version), version);
        }
        due("reads, call 511", files.reads(0), version);
        due("asked(), call 512", files.asked(), version);
    }

    private static void groupsTold() {
        sentence("of a GROUP (0 .. 2)");
        int[] none = {-1, 3, LOWEST, HIGHEST};
        bad("reads", group -> files -> files.reads(group), none);
        bad("writes", group -> files -> files.writes(group, 1), none);
        bad("mends", group -> files -> files.mends(group), none);
        bad("votes", group -> files -> files.votes(group, 0, 2, 0, 3, 4), none);
        bad("moves", group -> files -> files.moves(0, group), none);
        bad("group", group -> files -> files.group(group, 0), none);
        for (int group = 0; group < 3; group++) {
            int there = group;
            VoteFiles files = told(THREE);
            for (int copy = 0; copy < 3 && group > 0; copy++) {
                due("moves(" + copy + ", " + group + ")", files.moves(copy, group), 0);
            }
            due("writes in GROUP " + there, files.writes(there, 5), 1);
            due("reads in GROUP " + there, files.reads(there), 1);
            due("mends in GROUP " + there, files.mends(there), 0);
            due("votes in GROUP " + there, files.votes(there, 0, 1, 0, 2, 2), 1);
            groupDue(files, there, 7, 1, 3, 1, 1, 1, 1, 1);
        }
    }

    private static void copiesTold() {
        sentence("BAD (a number is not as told, or there is no such thing): of a COPY");
        int[] none = {-1, 4, 5, 6, LOWEST, HIGHEST};
        bad("flips", copy -> files -> files.flips(copy), none);
        bad("moves", copy -> files -> files.moves(copy, 2), none);
        bad("votes", copy -> files -> files.votes(0, copy, 2, 0, 3, 4), none);
        bad("copy", copy -> files -> files.copy(copy, 0), none);
        taken(BUSY, "flips(3)", files -> files.flips(3), 0);
        taken(BUSY, "moves(3, 2)", files -> files.moves(3, 2), 1);
        taken(BUSY, "votes of COPY 3", files -> files.votes(0, 3, 1, 0, 3, 4), 2);
        taken(BUSY, "copy(3, 5)", files -> files.copy(3, 5), 1);
        Story six = filed(SIX + "read 3;write 4;");
        taken(six, "flips(0)", files -> files.flips(0), 0);
        taken(six, "flips(5)", files -> files.flips(5), 0);
        leavesAll(six, "flips(6)", files -> files.flips(6), BAD);
        taken(six, "moves(5, 1)", files -> files.moves(5, 1), 0);
        leavesAll(six, "moves(6, 1)", files -> files.moves(6, 1), BAD);
        taken(six, "votes of COPY 5", files -> files.votes(0, 5, 1, 0, 3, 4), 1);
        leavesAll(six, "votes of COPY 6", files -> files.votes(0, 6, 1, 0, 3, 4), BAD);
    }

    /** COPIES of 2, 1, 1 VOTES; READ 2, WRITE 3; those of these bits are DOWN. */
    private static Story down(int set) {
        return files -> {
            tell(files, "copy 2;copy 1;copy 1;read 2;write 3;");
            files.writes(0, 6);
            for (int copy = 0; copy < 3; copy++) {
                if ((set >> copy & 1) == 1) {
                    files.flips(copy);
                }
            }
        };
    }

    /** The WITNESSES alone have seen the last write; of these bits are DOWN. */
    private static Story stale(int set) {
        return files -> {
            tell(files, WITNESSED);
            files.writes(0, 3);
            files.flips(0);
            files.writes(0, 4);
            files.flips(0);
            for (int copy = 0; copy < 3; copy++) {
                if ((set >> copy & 1) == 1) {
                    files.flips(copy);
                }
            }
        };
    }

    private static void readVotes() {
        sentence("READ: VOTES must be READ or more (else FEW)");
        taken(down(0), "reads by 4 VOTES", files -> files.reads(0), 1);
        taken(down(2), "reads by 3 VOTES", files -> files.reads(0), 1);
        taken(down(1), "reads by 2 VOTES", files -> files.reads(0), 1);
        taken(down(6), "reads by 2 VOTES of one COPY", files -> files.reads(0), 1);
        leavesAll(down(3), "reads by 1 VOTE", files -> files.reads(0), FEW);
        leavesAll(down(5), "reads by 1 VOTE", files -> files.reads(0), FEW);
        VoteFiles files = told(THREE);
        files.votes(0, 0, 1, 0, 3, 3);
        files.flips(0);
        due("reads by KNOWN's READ", files.reads(0), FEW);
        files.undo();
        due("reads by all", files.reads(0), 0);
    }

    private static void readData() {
        sentence("READ: it must have DATA (else STALE)");
        leavesAll(stale(0), "reads where LATEST is of WITNESSES", files -> files.reads(0), STALE);
        leavesAll(stale(1), "reads of WITNESSES alone", files -> files.reads(0), STALE);
        leavesAll(stale(2), "reads where one WITNESS knows more", files -> files.reads(0), STALE);
        leavesAll(stale(6), "reads by 1 VOTE: FEW ahead of STALE", files -> files.reads(0), FEW);
        leavesAll(stale(3), "reads of one WITNESS: FEW ahead of STALE", files -> files.reads(0), FEW);
        taken(filed(WITNESSED), "reads where all have VERSION 0", files -> files.reads(0), 0);
        leavesAll(filed("witness 1;read 1;write 1;"), "reads of a WITNESS", files -> files.reads(0), STALE);
    }

    private static void readTold() {
        sentence("VERSION; its VALUE is told by asked(); 0 before; the latest reads() that was not refused");
        VoteFiles files = told(THREE);
        due("asked() before", files.asked(), 0);
        files.writes(0, 999);
        due("asked() before a read", files.asked(), 0);
        due("reads(0)", files.reads(0), 1);
        due("asked()", files.asked(), 999);
        files.writes(0, 0);
        due("asked() behind a write", files.asked(), 999);
        due("reads(1)", files.reads(1), FEW);
        due("reads(3)", files.reads(3), BAD);
        due("asked() behind refusals", files.asked(), 999);
        due("reads(0)", files.reads(0), 2);
        due("asked() of 0", files.asked(), 0);
        files = after(stale(2));
        files.reads(0);
        due("asked() behind STALE", files.asked(), 0);
        due("reads(0): can not be UNDONE", after(down(0)).count(7), 1);
        leavesAll(BUSY, "asked()", VoteFiles::asked, 8);
    }

    private static void values() {
        sentence("WRITTEN in a GROUP (a VALUE 0 .. 999): VERSION. BAD; FEW.");
        bad("writes", value -> files -> files.writes(0, value), -1, 1000, LOWEST, HIGHEST);
        taken(BUSY, "writes(0, 0)", files -> files.writes(0, 0), 4);
        taken(BUSY, "writes(0, 999)", files -> files.writes(0, 999), 4);
        for (int value : new int[] {0, 1, 998, 999}) {
            VoteFiles files = told(ONE);
            files.writes(0, value);
            due("copy(0, 3) of " + value, files.copy(0, 3), value);
        }
        leavesAll(BUSY, "writes(2, 1000): BAD ahead of FEW", files -> files.writes(2, 1000), BAD);
        leavesAll(BUSY, "writes(2, -1): BAD ahead of FEW", files -> files.writes(2, -1), BAD);
    }

    private static void writeVotes() {
        sentence("WRITTEN: VOTES must be WRITE or more (else FEW)");
        taken(down(0), "writes by 4 VOTES", files -> files.writes(0, 1), 2);
        taken(down(2), "writes by 3 VOTES", files -> files.writes(0, 1), 2);
        taken(down(4), "writes by 3 VOTES", files -> files.writes(0, 1), 2);
        leavesAll(down(1), "writes by 2 VOTES", files -> files.writes(0, 1), FEW);
        leavesAll(down(6), "writes by 2 VOTES of one COPY", files -> files.writes(0, 1), FEW);
        taken(stale(1), "writes where there is no DATA", files -> files.writes(0, 1), 3);
        taken(stale(2), "writes over what is STALE", files -> files.writes(0, 1), 3);
    }

    private static void written() {
        sentence("all PRESENT have VERSION LATEST and 1, KNOWN, and, if they are no WITNESSES by that, the VALUE");
        VoteFiles files = after(stale(2));
        files.writes(0, 5);
        copyDue(files, 0, 1, 0, 3, 5, 0);
        copyDue(files, 1, 0, 0, 2, NONE, 0);
        copyDue(files, 2, 1, 0, 3, NONE, 0);
    }

    /** COPY 2 was away when CONFIGURATION 1 made a WITNESS of it, and is back. */
    private static VoteFiles witnessInAbsence() {
        VoteFiles files = told(THREE);
        files.writes(0, 3);
        files.flips(2);
        files.votes(0, 2, 1, 1, 2, 2);
        files.flips(2);
        copyDue(files, 2, 1, 0, 1, 3, 0, 1, 1);
        return files;
    }

    /** COPY 2, that was a WITNESS, was away when CONFIGURATION 1 made a COPY of data of it, and is back. */
    private static VoteFiles copyInAbsence() {
        VoteFiles files = told("copy 1;copy 1;witness 1;read 2;write 2;");
        files.writes(0, 3);
        files.flips(2);
        files.votes(0, 2, 1, 0, 2, 2);
        files.flips(2);
        copyDue(files, 2, 1, 0, 1, NONE, 0, 1, 0);
        return files;
    }

    private static void witnessByKnown() {
        sentence("(who is a WITNESS by KNOWN has none)");
        VoteFiles files = witnessInAbsence();
        files.writes(0, 4);
        copyDue(files, 2, 1, 0, 2, NONE, 1, 1, 1);
        files = witnessInAbsence();
        due("mends(0)", files.mends(0), 0);
        copyDue(files, 2, 1, 0, 1, NONE, 1, 1, 1);
        files = witnessInAbsence();
        due("votes(..)", files.votes(0, 0, 1, 0, 2, 2), 2);
        copyDue(files, 2, 1, 0, 1, NONE, 2, 1, 1);
        files = copyInAbsence();
        files.writes(0, 4);
        copyDue(files, 2, 1, 0, 2, 4, 1, 1, 0);
        files = copyInAbsence();
        due("mends(0)", files.mends(0), 0);
        copyDue(files, 2, 1, 0, 1, 3, 1, 1, 0);
        files = copyInAbsence();
        due("votes(..)", files.votes(0, 0, 1, 0, 2, 2), 2);
        copyDue(files, 2, 1, 0, 1, 3, 2, 1, 0);
        // Apart from those who know more it is what it was.
        files = witnessInAbsence();
        files.moves(2, 1);
        groupDue(files, 1, 4, 0, 1, 1, 1, 0, 0, 0);
    }

    private static void mendVotes() {
        sentence("MENDED: VOTES must be READ or more (else FEW), it must have DATA (else STALE)");
        taken(down(1), "mends by 2 VOTES", files -> files.mends(0), 0);
        leavesAll(down(3), "mends by 1 VOTE", files -> files.mends(0), FEW);
        leavesAll(stale(0), "mends where LATEST is of WITNESSES", files -> files.mends(0), STALE);
        leavesAll(stale(1), "mends of WITNESSES alone", files -> files.mends(0), STALE);
        leavesAll(stale(6), "mends by 1 VOTE: FEW ahead of STALE", files -> files.mends(0), FEW);
        leavesAll(stale(5), "mends of one WITNESS: FEW ahead of STALE", files -> files.mends(0), FEW);
    }

    private static void mended() {
        sentence("how many COPIES have another VERSION then");
        VoteFiles files = told("copy 5;copy 1;witness 1;copy 0;copy 1;copy 1;read 5;write 5;");
        due("mends(0) where all are current", files.mends(0), 0);
        due("count(7): it is one to be UNDONE", files.count(7), 1);
        for (int copy = 1; copy < 6; copy++) {
            files.flips(copy);
        }
        files.writes(0, 1);
        files.writes(0, 2);
        due("mends(0) of one alone", files.mends(0), 0);
        for (int copy = 1; copy < 6; copy++) {
            files.flips(copy);
        }
        files.moves(5, 1);
        due("mends(0) where all but one are old", files.mends(0), 4);
        copyDue(files, 1, 1, 0, 2, 2, 0);
        copyDue(files, 2, 1, 0, 2, NONE, 0);
        copyDue(files, 3, 1, 0, 2, 2, 0);
        copyDue(files, 5, 1, 1, 0, 0, 0);
        due("mends(0) again", files.mends(0), 0);
    }

    private static void votesTold() {
        sentence("BAD (VOTES 0 .. 5, witness 0, 1, READ, WRITE 1 .. 30)");
        bad("VOTES", votes -> files -> files.votes(0, 0, votes, 0, 3, 4), -1, 6, LOWEST, HIGHEST);
        bad("witness", witness -> files -> files.votes(0, 0, 2, witness, 3, 4), -1, 2, LOWEST, HIGHEST);
        bad("READ", read -> files -> files.votes(0, 0, 2, 0, read, 4), 0, -1, 31, LOWEST, HIGHEST);
        bad("WRITE", write -> files -> files.votes(0, 0, 2, 0, 3, write), 0, -1, 31, LOWEST, HIGHEST);
        taken(BUSY, "VOTES 0", files -> files.votes(0, 0, 0, 0, 3, 3), 2);
        taken(BUSY, "VOTES 5", files -> files.votes(0, 0, 5, 0, 5, 5), 2);
        taken(BUSY, "witness 0", files -> files.votes(0, 0, 2, 0, 3, 4), 2);
        taken(BUSY, "witness 1", files -> files.votes(0, 0, 2, 1, 3, 4), 2);
        taken(filed(ONE), "READ 1, WRITE 1", files -> files.votes(0, 0, 1, 0, 1, 1), 1);
        Story heavy = filed(HEAVY + "read 16;write 16;");
        taken(heavy, "READ 30, WRITE 30", files -> files.votes(0, 0, 5, 0, 30, 30), 1);
        leavesAll(heavy, "READ 31", files -> files.votes(0, 0, 5, 0, 31, 30), BAD);
        leavesAll(heavy, "WRITE 31", files -> files.votes(0, 0, 5, 0, 30, 31), BAD);
        leavesAll(heavy, "READ 30 above a TOTAL of 29", files -> files.votes(0, 0, 4, 0, 30, 29), STATE);
        leavesAll(heavy, "WRITE 30 above a TOTAL of 29", files -> files.votes(0, 0, 4, 0, 29, 30), STATE);
        taken(heavy, "a TOTAL of 29", files -> files.votes(0, 0, 4, 0, 29, 29), 1);
    }

    private static void votesLawful() {
        sentence("a new CONFIGURATION (all else as in KNOWN), that must be LAWFUL (else STATE)");
        Story three = filed(THREE);
        taken(three, "3: 2 and 2", files -> files.votes(0, 0, 1, 0, 2, 2), 1);
        leavesAll(three, "3: 1 and 2", files -> files.votes(0, 0, 1, 0, 1, 2), STATE);
        taken(three, "3: 1 and 3", files -> files.votes(0, 0, 1, 0, 1, 3), 1);
        leavesAll(three, "3: 3 and 1", files -> files.votes(0, 0, 1, 0, 3, 1), STATE);
        taken(three, "3: 3 and 3", files -> files.votes(0, 0, 1, 0, 3, 3), 1);
        leavesAll(three, "3: 4 and 3", files -> files.votes(0, 0, 1, 0, 4, 3), STATE);
        leavesAll(three, "3: 3 and 4", files -> files.votes(0, 0, 1, 0, 3, 4), STATE);
        taken(three, "4: 4 and 4", files -> files.votes(0, 0, 2, 0, 4, 4), 1);
        leavesAll(three, "4: 4 and 2", files -> files.votes(0, 0, 2, 0, 4, 2), STATE);
        taken(three, "4: 2 and 3", files -> files.votes(0, 0, 2, 0, 2, 3), 1);
        leavesAll(three, "4: 1 and 3", files -> files.votes(0, 0, 2, 0, 1, 3), STATE);
        taken(three, "2: 1 and 2", files -> files.votes(0, 2, 0, 0, 1, 2), 1);
        leavesAll(three, "2: 2 and 3", files -> files.votes(0, 2, 0, 0, 2, 3), STATE);
        leavesAll(filed(ONE), "0: 1 and 1", files -> files.votes(0, 0, 0, 0, 1, 1), STATE);
    }

    private static void votesEnough() {
        sentence("VOTED: VOTES (by KNOWN) must be WRITE or more (else FEW), it must have DATA (else STALE)");
        taken(down(2), "votes by 3 VOTES", files -> files.votes(0, 0, 2, 0, 2, 3), 1);
        leavesAll(down(1), "votes by 2 VOTES", files -> files.votes(0, 0, 2, 0, 2, 3), FEW);
        leavesAll(down(6), "votes by 2 VOTES of one COPY", files -> files.votes(0, 0, 2, 0, 2, 3), FEW);
        // By the new CONFIGURATION it would be enough, by KNOWN it is not; and the other way round.
        leavesAll(down(1), "2 VOTES that would be 6", files -> files.votes(0, 1, 5, 0, 4, 5), FEW);
        taken(down(4), "3 VOTES that will be 1", files -> files.votes(0, 0, 0, 0, 1, 2), 1);
        leavesAll(stale(2), "votes where a WITNESS knows more", files -> files.votes(0, 0, 1, 0, 2, 2), STALE);
        leavesAll(stale(1), "votes of WITNESSES alone", files -> files.votes(0, 1, 1, 0, 2, 2), STALE);
    }

    private static void voted() {
        sentence("all PRESENT have the number of the new one, LATEST, and, if they are no WITNESSES by it, the VALUE");
        VoteFiles files = told("copy 1;copy 1;witness 1;copy 1;read 2;write 3;");
        files.flips(0);
        files.writes(0, 5);
        files.flips(0);
        files.flips(3);
        due("a WITNESS becomes a COPY", files.votes(0, 2, 1, 0, 2, 3), 1);
        copyDue(files, 0, 1, 0, 1, 5, 1);
        copyDue(files, 1, 1, 0, 1, 5, 1);
        copyDue(files, 2, 1, 0, 1, 5, 1, 1, 0);
        copyDue(files, 3, 0, 0, 1, 5, 0);
        due("a COPY becomes a WITNESS", files.votes(0, 0, 1, 1, 2, 3), 2);
        copyDue(files, 0, 1, 0, 1, NONE, 2, 1, 1);
        // The last VALUE goes with the last who has one.
        files = told(ONE);
        due("the only COPY becomes a WITNESS", files.votes(0, 0, 1, 1, 1, 1), 1);
        copyDue(files, 0, 1, 0, 0, NONE, 1, 1, 1);
        due("reads(0)", files.reads(0), STALE);
        due("votes back", files.votes(0, 0, 1, 0, 1, 1), STALE);
        due("undo()", files.undo(), 0);
        due("reads(0)", files.reads(0), 0);
    }

    /** So many CONFIGURATIONS, 8 at most, of COPIES that are all there. */
    private static void configure(VoteFiles files, int many) {
        for (int number = 1; number < many; number++) {
            due("votes, CONFIGURATION " + number, files.votes(0, 0, 1, 0, 2, 2), number);
        }
    }

    private static Story configured(String text, int many, Story then) {
        return files -> {
            tell(files, text);
            configure(files, many);
            then.tell(files);
        };
    }

    private static void eightConfigurations() {
        sentence("CONFIGURATIONS 0, 1, .. (8 at most); FULL: 8");
        Story seven = configured(THREE, 7, EMPTY);
        taken(seven, "the eighth", files -> files.votes(0, 0, 1, 0, 2, 2), 7);
        taken(seven, "group(0, 7) at 7", files -> files.group(0, 7), 1);
        Story eight = configured(THREE, 8, EMPTY);
        leavesAll(eight, "the ninth", files -> files.votes(0, 0, 1, 0, 2, 2), FULL);
        due("count(1)", after(eight).count(1), 8);
        groupDue(after(eight), 0, 7, 7, 3, 0, 1, 1, 1, 0);
        VoteFiles files = after(eight);
        files.undo();
        due("count(1) behind undo()", files.count(1), 7);
        due("the eighth once more", files.votes(0, 1, 2, 0, 2, 3), 7);
        countDue(files, 3, 8, 2, 3, 4, 0, 0, 7);
        due("writes by the last CONFIGURATION", files.writes(0, 5), 1);
        copyDue(files, 1, 1, 0, 1, 5, 7, 2, 0);
    }

    private static void votesOrder() {
        sentence("Refused, the first of these: BAD, FULL, STATE, FEW, STALE: of votes()");
        Story full = configured(THREE, 8, EMPTY);
        leavesAll(full, "BAD ahead of FULL", files -> files.votes(0, 0, 6, 0, 2, 2), BAD);
        leavesAll(full, "BAD (GROUP) ahead of FULL", files -> files.votes(3, 0, 1, 0, 2, 2), BAD);
        leavesAll(full, "BAD (WRITE) ahead of FULL", files -> files.votes(0, 0, 1, 0, 2, 31), BAD);
        leavesAll(full, "FULL ahead of STATE", files -> files.votes(0, 0, 1, 0, 1, 1), FULL);
        Story few = configured(THREE, 8, files -> {
            files.flips(0);
            files.flips(1);
        });
        leavesAll(few, "FULL ahead of FEW", files -> files.votes(0, 0, 1, 0, 2, 2), FULL);
        Story gone = configured("copy 1;witness 1;witness 1;read 2;write 2;", 8, files -> {
            files.flips(0);
            files.writes(0, 1);
        });
        leavesAll(gone, "FULL ahead of STALE", files -> files.votes(0, 0, 1, 0, 2, 2), FULL);
        leavesAll(down(3), "BAD ahead of STATE", files -> files.votes(0, 0, 2, 2, 1, 1), BAD);
        leavesAll(down(3), "BAD ahead of FEW", files -> files.votes(0, 3, 2, 0, 2, 3), BAD);
        leavesAll(stale(1), "BAD ahead of STALE", files -> files.votes(0, 1, 1, 0, 0, 2), BAD);
        leavesAll(down(3), "STATE ahead of FEW", files -> files.votes(0, 0, 2, 0, 1, 1), STATE);
        leavesAll(stale(1), "STATE ahead of STALE", files -> files.votes(0, 1, 1, 0, 1, 1), STATE);
        leavesAll(stale(3), "STATE ahead of FEW and STALE", files -> files.votes(0, 1, 1, 0, 1, 1), STATE);
        leavesAll(stale(3), "FEW ahead of STALE", files -> files.votes(0, 1, 1, 0, 2, 2), FEW);
    }

    private static void nobodyPresent() {
        sentence("(A GROUP in which nobody is PRESENT: FEW.) (Nobody PRESENT: FEW, ahead of STATE.)");
        for (Story story : List.of(filed(THREE), down(7), EMPTY)) {
            int group = story == EMPTY || after(story).group(0, 0) == 0 ? 0 : 2;
            leavesAll(story, "reads", files -> files.reads(group), FEW);
            leavesAll(story, "writes", files -> files.writes(group, 1), FEW);
            leavesAll(story, "mends", files -> files.mends(group), FEW);
        }
        leavesAll(down(7), "votes that are LAWFUL", files -> files.votes(0, 0, 2, 0, 2, 3), FEW);
        leavesAll(down(7), "votes that are not", files -> files.votes(0, 0, 2, 0, 1, 1), FEW);
        leavesAll(down(7), "votes of none that there is", files -> files.votes(0, 3, 2, 0, 1, 1), BAD);
        leavesAll(filed(THREE), "votes in another GROUP", files -> files.votes(1, 0, 1, 0, 30, 30), FEW);
        leavesAll(configured(THREE, 8, EMPTY), "FULL ahead of that", files -> files.votes(1, 0, 1, 0, 1, 1), FULL);
        // Somebody without VOTES is somebody.
        Story weightless = files -> {
            tell(files, "copy 0;copy 1;read 1;write 1;");
            files.moves(0, 1);
        };
        leavesAll(weightless, "votes that are not LAWFUL", files -> files.votes(1, 0, 1, 0, 1, 1), STATE);
        leavesAll(weightless, "votes that are", files -> files.votes(1, 0, 1, 0, 1, 2), FEW);
        leavesAll(weightless, "reads by no VOTES", files -> files.reads(1), FEW);
        groupDue(after(weightless), 1, 1, 0, 0, 0, 1, 0, 0, 0);
    }

    private static void flips() {
        sentence("TURNED: UP (1), DOWN (0) then. BAD.");
        VoteFiles files = told(ONE);
        due("flips(0)", files.flips(0), 0);
        due("flips(0)", files.flips(0), 1);
        due("flips(0)", files.flips(0), 0);
        copyDue(files, 0, 0, 0, 0, 0, 0, 1, 0);
        due("count(7)", files.count(7), 3);
        due("group(0, 0)", files.group(0, 0), 0);
    }

    private static void moves() {
        sentence("MOVED: the GROUP that it was of. BAD; STATE: it is of that.");
        leavesAll(BUSY, "moves(0, 0)", files -> files.moves(0, 0), STATE);
        leavesAll(BUSY, "moves(3, 1)", files -> files.moves(3, 1), STATE);
        leavesAll(BUSY, "moves(2, 0) of one that is DOWN", files -> files.moves(2, 0), STATE);
        taken(BUSY, "moves(2, 2) of one that is DOWN", files -> files.moves(2, 2), 0);
        taken(BUSY, "moves(3, 0)", files -> files.moves(3, 0), 1);
        taken(BUSY, "moves(3, 2)", files -> files.moves(3, 2), 1);
        VoteFiles files = told(ONE);
        due("moves(0, 2)", files.moves(0, 2), 0);
        due("moves(0, 2) again", files.moves(0, 2), STATE);
        due("moves(0, 1)", files.moves(0, 1), 2);
        due("moves(0, 0)", files.moves(0, 0), 1);
    }

    private static void tenUndone() {
        sentence("UNDONE: 10 are known, older ones are lost");
        for (int many = 9; many <= 12; many++) {
            VoteFiles files = told(ONE);
            for (int value = 1; value <= many; value++) {
                files.writes(0, value);
            }
            int known = Math.min(many, 10);
            due("count(7) of " + many, files.count(7), known);
            for (int left = known - 1; left >= 0; left--) {
                due("undo()", files.undo(), left);
                due("count(7)", files.count(7), left);
                due("copy(0, 2)", files.copy(0, 2), many - known + left);
                due("copy(0, 3)", files.copy(0, 3), many - known + left);
            }
            due("undo() of what is lost", files.undo(), STATE);
            due("copy(0, 2)", files.copy(0, 2), many - known);
        }
    }

    /** Longer than what is known, to and fro: VERSION tells which writes are left. */
    private static void manyUndone() {
        sentence("UNDONE: the latest, to and fro");
        VoteFiles files = told(ONE);
        int version = 0;
        int known = 0;
        int[] steps = {7, -3, 9, -10, 1, -1, 23, -4, 2, -8, 5, -5, 11, -11};
        for (int step : steps) {
            for (int i = 0; i < step; i++) {
                version++;
                known = Math.min(known + 1, 10);
                due("writes", files.writes(0, version), version);
            }
            for (int i = step; i < 0; i++) {
                if (known == 0) {
                    due("undo() of nothing", files.undo(), STATE);
                } else {
                    version--;
                    known--;
                    due("undo()", files.undo(), known);
                }
            }
            due("copy(0, 3)", files.copy(0, 3), version);
            due("count(7)", files.count(7), known);
        }
    }

    /** With 10 known, one more would lose one. */
    private static void refusedIsNotKnown() {
        sentence("UNDONE: the latest .. that was not refused (10 are known)");
        Story ten = files -> {
            tell(files, WITNESSED);
            files.flips(0);
            for (int value = 1; value < 10; value++) {
                files.writes(0, value);
            }
        };
        due("count(7)", after(ten).count(7), 10);
        leavesAll(ten, "reads(0)", files -> files.reads(0), STALE);
        leavesAll(ten, "writes(1, 1)", files -> files.writes(1, 1), FEW);
        leavesAll(ten, "writes(0, 1000)", files -> files.writes(0, 1000), BAD);
        leavesAll(ten, "mends(0)", files -> files.mends(0), STALE);
        leavesAll(ten, "mends(1)", files -> files.mends(1), FEW);
        leavesAll(ten, "votes, not LAWFUL", files -> files.votes(0, 0, 1, 0, 1, 1), STATE);
        leavesAll(ten, "votes of nobody", files -> files.votes(1, 0, 1, 0, 2, 2), FEW);
        leavesAll(ten, "votes without DATA", files -> files.votes(0, 0, 1, 0, 2, 2), STALE);
        leavesAll(ten, "flips(3)", files -> files.flips(3), BAD);
        leavesAll(ten, "moves(0, 0)", files -> files.moves(0, 0), STATE);
        leavesAll(ten, "moves(0, 3)", files -> files.moves(0, 3), BAD);
        leavesAll(ten, "back(0)", files -> files.back(0), STATE);
    }

    private static void onlyWhatIsDone() {
        sentence("UNDONE: the latest writes(), mends(), votes(), flips(), moves()");
        Call[] done = {files -> files.writes(0, 5), files -> files.mends(0), files -> files.votes(0, 0, 2, 0, 3, 4),
            files -> files.flips(1), files -> files.moves(2, 2)};
        for (Call call : done) {
            Story both = files -> {
                busy(files);
                call.on(files);
                files.undo();
            };
            due("count(7) behind a call and its undo()", after(both).count(7), 8);
            if (!trace(both, NOTHING).equals(trace(BUSY, NOTHING))) {
                fail("a call and its undo() changed something");
            }
        }
        Call[] others = {files -> files.reads(0), files -> files.type('x'), VoteFiles::clear, files -> files.sees(0, 0),
            VoteFiles::forget, files -> files.keep(0), files -> files.chance(5, 0, 0), files -> files.best(5, 5, 0)};
        for (Call call : others) {
            VoteFiles files = after(BUSY);
            call.on(files);
            due("count(7)", files.count(7), 8);
            due("undo() of flips(2)", files.undo(), 7);
            due("copy(2, 0)", files.copy(2, 0), 1);
        }
    }

    private static void undoNone() {
        sentence("UNDONE: how many more may be. STATE: none.");
        leavesAll(EMPTY, "undo() of a new object", VoteFiles::undo, STATE);
        leavesAll(filed(THREE), "undo() behind file()", VoteFiles::undo, STATE);
        Story all = files -> {
            busy(files);
            undoMany(files, 8);
        };
        leavesAll(all, "undo() behind all of them", VoteFiles::undo, STATE);
        taken(files -> {
            busy(files);
            undoMany(files, 7);
        }, "the last undo()", VoteFiles::undo, 0);
    }

    private static void configurationsUndone() {
        sentence("UNDONE: CONFIGURATIONS, too");
        VoteFiles files = told(THREE);
        files.votes(0, 0, 5, 1, 4, 5);
        countDue(files, 3, 2, 4, 5, 7);
        due("undo()", files.undo(), 0);
        countDue(files, 3, 1, 2, 2, 3, 0, 0, 0);
        copyDue(files, 0, 1, 0, 0, 0, 0, 1, 0);
        due("the number is given once more", files.votes(0, 1, 2, 0, 2, 3), 1);
        copyDue(files, 0, 1, 0, 0, 0, 1, 1, 0);
        copyDue(files, 1, 1, 0, 0, 0, 1, 2, 0);
    }

    // ---- how things are

    private static void copyAsked() {
        sentence("Of a COPY: 0 UP .. 6 whether it is a WITNESS. BAD.");
        bad("copy", what -> files -> files.copy(0, what), -1, 7, LOWEST, HIGHEST);
        leavesAll(BUSY, "copy(4, 7)", files -> files.copy(4, 7), BAD);
        VoteFiles files = after(BUSY);
        copyDue(files, 0, 1, 0, 3, 9, 1, 2, 0);
        copyDue(files, 1, 1, 0, 3, 9, 1, 2, 0);
        copyDue(files, 2, 0, 0, 3, NONE, 1, 1, 1);
        copyDue(files, 3, 1, 1, 3, 9, 1, 1, 0);
        leavesAll(BUSY, "copy(0, 0)", f -> f.copy(0, 0), 1);
        leavesAll(BUSY, "copy(3, 6)", f -> f.copy(3, 6), 0);
    }

    private static void byTheNewest() {
        sentence("By the newest CONFIGURATION (the last one there is)");
        VoteFiles files = told(THREE);
        files.flips(2);
        files.votes(0, 2, 0, 1, 1, 2);
        copyDue(files, 2, 0, 0, 0, 0, 0, 0, 1);
        files.votes(0, 2, 5, 0, 4, 4);
        copyDue(files, 2, 0, 0, 0, 0, 0, 5, 0);
        // Those who know of it are DOWN; it is the newest all the same.
        files.flips(0);
        files.flips(1);
        files.flips(2);
        groupDue(files, 0, 4, 0, 1, 0, 1, 0, 0, 0);
        countDue(files, 3, 3, 4, 4, 7);
        due("least(0)", files.least(0), 4);
        chanceDue(files, 3, 0, 3, 10);
        files.sees(1, 0);
        due("unseen(1)", files.unseen(1), 4);
        copyDue(files, 2, 1, 0, 0, 0, 0, 5, 0);
        files.undo();
        files.undo();
        files.undo();
        files.undo();
        countDue(files, 3, 2, 1, 2, 2);
        due("least(0)", files.least(0), 1);
        due("least(1)", files.least(1), 3);
        chanceDue(files, 3, 0, 51, 100);
        due("unseen(1)", files.unseen(1), 1);
    }

    private static void byWhatIsKnown() {
        sentence("KNOWN is the greatest number that any of these has; by that VOTES of those PRESENT are counted");
        VoteFiles files = told(THREE);
        files.moves(2, 1);
        files.votes(0, 2, 5, 0, 5, 6);
        groupDue(files, 0, 3, 1, 2, 0, 1, 0, 0, 0);
        groupDue(files, 1, 4, 0, 1, 0, 1, 0, 0, 0);
        due("votes: by what is KNOWN there it is LAWFUL", files.votes(1, 2, 1, 0, 2, 2), FEW);
        due("votes: by that it is not", files.votes(1, 0, 1, 0, 5, 6), STATE);
        files.moves(0, 1);
        groupDue(files, 1, 5, 1, 6, 0, 1, 1, 1, 1);
        due("votes: LAWFUL by the newer one", files.votes(1, 2, 5, 0, 4, 4), 2);
        files.undo();
        due("votes: all else as in KNOWN", files.votes(1, 0, 0, 0, 6, 6), 2);
        copyDue(files, 1, 1, 0, 0, 0, 1, 1, 0);
        copyDue(files, 2, 1, 1, 0, 0, 2, 5, 0);
        countDue(files, 3, 3, 6, 6, 6);
        // COPY 1 knows an old one that is not the first.
        files.flips(0);
        groupDue(files, 0, 2, 1, 1, 0, 1, 0, 0, 0);
        due("reads(0)", files.reads(0), FEW);
        files.moves(1, 1);
        groupDue(files, 1, 6, 2, 6, 0, 1, 1, 1, 1);
        due("writes(1, 4)", files.writes(1, 4), 1);
        copyDue(files, 1, 1, 1, 1, 4, 2, 1, 0);
        // READ and WRITE are KNOWN's, too: by the newest the one VOTE of COPY 2 would be enough.
        files = told(THREE);
        files.moves(2, 1);
        files.votes(0, 2, 0, 0, 1, 2);
        files.votes(0, 1, 0, 0, 1, 1);
        groupDue(files, 1, 4, 0, 1, 0, 1, 0, 0, 0);
        due("reads(1)", files.reads(1), FEW);
        due("writes(1, 4)", files.writes(1, 4), FEW);
        due("mends(1)", files.mends(1), FEW);
        groupDue(files, 0, 3, 2, 1, 0, 1, 1, 1, 1);
    }

    private static void dataOfAWitness() {
        sentence("It has DATA, if one PRESENT with VERSION LATEST has a VALUE.");
        VoteFiles files = told("copy 1;witness 1;copy 1;read 2;write 2;");
        files.writes(0, 6);
        files.flips(2);
        files.votes(0, 2, 1, 1, 2, 2);
        files.flips(2);
        files.flips(0);
        // By KNOWN both are WITNESSES; COPY 2 was away then, and has its VALUE still.
        groupDue(files, 0, 6, 1, 2, 1, 1, 1, 1, 1);
        due("reads(0)", files.reads(0), 1);
        due("asked()", files.asked(), 6);
        due("mends(0)", files.mends(0), 0);
        copyDue(files, 2, 1, 0, 1, NONE, 1, 1, 1);
        groupDue(files, 0, 6, 1, 2, 1, 0, 0, 1, 0);
        due("reads(0) behind that", files.reads(0), STALE);
        files.flips(0);
        groupDue(files, 0, 7, 1, 3, 1, 1, 1, 1, 1);
    }

    private static void groupAsked() {
        sentence("Of a GROUP: 0 PRESENT (bits) .. 7 be VOTED in. BAD.");
        bad("group", what -> files -> files.group(0, what), -1, 8, LOWEST, HIGHEST);
        bad("group 2, nobody there,", what -> files -> files.group(2, what), -1, 8, LOWEST, HIGHEST);
        groupDue(after(BUSY), 0, 3, 1, 4, 3, 1, 1, 1, 1);
        groupDue(after(BUSY), 1, 8, 1, 1, 3, 1, 0, 0, 0);
        leavesAll(BUSY, "group(0, 0)", files -> files.group(0, 0), 3);
        leavesAll(BUSY, "group(0, 7)", files -> files.group(0, 7), 1);
        VoteFiles files = told(SIX + "read 3;write 4;");
        groupDue(files, 0, 63, 0, 6, 0, 1, 1, 1, 1);
        files.moves(5, 2);
        groupDue(files, 2, 32, 0, 1, 0, 1, 0, 0, 0);
    }

    private static void groupOfNobody() {
        sentence("(1, 3: NONE, 2, 4 to 7: 0, if nobody is PRESENT.)");
        for (int group = 0; group < 3; group++) {
            groupDue(new VoteFiles(), group, 0, NONE, 0, NONE, 0, 0, 0, 0);
            groupDue(after(down(7)), group, 0, NONE, 0, NONE, 0, 0, 0, 0);
        }
        groupDue(after(BUSY), 2, 0, NONE, 0, NONE, 0, 0, 0, 0);
    }

    private static void groupCan() {
        sentence("whether it can READ, WRITE, be VOTED in (a LAWFUL one; 0 where there are 8 CONFIGURATIONS)");
        groupDue(after(down(0)), 0, 7, 0, 4, 1, 1, 1, 1, 1);
        groupDue(after(down(2)), 0, 5, 0, 3, 1, 1, 1, 1, 1);
        groupDue(after(down(1)), 0, 6, 0, 2, 1, 1, 1, 0, 0);
        groupDue(after(down(6)), 0, 1, 0, 2, 1, 1, 1, 0, 0);
        groupDue(after(down(3)), 0, 4, 0, 1, 1, 1, 0, 0, 0);
        groupDue(after(stale(0)), 0, 7, 0, 3, 2, 0, 0, 1, 0);
        groupDue(after(stale(1)), 0, 6, 0, 2, 2, 0, 0, 1, 0);
        groupDue(after(stale(6)), 0, 1, 0, 1, 1, 1, 0, 0, 0);
        VoteFiles files = told(THREE);
        configure(files, 8);
        groupDue(files, 0, 7, 7, 3, 0, 1, 1, 1, 0);
        files.undo();
        groupDue(files, 0, 7, 6, 3, 0, 1, 1, 1, 1);
    }

    // ---- what is likely, what is best

    private static void chanceDue(VoteFiles files, int x, int way, int upper, int lower) {
        due("chance(" + x + ", " + way + ", 0)", files.chance(x, way, 0), upper);
        due("chance(" + x + ", " + way + ", 1)", files.chance(x, way, 1), lower);
    }

    private static void chanceTold() {
        sentence("CHANCE by x (0 .. 10) to READ (way = 0), WRITE (1): upper (what = 0), lower number (1). BAD.");
        bad("chance, x", x -> files -> files.chance(x, 0, 0), -1, 11, LOWEST, HIGHEST);
        bad("chance, way", way -> files -> files.chance(5, way, 0), -1, 2, LOWEST, HIGHEST);
        bad("chance, what", what -> files -> files.chance(5, 0, what), -1, 2, LOWEST, HIGHEST);
        leavesAll(BUSY, "chance(0, 0, 0)", files -> files.chance(0, 0, 0), 0);
        leavesAll(BUSY, "chance(10, 1, 1)", files -> files.chance(10, 1, 1), 1);
    }

    private static void chanceEnds() {
        sentence("a fraction, in least terms: nothing and all");
        for (String text : List.of(ONE, THREE, SIX + "read 6;write 6;")) {
            for (int way = 0; way < 2; way++) {
                chanceDue(told(text), 0, way, 0, 1);
                chanceDue(told(text), 10, way, 1, 1);
            }
        }
        for (int x = 0; x <= 10; x++) {
            chanceDue(new VoteFiles(), x, 0, 0, 1);
            chanceDue(new VoteFiles(), x, 1, 0, 1);
        }
    }

    private static void chanceTerms() {
        sentence("a fraction, in least terms: least and greatest numbers");
        VoteFiles files = told(SIX + "read 1;write 6;");
        chanceDue(files, 1, 1, 1, 1000000);
        chanceDue(files, 9, 0, 999999, 1000000);
        chanceDue(files, 9, 1, 531441, 1000000);
        chanceDue(files, 5, 1, 1, 64);
        chanceDue(files, 5, 0, 63, 64);
        chanceDue(files, 2, 1, 1, 15625);
        chanceDue(files, 8, 1, 4096, 15625);
        chanceDue(files, 4, 1, 64, 15625);
        files = told(ONE);
        chanceDue(files, 1, 0, 1, 10);
        chanceDue(files, 2, 0, 1, 5);
        chanceDue(files, 5, 0, 1, 2);
        chanceDue(files, 9, 1, 9, 10);
        // Just enough VOTES, and one too few.
        files = told("copy 2;copy 1;read 2;write 2;");
        chanceDue(files, 3, 0, 3, 10);
        files = told("copy 2;copy 1;read 1;write 3;");
        chanceDue(files, 3, 0, 51, 100);
        chanceDue(files, 3, 1, 9, 100);
        files = told(HEAVY + "read 30;write 30;");
        chanceDue(files, 9, 0, 531441, 1000000);
        // Who has no VOTES, is DOWN or elsewhere does not matter.
        files = told("copy 0;copy 1;copy 0;read 1;write 1;");
        files.flips(1);
        files.moves(1, 2);
        chanceDue(files, 3, 0, 3, 10);
    }

    private static void leasts() {
        sentence("LEAST to READ (way = 0), WRITE (1), bits; 0 without COPIES. BAD.");
        bad("least", way -> files -> files.least(way), -1, 2, LOWEST, HIGHEST);
        leavesAll(BUSY, "least(0)", files -> files.least(0), 3);
        leavesAll(BUSY, "least(1)", files -> files.least(1), 3);
        due("least(0) without COPIES", new VoteFiles().least(0), 0);
        due("least(1) without COPIES", new VoteFiles().least(1), 0);
        due("least(2) without COPIES", new VoteFiles().least(2), BAD);
        due("least(1) of all", told(SIX + "read 1;write 6;").least(1), 63);
        due("least(0) of the first", told(SIX + "read 1;write 6;").least(0), 1);
        due("least(0) of the last", told("copy 0;copy 0;copy 0;copy 0;copy 0;copy 1;read 1;write 1;").least(0), 32);
    }

    private static void leastOfSeveral() {
        sentence("LEAST: the fewest COPIES whose VOTES are enough, of several such sets the least number (bits)");
        VoteFiles files = told("copy 1;copy 1;copy 2;read 2;write 3;");
        due("least(0): one is fewer than two", files.least(0), 4);
        due("least(1): of two sets", files.least(1), 5);
        files = told("copy 2;copy 2;copy 2;read 2;write 5;");
        due("least(0): of three sets", files.least(0), 1);
        due("least(1): 4 are not enough", files.least(1), 7);
        files = told("copy 1;copy 3;copy 2;copy 2;read 4;write 5;");
        due("least(0): just enough, of several sets", files.least(0), 3);
        due("least(1): just enough", files.least(1), 6);
    }

    private static void bestDue(VoteFiles files, int x, int a, int... want) {
        for (int what = 0; what < 3; what++) {
            due("best(" + x + ", " + a + ", " + what + ")", files.best(x, a, what), want[what]);
        }
    }

    private static void bestTold() {
        sentence("BEST by x, a (0 .. 10): how much (what = 0), VOTES (1), WRITE (2); NONE without COPIES. BAD.");
        bad("best, x", x -> files -> files.best(x, 5, 0), -1, 11, LOWEST, HIGHEST);
        bad("best, a", a -> files -> files.best(5, a, 0), -1, 11, LOWEST, HIGHEST);
        bad("best, what", what -> files -> files.best(5, 5, what), -1, 3, LOWEST, HIGHEST);
        leavesAll(BUSY, "best(0, 0, 0)", files -> files.best(0, 0, 0), 0);
        leavesAll(BUSY, "best(10, 10, 0)", files -> files.best(10, 10, 0), 100000);
        bestDue(new VoteFiles(), 5, 5, NONE, NONE, NONE);
        bestDue(new VoteFiles(), 0, 0, NONE, NONE, NONE);
        bestDue(new VoteFiles(), 10, 10, NONE, NONE, NONE);
        VoteFiles gone = told(THREE);
        bestDue(gone, 9, 5, 9720, 21, 2);
        gone.file();
        bestDue(gone, 9, 5, NONE, NONE, NONE);
        leavesAll(EMPTY, "best(11, 0, 0): BAD ahead of NONE", files -> files.best(11, 0, 0), BAD);
        leavesAll(EMPTY, "best(0, 11, 0): BAD ahead of NONE", files -> files.best(0, 11, 0), BAD);
        leavesAll(EMPTY, "best(0, 0, 3): BAD ahead of NONE", files -> files.best(0, 0, 3), BAD);
    }

    private static void bestEnds() {
        sentence("BEST: of all VOTES (0 .. 3 of each COPY, TOTAL 1 or more); of several the least number");
        StringBuilder copies = new StringBuilder();
        int power = 1;
        for (int n = 1; n <= 6; n++) {
            copies.append("copy 1;");
            power *= 10;
            VoteFiles files = told(copies + "read " + n + ";write " + n + ";");
            for (int a = 0; a <= 10; a += 5) {
                bestDue(files, 0, a, 0, 1, 1);
                bestDue(files, 10, a, 10 * power, 1, 1);
            }
        }
    }

    private static void bestWrite() {
        sentence("BEST: WRITE (more than half of TOTAL, no more than it), READ being TOTAL and 1 less WRITE");
        // One of n is enough to READ, if all of n are needed to WRITE: VOTES 1 each, WRITE as great as it may be.
        bestDue(told("copy 1;copy 1;read 1;write 2;"), 5, 10, 750, 5, 2);
        bestDue(told(THREE), 5, 10, 8750, 21, 3);
        bestDue(told(SIX + "read 1;write 6;"), 9, 10, 9999990, 1365, 6);
        // WRITE as small as it may be: 2 of 3, and 1 of 1, for half of 2 is not enough.
        bestDue(told(THREE), 9, 0, 9720, 21, 2);
        bestDue(told("copy 1;copy 1;read 1;write 2;"), 9, 0, 900, 1, 1);
        bestDue(told("copy 1;copy 1;read 1;write 2;"), 9, 5, 900, 1, 1);
        bestDue(told(ONE), 7, 3, 70, 1, 1);
        // How things are does not matter, only how many COPIES there are.
        bestDue(told("witness 0;copy 5;copy 3;read 8;write 8;"), 9, 0, 9720, 21, 2);
    }

    // ---- which are down

    private static void sees() {
        sentence("SEEN (6 at most): how much there is. BAD; FULL: 6.");
        bad("sees, way", way -> files -> files.sees(way, 0), -1, 2, LOWEST, HIGHEST);
        bad("sees, is", is -> files -> files.sees(0, is), -1, 2, LOWEST, HIGHEST);
        VoteFiles files = told(THREE);
        for (int many = 1; many <= 6; many++) {
            due("sees", files.sees(many % 2, 1), many);
            due("count(5)", files.count(5), many);
        }
        due("sees, a seventh", files.sees(1, 1), FULL);
        Story full = f -> {
            busy(f);
            for (int i = 0; i < 4; i++) {
                f.sees(0, 1);
            }
        };
        leavesAll(full, "sees(0, 0) at 6", f -> f.sees(0, 0), FULL);
        leavesAll(full, "sees(1, 1) at 6", f -> f.sees(1, 1), FULL);
        leavesAll(full, "sees(2, 0) at 6: BAD ahead of FULL", f -> f.sees(2, 0), BAD);
        leavesAll(full, "sees(0, -1) at 6: BAD ahead of FULL", f -> f.sees(0, -1), BAD);
        taken(EMPTY, "sees without COPIES", f -> f.sees(1, 1), 1);
    }

    private static void forgets() {
        sentence("Nothing is SEEN: how much was.");
        leavesAll(EMPTY, "forget() of nothing", VoteFiles::forget, 0);
        leavesAll(filed(THREE), "forget() of nothing", VoteFiles::forget, 0);
        VoteFiles files = told(THREE);
        for (int i = 0; i < 6; i++) {
            files.sees(0, 0);
        }
        due("forget() of 6", files.forget(), 6);
        due("forget() again", files.forget(), 0);
        due("unseen(0)", files.unseen(0), 8);
        due("sees behind forget()", files.sees(0, 1), 1);
        due("unseen(0)", files.unseen(0), 4);
    }

    private static void unseenDue(VoteFiles files, int many, int least) {
        due("unseen(0)", files.unseen(0), many);
        due("unseen(1)", files.unseen(1), least);
    }

    private static void unseens() {
        sentence("UNSEEN: how many (what = 0), the least (1; NONE). BAD.");
        bad("unseen", what -> files -> files.unseen(what), -1, 2, LOWEST, HIGHEST);
        leavesAll(BUSY, "unseen(0)", files -> files.unseen(0), 4);
        leavesAll(BUSY, "unseen(1)", files -> files.unseen(1), 5);
        VoteFiles files = new VoteFiles();
        unseenDue(files, 1, 0);
        files.sees(0, 0);
        files.sees(1, 0);
        unseenDue(files, 1, 0);
        files.sees(0, 1);
        unseenDue(files, 0, NONE);
        files = told(SIX + "read 1;write 6;");
        unseenDue(files, 64, 0);
        files.sees(1, 1);
        unseenDue(files, 1, 0);
        files.forget();
        files.sees(0, 0);
        unseenDue(files, 1, 63);
        files.sees(0, 1);
        unseenDue(files, 0, NONE);
        files.forget();
        files.sees(0, 1);
        files.sees(1, 0);
        unseenDue(files, 62, 1);
    }

    private static void seenVotes() {
        sentence("SEEN: there were VOTES enough, by the newest CONFIGURATION, so (1), or not (0)");
        VoteFiles files = told("copy 3;copy 2;copy 1;read 3;write 5;");
        files.sees(0, 1);
        // Just enough by COPY 0 alone, and by the two others; 2 and 1 alone are too few.
        unseenDue(files, 5, 0);
        files.sees(1, 0);
        unseenDue(files, 3, 1);
        files.forget();
        files.sees(1, 1);
        unseenDue(files, 2, 0);
        files.votes(0, 2, 2, 0, 3, 5);
        unseenDue(files, 3, 0);
        files.flips(0);
        files.moves(1, 1);
        unseenDue(files, 3, 0);
        files.undo();
        files.undo();
        files.undo();
        unseenDue(files, 2, 0);
    }

    // ---- images

    private static void keeps() {
        sentence("An IMAGE is kept: COPIES. BAD. IMAGES 0, 1");
        bad("keep", image -> files -> files.keep(image), -1, 2, LOWEST, HIGHEST);
        taken(BUSY, "keep(0)", files -> files.keep(0), 4);
        taken(BUSY, "keep(1)", files -> files.keep(1), 4);
        taken(EMPTY, "keep(0) without COPIES", files -> files.keep(0), 0);
        taken(filed(SIX + "read 3;write 4;"), "keep(1) of six", files -> files.keep(1), 6);
        VoteFiles files = told(ONE);
        files.keep(1);
        due("back(0): that is another", files.back(0), STATE);
        files.writes(0, 3);
        files.keep(0);
        files.writes(0, 4);
        due("back(1)", files.back(1), 1);
        copyDue(files, 0, 1, 0, 0, 0);
        due("back(0)", files.back(0), 1);
        copyDue(files, 0, 1, 0, 1, 3);
        files.writes(0, 5);
        files.keep(1);
        files.back(0);
        due("back(1): what was kept last", files.back(1), 1);
        copyDue(files, 0, 1, 0, 2, 5);
    }

    private static void backs() {
        sentence("All of that becomes as an IMAGE has it: COPIES. BAD; STATE: none was kept.");
        bad("back", image -> files -> files.back(image), -1, 2, LOWEST, HIGHEST);
        leavesAll(EMPTY, "back(-1): BAD ahead of STATE", files -> files.back(-1), BAD);
        leavesAll(EMPTY, "back(2): BAD ahead of STATE", files -> files.back(2), BAD);
        Story done = files -> {
            tell(files, THREE);
            files.writes(0, 3);
            files.flips(1);
            files.sees(0, 1);
        };
        leavesAll(done, "back(0) of none", files -> files.back(0), STATE);
        leavesAll(done, "back(1) of none", files -> files.back(1), STATE);
        VoteFiles files = new VoteFiles();
        files.keep(1);
        due("back(1) without COPIES", files.back(1), 0);
        due("back(1) once more", files.back(1), 0);
        due("back(0)", files.back(0), STATE);
    }

    private static void backWhole() {
        sentence("IMAGES keep all of 2; nothing else (nothing can be UNDONE behind back())");
        VoteFiles files = after(BUSY);
        due("back(1)", files.back(1), 4);
        countDue(files, 4, 2, 3, 4, 6, 2, 8, 0);
        copyDue(files, 0, 1, 0, 3, 9, 1, 2, 0);
        copyDue(files, 2, 1, 0, 3, NONE, 1, 1, 1);
        copyDue(files, 3, 1, 1, 3, 9, 1, 1, 0);
        due("undo()", files.undo(), STATE);
        due("back(0)", files.back(0), 4);
        countDue(files, 4, 1, 2, 4, 5, 2, 8, 0);
        copyDue(files, 1, 1, 0, 1, 7, 0, 1, 0);
        copyDue(files, 3, 1, 0, 1, 7, 0, 1, 0);
        due("asked()", files.asked(), 8);
        due("flips(0)", files.flips(0), 0);
        due("undo() of what came behind", files.undo(), 0);
        due("undo()", files.undo(), STATE);
        // Of 8 CONFIGURATIONS back to fewer, and forth.
        files = told(THREE);
        files.keep(0);
        configure(files, 8);
        files.keep(1);
        files.back(0);
        due("votes behind back(0)", files.votes(0, 0, 1, 0, 2, 2), 1);
        files.back(1);
        due("votes behind back(1)", files.votes(0, 0, 1, 0, 2, 2), FULL);
    }

    private static void counts() {
        sentence("0 COPIES .. 7 how many may be UNDONE. BAD.");
        bad("count", what -> files -> files.count(what), -1, 8, LOWEST, HIGHEST);
        for (int what = 0; what < 8; what++) {
            int which = what;
            int want = new int[] {4, 2, 3, 4, 6, 2, 8, 8}[what];
            leavesAll(BUSY, "count(" + what + ")", files -> files.count(which), want);
        }
    }

    private static void text() {
        sixCopies();
        votesInTheText();
        needsInTheText();
        lawfulSum();
        lawfulTwice();
        lawfulNeither();
        fullText();
        blanksBetween();
        otherLetters();
        eachEnded();
        nextCopy();
        onceEach();
        words();
        numbers();
        firstFault();
        endsEarly();
        unlawfulText();
        noItems();
        types();
        clears();
        readAnew();
        nothingIsLeft();
        newObject();
    }

    private static void doings() {
        lastCall();
        groupsTold();
        copiesTold();
        readVotes();
        readData();
        readTold();
        values();
        writeVotes();
        written();
        witnessByKnown();
        mendVotes();
        mended();
        votesTold();
        votesLawful();
        votesEnough();
        voted();
        eightConfigurations();
        votesOrder();
        nobodyPresent();
        flips();
        moves();
        tenUndone();
        manyUndone();
        refusedIsNotKnown();
        onlyWhatIsDone();
        undoNone();
        configurationsUndone();
    }

    private static void askings() {
        copyAsked();
        byTheNewest();
        byWhatIsKnown();
        dataOfAWitness();
        groupAsked();
        groupOfNobody();
        groupCan();
        chanceTold();
        chanceEnds();
        chanceTerms();
        leasts();
        leastOfSeveral();
        bestTold();
        bestEnds();
        bestWrite();
        sees();
        forgets();
        unseens();
        seenVotes();
        keeps();
        backs();
        backWhole();
        counts();
    }

    public static void main(String[] args) {
        text();
        doings();
        askings();
        System.out.println("BoundaryTest: " + sentences + " sentences, " + asked + " answers, " + wrong + " wrong");
        if (wrong != 0) {
            System.exit(1);
        }
    }
}
