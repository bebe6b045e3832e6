/** What the tests of the document's sentences have in common. No object is asked more than 512 times. */
abstract class SentenceCase {
    static final int BAD = -1, NOTHING = -2, NO_DRIVE = -3, CUT = -4, JAM = -5, NO_ROOM = -6, DAMAGE = -7;
    static final int MAX = Integer.MAX_VALUE;
    static final int MIN = Integer.MIN_VALUE;

    /** The name of the files that fill() writes. */
    static final int FILLER = 900;

    static void due(String call, int got, int want) {
        Check.due(call, got, want);
    }

    static void same(String what, String got, String want) {
        Check.that(what + " is " + got + ", due is " + want, got.equals(want));
    }

    /** Tapes with homes in these cells. */
    static TapeVault vault(int... cells) {
        TapeVault x = new TapeVault();
        for (int k = 0; k < cells.length; k++) {
            due("tape(" + cells[k] + ")", x.tape(cells[k]), k);
        }
        return x;
    }

    /** Tape d has its home where drive d stands, so it is one step off, and nearest to that drive. */
    static TapeVault tapesAtDrives() {
        return vault(8, 16, 24);
    }

    /** Tapes, and on tape 0, from place 0 on, a file whose data are 10, 11, .. */
    static TapeVault withFile(int name, int size, int... cells) {
        TapeVault x = vault(cells);
        due("the file is written", write(x, name, size, 0), 0);
        return x;
    }

    /** What copy() answers of a file whose data are 10, 11, .. */
    static int write(TapeVault x, int name, int size, int tape) {
        due("stage(" + name + ", " + size + ", 10, 1)", x.stage(name, size, 10, 1), size);
        return x.copy(tape);
    }

    /** Whole files until the tape has so many blocks. */
    static void fill(TapeVault x, int tape, int end) {
        int have = x.tapeTold(tape, 1);
        while (have < end) {
            int left = end - have;
            int blocks = left <= 32 ? left : Math.min(32, left - 3);
            due("filling tape " + tape, write(x, FILLER, blocks - 2, tape), have);
            have += blocks;
        }
        due("the end of tape " + tape, x.tapeTold(tape, 1), end);
    }

    /** A drive is jammed by a copy to a tape that goes to it; no block is done. */
    static void jamBy(TapeVault x, int drive, int tape) {
        due("stage", x.stage(FILLER, 1, 0, 0), 1);
        due("jam(" + drive + ", 0)", x.jam(drive, 0), 0);
        due("the copy that jams drive " + drive, x.copy(tape), JAM);
        due("drive " + drive + " is jammed", x.driveTold(drive, 2), 1);
    }

    /** The clock, care, jobs, and those that failed. */
    static int[] effort(TapeVault x) {
        return new int[] {x.told(0), x.told(1), x.told(2), x.told(3)};
    }

    /** The work and care steps that were done since. */
    static void spent(TapeVault x, int[] before, int work, int care) {
        due("work steps", x.told(0) - before[0], work);
        due("care steps", x.told(1) - before[1], care);
    }

    static void jobs(TapeVault x, int[] before, int begun, int failed) {
        due("jobs", x.told(2) - before[2], begun);
        due("failed jobs", x.told(3) - before[3], failed);
    }

    /** The kinds of a tape's blocks from a place on, a digit each. */
    static void kinds(TapeVault x, int tape, int from, String want) {
        StringBuilder got = new StringBuilder();
        for (int k = 0; k < want.length(); k++) {
            got.append(x.block(tape, from + k, 0));
        }
        same("the blocks of tape " + tape + " from " + from + " on", got.toString(), want);
    }

    /** All that is told but for blocks and places: some sixty calls at most. */
    static String state(TapeVault x, int tapes) {
        StringBuilder all = new StringBuilder();
        for (int what = 0; what < 5; what++) {
            all.append(x.told(what)).append(' ');
        }
        all.append(x.fold());
        for (int drive = 0; drive < 3; drive++) {
            for (int what = 0; what < 3; what++) {
                all.append(what == 0 ? " drive " : " ").append(x.driveTold(drive, what));
            }
        }
        for (int tape = 0; tape < tapes; tape++) {
            for (int what = 0; what < 4; what++) {
                all.append(what == 0 ? " tape " : " ").append(x.tapeTold(tape, what));
            }
        }
        return all.toString();
    }
}
