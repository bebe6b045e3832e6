/** The sentences of promises 1 to 8. */
final class FileSentences extends SentenceCase {
    private FileSentences() {
    }

    @Sentence(promise = 1, words = "No tapes,")
    static void aNewVaultHasNoTapeNone() {
        TapeVault x = new TapeVault();
        x.stage(5, 1, 0, 0);
        due("copy(0)", x.copy(0), BAD);
        due("read(5, 0)", x.read(5, 0), BAD);
        due("move(5, 0, 1)", x.move(5, 0, 1), BAD);
        due("scan(0)", x.scan(0), BAD);
        due("lose(0)", x.lose(0), BAD);
        due("damage(0, 0, 1)", x.damage(0, 0, 1), BAD);
        due("place(5, 0)", x.place(5, 0), BAD);
        due("block(0, 0, 0)", x.block(0, 0, 0), BAD);
        due("tapeTold(0, 0)", x.tapeTold(0, 0), BAD);
        due("salvage(5)", x.salvage(5), NOTHING);
        same("the state", state(x, 0), "0 0 0 0 -1 1 drive 0 0 0 drive 0 0 0 drive 0 0 0");
        due("the first tape", x.tape(8), 0);
    }

    @Sentence(promise = 1, words = "nothing on the stage;")
    static void aNewStageIsEmpty() {
        TapeVault x = vault(8);
        due("copy(0)", x.copy(0), NOTHING);
        due("tapeTold(0, 1)", x.tapeTold(0, 1), 0);
        due("stage(0, 0, 0, 0)", x.stage(0, 0, 0, 0), BAD);
        due("copy(0), still", x.copy(0), NOTHING);
    }

    @Sentence(promise = 1, words = "power lasts for ever,")
    static void powerLastsLongerThanTheMostThatCanBeSet() {
        TapeVault x = salvagingVault();
        int[] before = effort(x);
        for (int k = 0; k < 80; k++) {
            due("salvage(5)", x.salvage(5), DAMAGE);
        }
        spent(x, before, 80 * SALVAGE_STEPS, 80 * SALVAGE_STEPS);
        Check.that("more than 100000 steps", x.told(0) > 100000);
        due("told(4)", x.told(4), -1);
    }

    /** The work steps of a salvage of file 5 from all tapes of salvagingVault(). */
    static final int SALVAGE_STEPS = 12 * (97 + 3) + distances();

    /** Twelve tapes, on each a file 5 at the last places, whose TAIL is damaged. */
    static TapeVault salvagingVault() {
        TapeVault x = new TapeVault();
        for (int tape = 0; tape < 12; tape++) {
            due("tape(" + tape + ")", x.tape(tape), tape);
            fill(x, tape, 97);
            due("a file at the last places", write(x, 5, 1, tape), 97);
            due("its TAIL is damaged", x.damage(tape, 99, 1), 1);
        }
        return x;
    }

    /** Of cells 0 to 11 from drive 0. */
    private static int distances() {
        int sum = 0;
        for (int cell = 0; cell < 12; cell++) {
            sum += Math.abs(cell - 8) + 1;
        }
        return sum;
    }

    @Sentence(promise = 1, words = "no drive is set to jam;")
    static void newDrivesDoMoreBlocksThanTheMostThatCanBeSet() {
        TapeVault x = tapesAtDrives();
        for (int tape = 0; tape < 3; tape++) {
            fill(x, tape, 100);
            for (int k = 0; k < 12; k++) {
                due("scan(" + tape + ")", x.scan(tape), 1);
            }
            due("blocks", x.driveTold(tape, 1), 13 * 100);
            due("jammed", x.driveTold(tape, 2), 0);
            due("fix(" + tape + ")", x.fix(tape), 0);
        }
    }

    @Sentence(promise = 1, words = "the fold is 1.")
    static void theFoldOfANewVaultIsOne() {
        TapeVault x = new TapeVault();
        due("fold()", x.fold(), 1);
        x.tape(8);
        due("a file is written", write(x, 5, 1, 0), 0);
        due("read(5, 0)", x.read(5, 0), 1);
        due("fold()", x.fold(), 41);
        due("a new vault's", new TapeVault().fold(), 1);
    }

    @Sentence(promise = 2, words = "A new tape, without blocks, with a home: its number.")
    static void aNewTapeIsEmptyAndInNoCatalogue() {
        TapeVault x = withFile(0, 1, 31);
        x.damage(0, 0, 100);
        due("tape(30)", x.tape(30), 1);
        due("its home", x.tapeTold(1, 0), 30);
        due("its end", x.tapeTold(1, 1), 0);
        due("its mounts", x.tapeTold(1, 2), 0);
        due("its wear", x.tapeTold(1, 3), 0);
        due("block(1, 0, 0)", x.block(1, 0, 0), 0);
        due("block(1, 0, 3)", x.block(1, 0, 3), 0);
        due("block(1, 99, 3)", x.block(1, 99, 3), 0);
        due("place(0, 1)", x.place(0, 1), NOTHING);
        due("lose(1)", x.lose(1), 0);
    }

    @Sentence(promise = 2, words = "BAD: there is no such cell,")
    static void aCellBelowTheFirstOrAboveTheLastIsBad() {
        TapeVault x = new TapeVault();
        for (int cell : new int[] {-1, 32, MIN, MAX}) {
            due("tape(" + cell + ")", x.tape(cell), BAD);
        }
        due("no tape was made", x.tapeTold(0, 0), BAD);
        due("tape(0)", x.tape(0), 0);
        due("tape(31)", x.tape(31), 1);
    }

    @Sentence(promise = 2, words = "or it is another one's home;")
    static void theHomeOfTheFirstAndOfTheLastTapeAreBad() {
        TapeVault x = vault(31, 1, 2, 3, 4, 5, 6, 7, 8, 9, 0);
        due("tape(31), of the first", x.tape(31), BAD);
        due("tape(0), of the last", x.tape(0), BAD);
        due("tape(30)", x.tape(30), 11);
        due("tape(30), BAD comes before NO_ROOM", x.tape(30), BAD);
        due("tape(31)", x.tape(31), BAD);
        due("tape(32)", x.tape(32), BAD);
        due("tape(-1)", x.tape(-1), BAD);
        due("tape(29)", x.tape(29), NO_ROOM);
    }

    @Sentence(promise = 2, words = "NO_ROOM: there are 12.")
    static void theTwelfthTapeIsTheLast() {
        TapeVault x = vault(0, 1, 2, 3, 4, 5, 6, 7, 8, 9, 10);
        due("tape(11), the twelfth", x.tape(11), 11);
        due("tape(12)", x.tape(12), NO_ROOM);
        due("tape(31)", x.tape(31), NO_ROOM);
        due("tapeTold(11, 0)", x.tapeTold(11, 0), 11);
        due("tapeTold(12, 0)", x.tapeTold(12, 0), BAD);
        due("scan(11)", x.scan(11), 0);
    }

    @Sentence(promise = 3, words = "The stage has a name, and a size of data:")
    static void theStageHasTheLastFileOnly() {
        TapeVault x = vault(8);
        x.stage(5, 30, 7, 0);
        x.stage(6, 1, 9, 0);
        due("copy(0)", x.copy(0), 0);
        kinds(x, 0, 0, "1230");
        due("the name", x.block(0, 0, 1), 6);
        due("the size", x.block(0, 0, 2), 1);
        due("the datum", x.block(0, 1, 1), 9);
        due("no file 5", x.place(5, 0), NOTHING);
        x.stage(7, 30, 8, 0);
        due("copy(0)", x.copy(0), 3);
        due("datum 29", x.block(0, 33, 1), 8);
        due("the TAIL", x.block(0, 34, 0), 3);
    }

    @Sentence(promise = 3, words = "datum k is seed + k step (ints, which wrap).")
    static void dataWrapAtBothEnds() {
        int[][] cases = {{MAX, 1}, {MIN, -1}, {MAX, MAX}, {MIN, MIN}, {0, MAX}, {-1, MIN}, {5, 0}, {0, 1 << 30}, {MAX, 0}};
        for (int[] one : cases) {
            TapeVault x = vault(8);
            due("stage(5, 30, " + one[0] + ", " + one[1] + ")", x.stage(5, 30, one[0], one[1]), 30);
            due("copy(0)", x.copy(0), 0);
            for (int k = 0; k < 30; k++) {
                due("datum " + k, x.block(0, 1 + k, 1), (int) (one[0] + (long) k * one[1]));
            }
        }
    }

    @Sentence(promise = 3, words = "BAD: no name, or size;")
    static void aWrongNameOrSizeLeavesTheStage() {
        TapeVault x = vault(8);
        int[][] wrong = {{-1, 1}, {1000, 1}, {MIN, 1}, {MAX, 1}, {0, 0}, {0, 31}, {0, -1}, {0, MIN}, {0, MAX}, {-1, 0}, {1000, 31}};
        for (int[] one : wrong) {
            due("stage(" + one[0] + ", " + one[1] + ", 0, 0)", x.stage(one[0], one[1], 0, 0), BAD);
        }
        due("copy(0), nothing was staged", x.copy(0), NOTHING);
        x.stage(5, 2, 3, 4);
        for (int[] one : wrong) {
            due("stage(" + one[0] + ", " + one[1] + ", 9, 9)", x.stage(one[0], one[1], 9, 9), BAD);
        }
        due("copy(0), the stage stays", x.copy(0), 0);
        due("the name", x.block(0, 0, 1), 5);
        due("the size", x.block(0, 0, 2), 2);
        due("datum 0", x.block(0, 1, 1), 3);
        due("datum 1", x.block(0, 2, 1), 7);
        kinds(x, 0, 0, "12230");
    }

    @Sentence(promise = 3, words = "otherwise the size.")
    static void eachSizeIsAnswered() {
        TapeVault x = new TapeVault();
        for (int size = 1; size <= 30; size++) {
            due("stage(0, " + size + ", 0, 0)", x.stage(0, size, 0, 0), size);
            due("stage(999, " + size + ", -1, -1)", x.stage(999, size, -1, -1), size);
        }
        due("told(0), no work", x.told(0), 0);
        due("told(2), no job", x.told(2), 0);
    }

    @Sentence(promise = 4, words = "A mount, in which the file on the stage (which stays) is written: the place of its HEAD.")
    static void theStageStaysBehindACopyAndBehindAFailure() {
        TapeVault x = withFile(5, 2, 8, 16);
        due("copy(0), at the end", x.copy(0), 4);
        x.power(0);
        due("copy(1), CUT", x.copy(1), CUT);
        due("copy(1), at place 0", x.copy(1), 0);
        fill(x, 0, 97);
        x.stage(6, 1, 0, 0);
        due("copy(0), at the last place for a HEAD", x.copy(0), 97);
        due("copy(0), NO_ROOM", x.copy(0), NO_ROOM);
        due("copy(1)", x.copy(1), 4);
        due("the name", x.block(1, 4, 1), 6);
    }

    @Sentence(promise = 4, words = "BAD: no such tape.")
    static void aCopyToNoTapeIsBad() {
        TapeVault x = vault(8, 16);
        due("copy(2), also with an empty stage", x.copy(2), BAD);
        x.stage(5, 1, 0, 0);
        String before = state(x, 2);
        for (int tape : new int[] {-1, 2, 11, 12, MIN, MAX}) {
            due("copy(" + tape + ")", x.copy(tape), BAD);
        }
        same("the state", state(x, 2), before);
    }

    @Sentence(promise = 4, words = "NOTHING: the stage is empty.")
    static void aCopyFromAnEmptyStageDoesNothing() {
        TapeVault x = vault(8);
        x.power(0);
        String before = state(x, 1);
        due("copy(0)", x.copy(0), NOTHING);
        same("the state", state(x, 1), before);
        x.power(-1);
        due("the smallest file", write(x, 5, 1, 0), 0);
    }

    @Sentence(promise = 5, words = "A mount, in which the file that the catalogue has of a name and tape is read: its size.")
    static void theSmallestAndTheLargestFileAreRead() {
        TapeVault x = vault(8);
        due("the smallest", write(x, 0, 1, 0), 0);
        due("the largest", write(x, 999, 30, 0), 3);
        due("read(0, 0)", x.read(0, 0), 1);
        due("fold()", x.fold(), 41);
        due("read(999, 0)", x.read(999, 0), 30);
        due("of one name", write(x, 0, 2, 0), 35);
        due("the last one is read", x.read(0, 0), 2);
        due("fold()", x.fold(), 41 * 31 + 11);
        due("blocks", x.driveTold(0, 1), 3 + 32 + 3 + 32 + 4 + 4);
    }

    @Sentence(promise = 5, words = "BAD: no such name or tape.")
    static void aReadOfNoNameOrTapeIsBad() {
        TapeVault x = withFile(5, 1, 8, 16);
        String before = state(x, 2);
        int[][] wrong = {{-1, 0}, {1000, 0}, {MIN, 0}, {MAX, 0}, {5, -1}, {5, 2}, {5, 12}, {5, MIN}, {5, MAX}, {-1, -1}, {1000, 2}};
        for (int[] one : wrong) {
            due("read(" + one[0] + ", " + one[1] + ")", x.read(one[0], one[1]), BAD);
        }
        same("the state", state(x, 2), before);
    }

    @Sentence(promise = 5, words = "NOTHING: it has none.")
    static void aReadOfNoFileDoesNothing() {
        TapeVault x = withFile(5, 1, 8, 16);
        x.power(0);
        String before = state(x, 2);
        due("read(4, 0)", x.read(4, 0), NOTHING);
        due("read(0, 0)", x.read(0, 0), NOTHING);
        due("read(999, 0)", x.read(999, 0), NOTHING);
        due("read(5, 1), of another tape", x.read(5, 1), NOTHING);
        due("lose(0)", x.lose(0), 1);
        due("read(5, 0), it was lost", x.read(5, 0), NOTHING);
        same("the state", state(x, 2), before);
    }

    @Sentence(promise = 6, words = "A mount of a tape, and in it, once that is carried, another one's:")
    static void theSecondTapeIsCarriedOnceTheFirstOneIs() {
        for (int power = 0; power <= 5; power++) {
            // The first one is carried 3 steps to drive 0, the second one 2 steps to drive 2.
            TapeVault x = withFile(5, 1, 10, 23);
            int[] before = effort(x);
            x.power(power);
            due("move(5, 0, 1), power " + power, x.move(5, 0, 1), CUT);
            spent(x, before, power, power);
            due("uses of drive 0", x.driveTold(0, 0), power < 3 ? 1 : 2);
            due("uses of drive 2", x.driveTold(2, 0), power < 5 ? 0 : 1);
            due("mounts of the first", x.tapeTold(0, 2), power < 3 ? 1 : 2);
            due("mounts of the second", x.tapeTold(1, 2), power < 5 ? 0 : 1);
        }
    }

    @Sentence(promise = 6, words = "once both are carried, in the first one the file of the name is wound to, then in the other one the end;")
    static void theFirstOneIsWoundThenTheOtherOne() {
        for (int power = 2; power <= 2 + 3 + 4; power++) {
            TapeVault x = withFile(5, 1, 8, 16);
            due("the file that is moved", write(x, 6, 1, 0), 3);
            due("four blocks here", write(x, 7, 2, 1), 0);
            int there = x.tapeTold(0, 3);
            int here = x.tapeTold(1, 3);
            x.power(power);
            due("move(6, 0, 1), power " + power, x.move(6, 0, 1), CUT);
            due("wear there", x.tapeTold(0, 3), there + Math.min(power - 2, 3));
            due("wear here", x.tapeTold(1, 3), here + Math.max(power - 5, 0));
            kinds(x, 1, 4, "0");
        }
    }

    @Sentence(promise = 6, words = "once both are carried, in the first one the file of the name is wound to, then in the other one the end;")
    static void aFullTapeIsWoundToItsEnd() {
        TapeVault x = withFile(5, 1, 8, 16);
        fill(x, 1, 100);
        int[] before = effort(x);
        due("move(5, 0, 1)", x.move(5, 0, 1), NO_ROOM);
        // The HEAD is read before there is no room for it.
        spent(x, before, 2 + 100 + 1, 1 + 100 + 2);
        due("wear there", x.tapeTold(0, 3), 3 + 1);
    }

    @Sentence(promise = 6, words = "then each of its blocks is read there and written here (HEAD and TAIL likewise),")
    static void theSmallestAndTheLargestFileAreMovedWhole() {
        TapeVault x = vault(8, 16);
        due("the smallest file", write(x, 0, 1, 0), 0);
        x.stage(999, 30, MAX, 1);
        due("the largest file", x.copy(0), 3);
        due("move(0, 0, 1)", x.move(0, 0, 1), 0);
        due("move(999, 0, 1)", x.move(999, 0, 1), 3);
        for (int at = 0; at < 36; at++) {
            for (int what = 0; what < 3; what++) {
                due("block(1, " + at + ", " + what + ")", x.block(1, at, what), x.block(0, at, what));
            }
        }
        due("the end here", x.tapeTold(1, 1), 35);
        due("the end there stays", x.tapeTold(0, 1), 35);
    }

    @Sentence(promise = 6, words = "then each of its blocks is read there and written here (HEAD and TAIL likewise),")
    static void eachBlockIsReadBeforeItIsWritten() {
        for (int steps = 0; steps < 6; steps++) {
            TapeVault x = withFile(5, 1, 8, 16);
            x.power(2 + steps);
            due("move(5, 0, 1), CUT behind " + steps, x.move(5, 0, 1), CUT);
            due("blocks there", x.driveTold(0, 1), 3 + (steps + 1) / 2);
            due("blocks here", x.driveTold(1, 1), steps / 2);
        }
        TapeVault y = withFile(5, 1, 8, 16);
        y.jam(0, 2);
        y.jam(1, 2);
        due("move(5, 0, 1), the one there jams first", y.move(5, 0, 1), JAM);
        due("drive 0", y.driveTold(0, 2), 1);
        due("drive 1", y.driveTold(1, 2), 0);
    }

    @Sentence(promise = 6, words = "with a VOID as told.")
    static void behindTheHeadThereIsAVoidHere() {
        for (int at = 0; at <= 3; at++) {
            TapeVault x = withFile(5, 2, 8, 16);
            x.damage(0, at, 1);
            int[] before = effort(x);
            due("move(5, 0, 1), damage at " + at, x.move(5, 0, 1), DAMAGE);
            kinds(x, 1, 0, new String[] {"0000", "1400", "1240", "1224"}[at]);
            int closed = at > 0 ? 1 : 0;
            spent(x, before, 2 + 2 * at + 1, closed + (at + closed) + (at + 1) + 2);
            due("blocks here", x.driveTold(1, 1), at);
            due("no VOID there", x.tapeTold(0, 1), 4);
        }
        TapeVault y = withFile(5, 3, 8, 16);
        fill(y, 1, 96);
        due("move(5, 0, 1), no room for the TAIL", y.move(5, 0, 1), NO_ROOM);
        kinds(y, 1, 96, "1222");
        due("place(5, 1)", y.place(5, 1), NOTHING);
        TapeVault z = withFile(5, 3, 8, 16);
        fill(z, 1, 96);
        z.damage(0, 3, 1);
        due("move(5, 0, 1), DAMAGE before the last place", z.move(5, 0, 1), DAMAGE);
        kinds(z, 1, 96, "1224");
    }

    @Sentence(promise = 6, words = "The first place here;")
    static void theFirstAndTheLastPlaceForAHead() {
        TapeVault x = withFile(5, 1, 8, 16, 24);
        due("move(5, 0, 1), to an empty tape", x.move(5, 0, 1), 0);
        fill(x, 2, 97);
        due("move(5, 1, 2), to the last places", x.move(5, 1, 2), 97);
        due("place(5, 2)", x.place(5, 2), 97);
        due("move(5, 2, 0), behind what it left", x.move(5, 2, 0), 3);
    }

    @Sentence(promise = 6, words = "the catalogue has it here then, and no more there.")
    static void anOlderOneHereIsNoMoreInTheCatalogue() {
        TapeVault x = withFile(5, 1, 8, 16);
        due("an older one here", write(x, 5, 2, 1), 0);
        due("another name there", write(x, 6, 1, 0), 3);
        due("move(5, 0, 1)", x.move(5, 0, 1), 4);
        due("place(5, 0)", x.place(5, 0), NOTHING);
        due("place(5, 1)", x.place(5, 1), 4);
        due("place(6, 0)", x.place(6, 0), 3);
        due("move(5, 0, 1), no more there", x.move(5, 0, 1), NOTHING);
        due("read(5, 1)", x.read(5, 1), 1);
        due("lose(1), one name", x.lose(1), 1);
        due("lose(0)", x.lose(0), 1);
        due("scan(0), the blocks are there still", x.scan(0), 2);
        due("place(5, 0)", x.place(5, 0), 0);
    }

    @Sentence(promise = 6, words = "BAD: no such name or tapes, or one tape twice.")
    static void aMoveOfNoNameOrTapeOrOfOneTapeTwiceIsBad() {
        TapeVault x = withFile(5, 1, 8, 16);
        String before = state(x, 2);
        int[][] wrong = {{-1, 0, 1}, {1000, 0, 1}, {MIN, 0, 1}, {MAX, 0, 1}, {5, -1, 1}, {5, 2, 1}, {5, MIN, 1}, {5, MAX, 1}, {5, 0, -1},
            {5, 0, 2}, {5, 0, 12}, {5, 0, MIN}, {5, 0, MAX}, {5, 0, 0}, {6, 1, 1}, {6, 0, 2}, {5, 2, 2}};
        for (int[] one : wrong) {
            due("move(" + one[0] + ", " + one[1] + ", " + one[2] + ")", x.move(one[0], one[1], one[2]), BAD);
        }
        same("the state", state(x, 2), before);
        due("place(5, 0)", x.place(5, 0), 0);
        due("place(5, 1)", x.place(5, 1), NOTHING);
    }

    @Sentence(promise = 6, words = "NOTHING: the catalogue has none of the name there.")
    static void aMoveOfNoFileDoesNothing() {
        TapeVault x = withFile(5, 1, 8, 16);
        x.power(0);
        String before = state(x, 2);
        due("move(6, 0, 1)", x.move(6, 0, 1), NOTHING);
        due("move(5, 1, 0), it is here, not there", x.move(5, 1, 0), NOTHING);
        due("lose(0)", x.lose(0), 1);
        due("move(5, 0, 1), it was lost", x.move(5, 0, 1), NOTHING);
        same("the state", state(x, 2), before);
    }

    @Sentence(promise = 7, words = "Tries to read the file of a name from the tapes of which the catalogue has one, from 0 on, until one is read: "
        + "that tape's number;")
    static void theFirstAndTheLastTapeAreTried() {
        TapeVault x = vault(0, 1, 2, 3, 4, 5, 6, 7, 8, 9, 10, 11);
        due("on the last tape alone", write(x, 5, 1, 11), 0);
        due("salvage(5)", x.salvage(5), 11);
        due("fold()", x.fold(), 41);
        due("told(2), one try", x.told(2), 2);
        due("on the first one too", x.copy(0), 0);
        due("salvage(5)", x.salvage(5), 0);
        due("told(2), one try", x.told(2), 4);
        due("mounts of the last", x.tapeTold(11, 2), 2);
        for (int tape = 1; tape <= 10; tape++) {
            x.copy(tape);
        }
        for (int tape = 0; tape <= 10; tape++) {
            x.damage(tape, 2, 1);
            due("salvage(5), damage up to " + tape, x.salvage(5), tape + 1);
        }
        due("told(3)", x.told(3), 1 + 2 + 3 + 4 + 5 + 6 + 7 + 8 + 9 + 10 + 11);
    }

    @Sentence(promise = 7, words = "otherwise why the last try failed.")
    static void theLastOfSeveralFailuresIsAnswered() {
        TapeVault x = withFile(5, 1, 8, 16);
        due("copy(1)", x.copy(1), 0);
        x.damage(0, 0, 1);
        x.jam(1, 0);
        due("salvage(5): DAMAGE, JAM", x.salvage(5), JAM);
        x.jam(0, 0);
        x.jam(2, 1);
        x.damage(1, 0, 1);
        due("salvage(5): JAM, DAMAGE", x.salvage(5), DAMAGE);
        due("salvage(5): JAM, NO_DRIVE", x.salvage(5), NO_DRIVE);
        due("salvage(5): NO_DRIVE, NO_DRIVE", x.salvage(5), NO_DRIVE);
        due("told(3)", x.told(3), 8);
        TapeVault y = withFile(5, 1, 8, 16);
        y.damage(0, 0, 1);
        due("salvage(5), of one try", y.salvage(5), DAMAGE);
    }

    @Sentence(promise = 7, words = "A CUT ends it at once")
    static void behindACutNoOtherTapeIsTried() {
        for (int power = 0; power <= 3; power++) {
            TapeVault x = withFile(5, 1, 8, 16);
            due("copy(1)", x.copy(1), 0);
            x.power(power);
            due("salvage(5), power " + power, x.salvage(5), CUT);
            due("told(2)", x.told(2), 3);
            due("mounts of tape 1", x.tapeTold(1, 2), 1);
            due("told(4)", x.told(4), -1);
        }
        TapeVault y = withFile(5, 1, 8, 16, 24);
        due("copy(1)", y.copy(1), 0);
        due("copy(2)", y.copy(2), 0);
        y.damage(0, 0, 1);
        y.power(2 + 1);
        due("salvage(5), CUT in the second try", y.salvage(5), CUT);
        due("told(2)", y.told(2), 5);
        due("mounts of tape 2", y.tapeTold(2, 2), 1);
    }

    @Sentence(promise = 7, words = "(other failures do not;")
    static void behindOtherFailuresTheNextTapeIsTried() {
        TapeVault x = withFile(5, 1, 8, 16);
        due("copy(1)", x.copy(1), 0);
        x.damage(0, 2, 1);
        due("salvage(5) behind DAMAGE", x.salvage(5), 1);
        TapeVault y = withFile(5, 1, 8, 16);
        due("copy(1)", y.copy(1), 0);
        y.jam(0, 0);
        due("salvage(5) behind a JAM", y.salvage(5), 1);
    }

    @Sentence(promise = 7, words = "each try is a job).")
    static void triesAreCountedAsJobsAndFailures() {
        TapeVault x = withFile(5, 1, 8, 16, 24);
        due("copy(1)", x.copy(1), 0);
        due("copy(2)", x.copy(2), 0);
        int[] before = effort(x);
        due("salvage(5), one", x.salvage(5), 0);
        jobs(x, before, 1, 0);
        x.damage(0, 0, 1);
        due("salvage(5), two", x.salvage(5), 1);
        jobs(x, before, 3, 1);
        x.damage(1, 0, 1);
        x.damage(2, 0, 1);
        due("salvage(5), three", x.salvage(5), DAMAGE);
        jobs(x, before, 6, 4);
        due("lose(1)", x.lose(1), 1);
        due("salvage(5), two again", x.salvage(5), DAMAGE);
        jobs(x, before, 8, 6);
    }

    @Sentence(promise = 7, words = "BAD: no such name.")
    static void aSalvageOfNoNameIsBad() {
        TapeVault x = withFile(0, 1, 8);
        due("a file 999", write(x, 999, 2, 0), 3);
        String before = state(x, 1);
        for (int name : new int[] {-1, 1000, MIN, MAX}) {
            due("salvage(" + name + ")", x.salvage(name), BAD);
        }
        same("the state", state(x, 1), before);
        due("salvage(0)", x.salvage(0), 0);
        due("fold()", x.fold(), 41);
        due("salvage(999)", x.salvage(999), 0);
        due("fold()", x.fold(), 41 * 31 + 11);
    }

    @Sentence(promise = 7, words = "NOTHING: the catalogue has none.")
    static void aSalvageOfNoFileDoesNothing() {
        TapeVault empty = new TapeVault();
        due("salvage(5), no tapes", empty.salvage(5), NOTHING);
        TapeVault x = withFile(5, 1, 8, 16);
        x.power(0);
        String before = state(x, 2);
        due("salvage(6)", x.salvage(6), NOTHING);
        due("lose(0)", x.lose(0), 1);
        due("salvage(5), it was lost", x.salvage(5), NOTHING);
        same("the state", state(x, 2), before);
    }

    @Sentence(promise = 8, words = "A mount (also of an empty tape),")
    static void anEmptyTapeIsMounted() {
        TapeVault x = vault(7);
        due("scan(0)", x.scan(0), 0);
        due("mounts", x.tapeTold(0, 2), 1);
        due("uses", x.driveTold(0, 0), 1);
        due("blocks", x.driveTold(0, 1), 0);
        due("told(0)", x.told(0), 2);
        due("told(1)", x.told(1), 2);
        due("told(2)", x.told(2), 1);
        x.power(1);
        due("scan(0), CUT on the way", x.scan(0), CUT);
        x.power(2);
        due("scan(0), no step is needed behind", x.scan(0), 0);
        x.power(-1);
        x.jam(0, 0);
        due("scan(0), no block that jams", x.scan(0), 0);
    }

    @Sentence(promise = 8, words = "in which all blocks are read, from 0 to the end;")
    static void allBlocksAreReadAndNoneBehindTheEnd() {
        for (int end : new int[] {3, 50, 100}) {
            TapeVault x = vault(8);
            fill(x, 0, end);
            int[] before = effort(x);
            due("scan(0)", x.scan(0), 1);
            spent(x, before, 1 + end, end + 1);
            due("blocks", x.driveTold(0, 1), 2 * end);
            x.jam(0, end);
            due("scan(0), a jam behind the last block", x.scan(0), 1);
            x.jam(0, end - 1);
            due("scan(0), a jam before it", x.scan(0), JAM);
            x.fix(0);
            x.power(1 + end);
            due("scan(0), power up to the last block", x.scan(0), 1);
            x.power(end);
            due("scan(0), power up to the one before", x.scan(0), CUT);
        }
    }

    @Sentence(promise = 8, words = "in which all blocks are read, from 0 to the end;")
    static void theBlocksOfHalfAFileAreReadToo() {
        TapeVault x = vault(8);
        x.power(1 + 2);
        due("copy(0), CUT", write(x, 5, 2, 0), CUT);
        int blocks = x.driveTold(0, 1);
        due("scan(0), HEAD, DATUM, VOID", x.scan(0), 0);
        due("blocks", x.driveTold(0, 1), blocks + 3);
    }

    @Sentence(promise = 8, words = "damage ends nothing here, such a block just tells nothing.")
    static void aScanOfAWhollyDamagedTapeComesToItsEnd() {
        TapeVault x = withFile(5, 1, 8);
        fill(x, 0, 100);
        x.damage(0, 0, 100);
        int[] before = effort(x);
        due("scan(0)", x.scan(0), 0);
        spent(x, before, 1 + 100, 100 + 1);
        jobs(x, before, 1, 0);
        due("place(5, 0)", x.place(5, 0), NOTHING);
    }

    @Sentence(promise = 8, words = "damage ends nothing here, such a block just tells nothing.")
    static void damageAtEachBlockOfAFile() {
        for (int at = 2; at <= 8; at++) {
            TapeVault x = withFile(4, 1, 8);
            due("a file of five blocks", write(x, 5, 3, 0), 3);
            due("a file behind it", write(x, 6, 1, 0), 8);
            x.damage(0, at, 1);
            due("scan(0), damage at " + at, x.scan(0), 2);
            due("place(4, 0)", x.place(4, 0), at == 2 ? NOTHING : 0);
            due("place(5, 0)", x.place(5, 0), at >= 3 && at <= 7 ? NOTHING : 3);
            due("place(6, 0)", x.place(6, 0), at == 8 ? NOTHING : 8);
            due("told(3)", x.told(3), 0);
        }
    }

    @Sentence(promise = 8, words = "The catalogue has of this tape then the files whose blocks all told, "
        + "of one name the last one, and no other ones:")
    static void ofOneNameTheLastThatToldAll() {
        TapeVault x = vault(8, 16);
        for (int k = 0; k < 3; k++) {
            due("a file 5", write(x, 5, 1, 0), 3 * k);
        }
        due("the same on another tape", x.copy(1), 0);
        due("scan(0)", x.scan(0), 1);
        due("place(5, 0), the last", x.place(5, 0), 6);
        x.damage(0, 8, 1);
        due("scan(0)", x.scan(0), 1);
        due("place(5, 0), the one before", x.place(5, 0), 3);
        x.damage(0, 3, 1);
        due("scan(0)", x.scan(0), 1);
        due("place(5, 0), the first", x.place(5, 0), 0);
        x.damage(0, 1, 1);
        due("scan(0)", x.scan(0), 0);
        due("place(5, 0), no other one", x.place(5, 0), NOTHING);
        due("place(5, 1), of another tape", x.place(5, 1), 0);
    }

    @Sentence(promise = 8, words = "how many it has.")
    static void noneAndAsManyAsATapeCanHave() {
        TapeVault x = vault(8);
        due("scan(0), none", x.scan(0), 0);
        for (int name = 0; name < 33; name++) {
            due("a file " + name, write(x, name, 1, 0), 3 * name);
        }
        due("lose(0)", x.lose(0), 33);
        due("scan(0)", x.scan(0), 33);
        due("scan(0)", x.scan(0), 33);
        due("place(0, 0)", x.place(0, 0), 0);
        due("place(32, 0)", x.place(32, 0), 96);
    }

    @Sentence(promise = 8, words = "BAD: no such tape.")
    static void aScanOfNoTapeIsBad() {
        TapeVault x = withFile(5, 1, 8, 16);
        String before = state(x, 2);
        for (int tape : new int[] {-1, 2, 12, MIN, MAX}) {
            due("scan(" + tape + ")", x.scan(tape), BAD);
        }
        same("the state", state(x, 2), before);
        due("place(5, 0)", x.place(5, 0), 0);
    }
}
