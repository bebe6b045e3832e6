/** The sentences of 'What it is' and of 'Terms' on cells, tapes, blocks, the catalogue, the fold, the clock and power. */
final class TermSentences extends SentenceCase {
    private TermSentences() {
    }

    @Sentence(promise = 18, words = "An object is used for at most 512 calls after it has been made; what later calls answer is free.")
    static void theFiveHundredAndTwelfthCallIsAnsweredAsDue() {
        TapeVault x = new TapeVault();
        x.tape(0);
        x.stage(1, 30, 0, 0);
        x.copy(0);
        x.copy(0);
        x.copy(0);
        x.stage(1, 2, 0, 0);
        x.copy(0);
        // Seven calls were made; each scan is carried 9 steps, and reads and winds back 100 blocks.
        for (int call = 8; call <= 511; call++) {
            due("scan(0), call " + call, x.scan(0), 1);
        }
        int copies = 4 * 9 + 32 + 64 + 96 + 100;
        due("told(0), call 512", x.told(0), copies + 504 * 109);
        TapeVault y = new TapeVault();
        y.tape(31);
        for (int call = 2; call <= 511; call++) {
            due("scan(0), call " + call, y.scan(0), 0);
        }
        due("tapeTold(0, 2), call 512", y.tapeTold(0, 2), 510);
    }

    @Sentence(promise = 2, words = "CELLS are 0 .. 31.")
    static void theFirstAndTheLastCellAreHomes() {
        TapeVault x = new TapeVault();
        due("tape(0)", x.tape(0), 0);
        due("tape(31)", x.tape(31), 1);
        due("tapeTold(0, 0)", x.tapeTold(0, 0), 0);
        due("tapeTold(1, 0)", x.tapeTold(1, 0), 31);
        due("scan(0)", x.scan(0), 0);
        due("scan(1)", x.scan(1), 0);
        due("from cell 0 to drive 0, from cell 31 to drive 2", x.told(0), 9 + 8);
    }

    @Sentence(promise = 17, words = "DRIVE d, 0 .. 2, stands at place 8 + 8 d;")
    static void theFirstAndTheLastDriveStandAtTheirPlaces() {
        for (int drive = 0; drive <= 2; drive++) {
            TapeVault x = vault(8 + 8 * drive);
            due("scan(0)", x.scan(0), 0);
            due("uses of drive " + drive, x.driveTold(drive, 0), 1);
            due("the distance there", x.told(0), 1);
        }
    }

    @Sentence(promise = 4, words = "its DISTANCE from a cell is that of the cell's number and that place, and 1.")
    static void theDistanceIsOneAtTheDriveAndMoreOnBothSides() {
        int[][] cases = {{8, 1}, {7, 2}, {9, 2}, {0, 9}, {16, 1}, {15, 2}, {17, 2}, {24, 1}, {23, 2}, {25, 2}, {31, 8}};
        for (int[] one : cases) {
            TapeVault x = vault(one[0]);
            x.scan(0);
            due("work steps from cell " + one[0], x.told(0), one[1]);
            due("care steps to cell " + one[0], x.told(1), one[1]);
        }
    }

    @Sentence(promise = 4, words = "its DISTANCE from a cell is that of the cell's number and that place, and 1.")
    static void theGreatestDistancesAreFromTheOtherEnd() {
        TapeVault x = vault(0, 8, 16);
        jamBy(x, 0, 1);
        jamBy(x, 1, 2);
        int[] before = effort(x);
        due("scan(0)", x.scan(0), 0);
        spent(x, before, 25, 25);
        due("uses of drive 2", x.driveTold(2, 0), 1);
        TapeVault y = vault(31, 24, 16);
        jamBy(y, 2, 1);
        jamBy(y, 1, 2);
        before = effort(y);
        due("scan(0)", y.scan(0), 0);
        spent(y, before, 24, 24);
        due("uses of drive 0", y.driveTold(0, 0), 1);
    }

    @Sentence(promise = 2, words = "TAPES are 0, 1, .., 12 at most, each with a cell of its own, its HOME.")
    static void thereAreTwelveTapesAtMost() {
        TapeVault x = new TapeVault();
        for (int k = 0; k < 12; k++) {
            due("tape(" + (31 - k) + ")", x.tape(31 - k), k);
        }
        for (int k = 0; k < 12; k++) {
            due("the home of " + k, x.tapeTold(k, 0), 31 - k);
        }
        due("tape(1)", x.tape(1), NO_ROOM);
        due("the last one is used", write(x, 3, 1, 11), 0);
        due("and has the file", x.place(3, 11), 0);
        due("another one has not", x.place(3, 10), NOTHING);
        due("there is no tape 12", x.scan(12), BAD);
    }

    @Sentence(promise = 15, words = "A tape has 100 PLACES;")
    static void theLastPlaceIsNinetyNine() {
        TapeVault x = vault(8);
        fill(x, 0, 97);
        due("the last file goes up to the last place", write(x, 5, 1, 0), 97);
        due("tapeTold(0, 1)", x.tapeTold(0, 1), 100);
        due("block(0, 99, 0)", x.block(0, 99, 0), 3);
        due("block(0, 100, 0)", x.block(0, 100, 0), BAD);
        due("damage(0, 99, 1)", x.damage(0, 99, 1), 1);
        due("damage(0, 100, 1)", x.damage(0, 100, 1), BAD);
    }

    @Sentence(promise = 16, words = "BLOCKS fill them from 0 on, its END is how many it has.")
    static void theEndIsNoneOnAnEmptyTapeAndAHundredOnAFullOne() {
        TapeVault x = vault(8);
        due("the end of an empty tape", x.tapeTold(0, 1), 0);
        due("no block at 0", x.block(0, 0, 0), 0);
        due("the first HEAD", write(x, 5, 1, 0), 0);
        due("the end", x.tapeTold(0, 1), 3);
        kinds(x, 0, 0, "1230");
        fill(x, 0, 100);
        due("the end of a full tape", x.tapeTold(0, 1), 100);
        kinds(x, 0, 98, "23");
    }

    @Sentence(promise = 15, words = "A block is a HEAD (with a name and a size), a DATUM (an int), a TAIL, or a VOID.")
    static void blocksHoldTheLeastAndTheGreatest() {
        TapeVault x = vault(8);
        x.stage(0, 1, MIN, 0);
        due("copy(0)", x.copy(0), 0);
        x.stage(999, 30, MAX, 0);
        due("copy(0)", x.copy(0), 3);
        int[][] wanted = {{0, 1, 0, 1}, {1, 2, MIN, 0}, {2, 3, 0, 0}, {3, 1, 999, 30}, {4, 2, MAX, 0}, {33, 2, MAX, 0}, {34, 3, 0, 0}};
        for (int[] one : wanted) {
            for (int what = 0; what < 3; what++) {
                due("block(0, " + one[0] + ", " + what + ")", x.block(0, one[0], what), one[what + 1]);
            }
        }
        x.power(1 + 35 + 1);
        due("copy(0), CUT behind the HEAD", x.copy(0), CUT);
        due("the VOID", x.block(0, 36, 0), 4);
        due("it has no name", x.block(0, 36, 1), 0);
        due("it has no size", x.block(0, 36, 2), 0);
    }

    @Sentence(promise = 10, words = "Places may be DAMAGED, for good, whether they have a block or not.")
    static void damageIsForGoodAtPlacesWithAndWithoutBlocks() {
        TapeVault x = withFile(5, 1, 8);
        due("a place with a block", x.damage(0, 2, 1), 1);
        due("places without one", x.damage(0, 3, 97), 97);
        due("block(0, 2, 3)", x.block(0, 2, 3), 1);
        due("block(0, 3, 3)", x.block(0, 3, 3), 1);
        due("block(0, 99, 3)", x.block(0, 99, 3), 1);
        due("a file is written there", write(x, 6, 1, 0), 3);
        due("read(6, 0)", x.read(6, 0), DAMAGE);
        due("scan(0)", x.scan(0), 0);
        due("lose(0)", x.lose(0), 0);
        due("fix(0)", x.fix(0), 0);
        due("the written place is damaged still", x.block(0, 3, 3), 1);
        due("damaged once, damaged for good", x.damage(0, 2, 98), 0);
    }

    @Sentence(promise = 3, words = "A NAME is 0 .. 999, a SIZE 1 .. 30.")
    static void theLeastAndTheGreatestNameAndSize() {
        TapeVault x = vault(8);
        int[][] corners = {{0, 1, 0}, {0, 30, 3}, {999, 1, 35}, {999, 30, 38}};
        for (int[] one : corners) {
            due("a file " + one[0] + " of " + one[1], write(x, one[0], one[1], 0), one[2]);
            due("read(" + one[0] + ", 0)", x.read(one[0], 0), one[1]);
        }
        due("stage(-1, 1, 0, 0)", x.stage(-1, 1, 0, 0), BAD);
        due("stage(1000, 1, 0, 0)", x.stage(1000, 1, 0, 0), BAD);
        due("stage(0, 0, 0, 0)", x.stage(0, 0, 0, 0), BAD);
        due("stage(0, 31, 0, 0)", x.stage(0, 31, 0, 0), BAD);
    }

    @Sentence(promise = 8, words = "A FILE on a tape is a HEAD, as many data as it tells, and a TAIL, one behind the other.")
    static void aHeadAtTheLastPlaceIsNoFile() {
        TapeVault x = vault(8);
        fill(x, 0, 99);
        due("NO_ROOM behind the HEAD", write(x, 5, 30, 0), NO_ROOM);
        kinds(x, 0, 99, "1");
        due("scan(0)", x.scan(0), 1);
        due("place(5, 0)", x.place(5, 0), NOTHING);
    }

    @Sentence(promise = 8, words = "A FILE on a tape is a HEAD, as many data as it tells, and a TAIL, one behind the other.")
    static void dataWithoutATailAtTheLastPlaceAreNoFile() {
        TapeVault x = vault(8);
        fill(x, 0, 98);
        due("NO_ROOM for the TAIL", write(x, 5, 1, 0), NO_ROOM);
        kinds(x, 0, 98, "12");
        due("scan(0)", x.scan(0), 1);
        due("place(5, 0)", x.place(5, 0), NOTHING);
    }

    @Sentence(promise = 8, words = "A FILE on a tape is a HEAD, as many data as it tells, and a TAIL, one behind the other.")
    static void halfAFileIsNoneWhateverIsBehindIt() {
        for (int blocks = 1; blocks <= 3; blocks++) {
            TapeVault x = vault(8);
            x.power(1 + blocks);
            due("copy(0), CUT", write(x, 5, 2, 0), CUT);
            kinds(x, 0, blocks, "40");
            due("another file behind the VOID", write(x, 6, 2, 0), blocks + 1);
            due("scan(0)", x.scan(0), 1);
            due("place(5, 0)", x.place(5, 0), NOTHING);
            due("place(6, 0)", x.place(6, 0), blocks + 1);
            TapeVault y = vault(8);
            y.jam(0, blocks);
            due("copy(0), JAM", write(y, 5, 2, 0), JAM);
            y.fix(0);
            due("scan(0), nothing behind the half", y.scan(0), 0);
            due("another file, no VOID between them", write(y, 6, 2, 0), blocks);
            due("scan(0)", y.scan(0), 1);
            due("place(5, 0)", y.place(5, 0), NOTHING);
            due("place(6, 0)", y.place(6, 0), blocks);
        }
    }

    @Sentence(promise = 8, words = "A FILE on a tape is a HEAD, as many data as it tells, and a TAIL, one behind the other.")
    static void halfAFileIsNoneAlsoIfATailIsWhereItsTailWouldBe() {
        TapeVault x = vault(8);
        x.jam(0, 1);
        due("copy(0), JAM behind the HEAD", write(x, 5, 3, 0), JAM);
        x.fix(0);
        due("another file, whose TAIL is at 4", write(x, 6, 2, 0), 1);
        kinds(x, 0, 0, "112230");
        due("scan(0)", x.scan(0), 1);
        due("place(5, 0)", x.place(5, 0), NOTHING);
        TapeVault y = vault(8);
        y.power(1 + 1);
        due("copy(0), CUT behind the HEAD", write(y, 5, 4, 0), CUT);
        due("another file, whose TAIL is at 5", write(y, 6, 2, 0), 2);
        kinds(y, 0, 0, "1412230");
        due("scan(0)", y.scan(0), 1);
        due("place(5, 0)", y.place(5, 0), NOTHING);
    }

    @Sentence(promise = 8, words = "A FILE on a tape is a HEAD, as many data as it tells, and a TAIL, one behind the other.")
    static void theSmallestAndTheLargestFileUpToTheLastPlaceAreFiles() {
        for (int size = 1; size <= 30; size += 29) {
            TapeVault x = vault(8);
            fill(x, 0, 98 - size);
            due("a file up to the last place", write(x, 5, size, 0), 98 - size);
            due("lose(0)", x.lose(0), 2);
            due("scan(0)", x.scan(0), 2);
            due("place(5, 0)", x.place(5, 0), 98 - size);
        }
    }

    @Sentence(promise = 14, words = "THE CATALOGUE has, for a name and a tape, the place of a HEAD.")
    static void theCatalogueHasOnePlaceForANameAndATape() {
        TapeVault x = vault(8, 9);
        due("the first place", write(x, 5, 1, 0), 0);
        due("place(5, 0)", x.place(5, 0), 0);
        fill(x, 0, 97);
        due("the last one for a HEAD", write(x, 5, 1, 0), 97);
        due("place(5, 0), one of two", x.place(5, 0), 97);
        due("place(5, 1)", x.place(5, 1), NOTHING);
        due("the same name on another tape", x.copy(1), 0);
        due("place(5, 0)", x.place(5, 0), 97);
        due("lose(0), two names", x.lose(0), 2);
        due("place(5, 1)", x.place(5, 1), 0);
    }

    @Sentence(promise = 19, words = "THE FOLD is an int: 1 when a reading of a file begins")
    static void theFoldIsOneBeforeTheFirstDatum() {
        TapeVault x = withFile(5, 1, 8);
        fill(x, 0, 10);
        due("a file at 10", write(x, 6, 1, 0), 10);
        due("read(5, 0)", x.read(5, 0), 1);
        due("fold()", x.fold(), 41);
        x.power(1);
        due("read(6, 0), CUT before winding", x.read(6, 0), CUT);
        due("fold()", x.fold(), 1);
        x.read(5, 0);
        x.power(1 + 9);
        due("read(6, 0), CUT in winding", x.read(6, 0), CUT);
        due("fold()", x.fold(), 1);
        x.read(5, 0);
        x.damage(0, 10, 1);
        due("read(6, 0), the HEAD is damaged", x.read(6, 0), DAMAGE);
        due("fold()", x.fold(), 1);
        x.read(5, 0);
        x.jam(0, 0);
        due("read(5, 0), JAM before the HEAD", x.read(5, 0), JAM);
        due("fold()", x.fold(), 1);
    }

    @Sentence(promise = 19, words = "THE FOLD is an int: 1 when a reading of a file begins")
    static void theFoldStaysWhereNoReadingBegins() {
        TapeVault x = withFile(5, 1, 8, 16, 24);
        x.read(5, 0);
        due("read(5, 1)", x.read(5, 1), NOTHING);
        due("read(5, 3)", x.read(5, 3), BAD);
        due("salvage(6)", x.salvage(6), NOTHING);
        due("salvage(1000)", x.salvage(1000), BAD);
        due("fold()", x.fold(), 41);
        x.power(0);
        due("read(5, 0), CUT while it is carried", x.read(5, 0), CUT);
        due("fold()", x.fold(), 41);
        for (int drive = 0; drive < 3; drive++) {
            jamBy(x, drive, drive);
        }
        due("read(5, 0)", x.read(5, 0), NO_DRIVE);
        due("fold()", x.fold(), 41);
    }

    @Sentence(promise = 19, words = "(by read() or a try of salvage(), by nothing else);")
    static void nothingElseBeginsAReading() {
        TapeVault x = withFile(5, 1, 8, 16);
        due("fold(), a copy", x.fold(), 1);
        due("read(5, 0)", x.read(5, 0), 1);
        due("fold(), a read", x.fold(), 41);
        due("scan(0)", x.scan(0), 1);
        due("fold(), a scan", x.fold(), 41);
        due("move(5, 0, 1)", x.move(5, 0, 1), 0);
        due("fold(), a move", x.fold(), 41);
        x.stage(5, 1, -31, 0);
        due("copy(0)", x.copy(0), 3);
        due("fold(), another copy", x.fold(), 41);
        due("salvage(5)", x.salvage(5), 0);
        due("fold(), a salvage", x.fold(), 0);
        x.damage(0, 5, 1);
        due("salvage(5), in two tries", x.salvage(5), 1);
        due("fold(), begun by the second one anew", x.fold(), 41);
    }

    @Sentence(promise = 19, words = "for each datum that is read 31 times it, and the datum.")
    static void theFoldWrapsAndCountsWhatWasRead() {
        TapeVault x = vault(8);
        x.stage(5, 30, MAX, MAX);
        due("copy(0)", x.copy(0), 0);
        int want = 1;
        for (int k = 0; k < 30; k++) {
            want = 31 * want + (MAX + k * MAX);
        }
        due("read(5, 0)", x.read(5, 0), 30);
        due("fold(), wrapped 30 times", x.fold(), want);
        x.stage(6, 2, MAX, 1);
        due("copy(0)", x.copy(0), 32);
        x.damage(0, 34, 1);
        due("read(6, 0), damage at the second datum", x.read(6, 0), DAMAGE);
        due("fold(), of the first one", x.fold(), MIN + 30);
        due("a file whose TAIL will be damaged", write(x, 7, 1, 0), 36);
        x.damage(0, 38, 1);
        due("read(7, 0)", x.read(7, 0), DAMAGE);
        due("fold(), of all data", x.fold(), 41);
    }

    @Sentence(promise = 18, words = "THE CLOCK counts steps of work; CARE counts what is done however things stand.")
    static void careGoesOnWithoutPowerAndTheClockDoesNot() {
        TapeVault x = withFile(5, 1, 0);
        fill(x, 0, 50);
        int[] before = effort(x);
        x.power(0);
        due("scan(0)", x.scan(0), CUT);
        spent(x, before, 0, 0);
        before = effort(x);
        x.power(9 + 50);
        due("scan(0)", x.scan(0), 2);
        spent(x, before, 59, 59);
        due("told(4), care needs no power", x.told(4), 0);
        before = effort(x);
        x.power(9 + 49);
        due("scan(0)", x.scan(0), CUT);
        spent(x, before, 58, 58);
    }

    @Sentence(promise = 13, words = "POWER may be set to last for a number of work steps: "
        + "when none is left, the next work step is not done, but there is a CUT instead")
    static void theLastStepIsDoneAndTheNextOneIsACut() {
        for (int power = 0; power <= 8; power++) {
            // Carried 2 steps; wound 3; three blocks.
            TapeVault x = withFile(5, 1, 9);
            due("a file at 3", write(x, 6, 1, 0), 3);
            int[] before = effort(x);
            due("power(" + power + ")", x.power(power), power);
            due("read(6, 0)", x.read(6, 0), power < 8 ? CUT : 1);
            spent(x, before, power, power);
            due("told(4)", x.told(4), power < 8 ? -1 : 0);
        }
    }

    @Sentence(promise = 13, words = "(and power lasts for ever again).")
    static void behindACutPowerLastsForEver() {
        TapeVault x = withFile(5, 30, 0);
        due("power(0)", x.power(0), 0);
        due("read(5, 0)", x.read(5, 0), CUT);
        due("told(4)", x.told(4), -1);
        for (int k = 0; k < 100; k++) {
            due("read(5, 0)", x.read(5, 0), 30);
        }
        due("told(4)", x.told(4), -1);
        due("no job but the one failed", x.told(3), 1);
    }
}
