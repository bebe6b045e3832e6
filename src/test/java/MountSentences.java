/** The sentences of 'Terms' on mounts, winding, and blocks that are read or written. */
final class MountSentences extends SentenceCase {
    private MountSentences() {
    }

    @Sentence(promise = 4, words = "A MOUNT of a tape: its drive is, of those that are neither jammed nor taken, "
        + "that with the least distance from its home, of several the least one;")
    static void ofTwoDrivesAsNearTheLeastOneIsTaken() {
        int[][] cases = {{11, 0}, {12, 0}, {13, 1}, {19, 1}, {20, 1}, {21, 2}, {0, 0}, {31, 2}};
        for (int[] one : cases) {
            TapeVault x = vault(one[0]);
            x.scan(0);
            for (int drive = 0; drive < 3; drive++) {
                due("from cell " + one[0] + ", uses of drive " + drive, x.driveTold(drive, 0), drive == one[1] ? 1 : 0);
            }
        }
    }

    @Sentence(promise = 4, words = "A MOUNT of a tape: its drive is, of those that are neither jammed nor taken, "
        + "that with the least distance from its home, of several the least one;")
    static void aJammedDriveIsPassedOver() {
        TapeVault x = tapesAtDrives();
        jamBy(x, 1, 1);
        int[] before = effort(x);
        due("drives 0 and 2 are as near", x.scan(1), 0);
        due("uses of drive 0", x.driveTold(0, 0), 1);
        due("uses of drive 2", x.driveTold(2, 0), 0);
        spent(x, before, 9, 9);
        jamBy(x, 0, 0);
        before = effort(x);
        due("drive 2 is left", x.scan(0), 0);
        spent(x, before, 17, 17);
        due("uses of drive 2", x.driveTold(2, 0), 1);
        due("fix(1)", x.fix(1), 1);
        due("drive 1 is there again", x.scan(0), 0);
        due("uses of drive 1", x.driveTold(1, 0), 2);
    }

    @Sentence(promise = 11, words = "A MOUNT of a tape: its drive is, of those that are neither jammed nor taken, "
        + "that with the least distance from its home, of several the least one;")
    static void aDriveThatIsJustSetToJamIsTaken() {
        TapeVault x = vault(8);
        due("jam(0, 0)", x.jam(0, 0), 0);
        due("scan(0), no block", x.scan(0), 0);
        due("uses of drive 0", x.driveTold(0, 0), 1);
        due("not jammed by it", x.driveTold(0, 2), 0);
    }

    @Sentence(promise = 6, words = "A MOUNT of a tape: its drive is, of those that are neither jammed nor taken, "
        + "that with the least distance from its home, of several the least one;")
    static void ofTwoFreeDrivesAsNearTheSecondMountTakesTheLeastOne() {
        TapeVault x = withFile(5, 1, 17, 16);
        int[] before = effort(x);
        due("move(5, 0, 1)", x.move(5, 0, 1), 0);
        due("uses of drive 0", x.driveTold(0, 0), 1);
        due("uses of drive 1", x.driveTold(1, 0), 2);
        due("uses of drive 2", x.driveTold(2, 0), 0);
        spent(x, before, 2 + 9 + 6, 3 + 9 + 3 + 2);
    }

    @Sentence(promise = 4, words = "without one there is no mount, but NO_DRIVE.")
    static void withAllDrivesJammedNothingIsMountedAndNoPowerIsUsed() {
        TapeVault x = withFile(5, 1, 8, 16, 24);
        for (int drive = 0; drive < 3; drive++) {
            jamBy(x, drive, drive);
        }
        due("power(0)", x.power(0), 0);
        int[] before = effort(x);
        due("copy(0)", x.copy(0), NO_DRIVE);
        due("read(5, 0)", x.read(5, 0), NO_DRIVE);
        due("scan(0)", x.scan(0), NO_DRIVE);
        due("move(5, 0, 1)", x.move(5, 0, 1), NO_DRIVE);
        due("salvage(5)", x.salvage(5), NO_DRIVE);
        spent(x, before, 0, 0);
        jobs(x, before, 5, 5);
        due("told(4), no CUT", x.told(4), 0);
        for (int tape = 0; tape < 3; tape++) {
            due("mounts of tape " + tape, x.tapeTold(tape, 2), tape == 0 ? 2 : 1);
        }
        due("place(5, 0)", x.place(5, 0), 0);
        due("fix(2)", x.fix(2), 1);
        x.power(-1);
        due("read(5, 0) by drive 2", x.read(5, 0), 1);
    }

    @Sentence(promise = 6, words = "without one there is no mount, but NO_DRIVE.")
    static void withOneDriveASecondMountFindsNone() {
        TapeVault x = withFile(5, 1, 8, 16, 24);
        jamBy(x, 1, 1);
        jamBy(x, 2, 2);
        int[] before = effort(x);
        due("move(5, 0, 1)", x.move(5, 0, 1), NO_DRIVE);
        spent(x, before, 1, 1);
        jobs(x, before, 1, 1);
        due("the first was mounted", x.tapeTold(0, 2), 2);
        due("it was not wound", x.tapeTold(0, 3), 3);
        due("the second was not mounted", x.tapeTold(1, 2), 1);
        due("place(5, 0)", x.place(5, 0), 0);
        due("place(5, 1)", x.place(5, 1), NOTHING);
        due("the drive is free again", x.read(5, 0), 1);
    }

    @Sentence(promise = 6, words = "The drive is taken;")
    static void theSecondMountTakesAnotherDrive() {
        TapeVault x = withFile(5, 1, 8, 9);
        int[] before = effort(x);
        due("move(5, 0, 1), both nearest to drive 0", x.move(5, 0, 1), 0);
        due("uses of drive 0", x.driveTold(0, 0), 2);
        due("uses of drive 1", x.driveTold(1, 0), 1);
        spent(x, before, 1 + 8 + 6, 3 + 8 + 3 + 1);
        due("move(5, 1, 0)", x.move(5, 1, 0), 3);
        due("uses of drive 0", x.driveTold(0, 0), 3);
        due("uses of drive 1", x.driveTold(1, 0), 2);
    }

    @Sentence(promise = 4, words = "the tape is CARRIED: as many work steps as the distance;")
    static void aCutAtEachStepOfTheWay() {
        for (int power = 0; power <= 6; power++) {
            TapeVault x = vault(3);
            x.power(power);
            due("scan(0), power " + power, x.scan(0), power < 6 ? CUT : 0);
            due("told(0)", x.told(0), power);
            due("told(4)", x.told(4), power < 6 ? -1 : 0);
        }
    }

    @Sentence(promise = 4, words = "then the drive's USES and the tape's MOUNTS are one more, and the tape stands at place 0.")
    static void usesAndMountsCountOnceItIsCarriedAllTheWay() {
        for (int power = 5; power <= 6; power++) {
            TapeVault x = withFile(5, 1, 3);
            int carried = power == 6 ? 1 : 0;
            x.power(power);
            due("copy(0), power " + power, x.copy(0), CUT);
            due("uses", x.driveTold(0, 0), 1 + carried);
            due("mounts", x.tapeTold(0, 2), 1 + carried);
            due("wear, it stood at place 0", x.tapeTold(0, 3), 3);
            due("told(1)", x.told(1), 6 + 3 + power);
        }
    }

    @Sentence(promise = 16, words = "then the drive's USES and the tape's MOUNTS are one more, and the tape stands at place 0.")
    static void eachMountBeginsAtPlaceNone() {
        TapeVault x = withFile(5, 1, 8);
        due("read(5, 0)", x.read(5, 0), 1);
        due("read(5, 0), from 0 again", x.read(5, 0), 1);
        due("told(0), not wound", x.told(0), 3 * 4);
        due("wear", x.tapeTold(0, 3), 3 * 3);
        due("mounts", x.tapeTold(0, 2), 3);
        due("uses", x.driveTold(0, 0), 3);
    }

    @Sentence(promise = 4, words = "At the mount's end, whatever ends it: if the tape stood in the drive, "
        + "it is wound back, by as many care steps as the place at which it stands")
    static void itIsWoundBackFromTheFirstAndFromTheLastPlace() {
        TapeVault x = withFile(5, 1, 8);
        int[] before = effort(x);
        x.power(1);
        due("copy(0), CUT at place 0", x.copy(0), CUT);
        spent(x, before, 1, 1);
        fill(x, 0, 100);
        before = effort(x);
        due("scan(0), up to behind the last place", x.scan(0), 2);
        spent(x, before, 101, 101);
        before = effort(x);
        due("copy(0), NO_ROOM there", x.copy(0), NO_ROOM);
        spent(x, before, 101, 101);
        before = effort(x);
        x.damage(0, 0, 1);
        due("read(5, 0), DAMAGE at place 0", x.read(5, 0), DAMAGE);
        spent(x, before, 2, 2);
        before = effort(x);
        x.power(0);
        due("scan(0), CUT while it is carried", x.scan(0), CUT);
        spent(x, before, 0, 0);
    }

    @Sentence(promise = 11, words = "(three times as many, if the drive is jammed),")
    static void aJammedDriveWindsBackThreeTimesAsSlowly() {
        for (int blocks = 0; blocks <= 3; blocks++) {
            TapeVault x = withFile(5, 1, 8);
            int[] before = effort(x);
            x.jam(0, blocks);
            due("read(5, 0), jam after " + blocks, x.read(5, 0), blocks < 3 ? JAM : 1);
            spent(x, before, 1 + blocks, blocks * (blocks < 3 ? 3 : 1) + 1);
        }
        TapeVault y = vault(8);
        fill(y, 0, 99);
        int[] before = effort(y);
        y.jam(0, 0);
        due("copy(0), JAM at the last place", y.copy(0), JAM);
        spent(y, before, 1 + 99, 3 * 99 + 1);
    }

    @Sentence(promise = 6, words = "(three times as many, if the drive is jammed),")
    static void ofTwoDrivesTheJammedOneAloneIsSlow() {
        TapeVault x = withFile(5, 2, 8, 16);
        int[] before = effort(x);
        x.jam(0, 3);
        due("move(5, 0, 1), the first one jams", x.move(5, 0, 1), JAM);
        // Three blocks are there and here, then a VOID here.
        spent(x, before, 2 + 6, 3 * 3 + 4 + 1 + 2);
        TapeVault y = withFile(5, 2, 8, 16);
        before = effort(y);
        y.jam(1, 2);
        due("move(5, 0, 1), the second one jams", y.move(5, 0, 1), JAM);
        spent(y, before, 2 + 5, 3 + 3 * 2 + 2);
    }

    @Sentence(promise = 16, words = "and its WEAR is more by that place;")
    static void wearIsNotThreefoldAndNoneFromPlaceNone() {
        TapeVault x = withFile(5, 2, 8);
        due("wear", x.tapeTold(0, 3), 4);
        x.jam(0, 3);
        due("read(5, 0)", x.read(5, 0), JAM);
        due("wear, by a jammed drive", x.tapeTold(0, 3), 4 + 3);
        x.power(2);
        due("read(5, 0), CUT on the way", x.read(5, 0), CUT);
        due("wear", x.tapeTold(0, 3), 7);
        x.power(9);
        due("read(5, 0), CUT at place 0", x.read(5, 0), CUT);
        due("wear", x.tapeTold(0, 3), 7);
        fill(x, 0, 100);
        int wear = x.tapeTold(0, 3);
        due("scan(0)", x.scan(0), 2);
        due("wear, from behind the last place", x.tapeTold(0, 3), wear + 100);
    }

    @Sentence(promise = 4, words = "then it is carried home, by as many care steps as it was carried work steps;")
    static void itIsCarriedHomeFromWhereItCame() {
        for (int power = 0; power <= 9; power++) {
            TapeVault x = vault(0);
            x.power(power);
            due("scan(0), power " + power, x.scan(0), power < 9 ? CUT : 0);
            due("told(1)", x.told(1), power);
        }
        TapeVault y = withFile(5, 1, 0, 31);
        int[] before = effort(y);
        y.power(9 + 4);
        due("move(5, 0, 1), CUT while the second is carried", y.move(5, 0, 1), CUT);
        spent(y, before, 13, 13);
        due("the first was mounted", y.tapeTold(0, 2), 2);
        due("the second was not", y.tapeTold(1, 2), 0);
    }

    @Sentence(promise = 4, words = "and the drive is taken no more.")
    static void behindEachFailureTheDriveIsFree() {
        TapeVault x = withFile(5, 1, 8, 16);
        x.power(0);
        due("read(5, 0)", x.read(5, 0), CUT);
        due("uses of drive 0", x.driveTold(0, 0), 1);
        x.power(1);
        due("read(5, 0)", x.read(5, 0), CUT);
        due("uses of drive 0", x.driveTold(0, 0), 2);
        x.damage(0, 1, 1);
        due("read(5, 0)", x.read(5, 0), DAMAGE);
        due("uses of drive 0", x.driveTold(0, 0), 3);
        x.jam(0, 0);
        due("read(5, 0)", x.read(5, 0), JAM);
        due("fix(0)", x.fix(0), 1);
        due("move(5, 0, 1)", x.move(5, 0, 1), DAMAGE);
        due("uses of drive 0", x.driveTold(0, 0), 5);
        due("uses of drive 1", x.driveTold(1, 0), 1);
        fill(x, 0, 100);
        int uses = x.driveTold(0, 0);
        due("copy(0)", x.copy(0), NO_ROOM);
        due("scan(0)", x.scan(0), 1);
        due("uses of drive 0", x.driveTold(0, 0), uses + 2);
        due("copy(1)", x.copy(1), 2);
        due("uses of drive 1", x.driveTold(1, 0), 2);
    }

    @Sentence(promise = 6, words = "and whatever fails on the way, each tape is wound back and brought home, each drive is set free,")
    static void aMoveThatIsCutAtAnyStepLeavesBothDrivesFree() {
        // Carried 2 and 7 steps, wound 3 and 4, two times 3 blocks.
        for (int power = 0; power <= 22; power++) {
            TapeVault x = withFile(5, 1, 9, 10);
            due("a file at 3", write(x, 6, 1, 0), 3);
            due("four blocks here", write(x, 7, 2, 1), 0);
            int[] before = effort(x);
            x.power(power);
            due("move(6, 0, 1), power " + power, x.move(6, 0, 1), power < 22 ? CUT : 4);
            int written = power < 16 ? 0 : (power - 16) / 2;
            int closed = written > 0 && written < 3 ? 1 : 0;
            spent(x, before, power, power + 2 * closed);
            due("the end there", x.tapeTold(0, 1), 6);
            due("the end here", x.tapeTold(1, 1), 4 + written + closed);
            x.power(-1);
            int first = x.driveTold(0, 0);
            int second = x.driveTold(1, 0);
            due("move(5, 0, 1)", x.move(5, 0, 1), 4 + written + closed);
            due("uses of drive 0", x.driveTold(0, 0), first + 1);
            due("uses of drive 1", x.driveTold(1, 0), second + 1);
        }
    }

    @Sentence(promise = 5, words = "WINDING to a place: a work step for each place on the way; it stands there as far as it came.")
    static void itIsWoundAsFarAsPowerLasts() {
        TapeVault x = withFile(5, 1, 8);
        due("a file at 3", write(x, 6, 1, 0), 3);
        int[] before = effort(x);
        due("read(5, 0), to place 0", x.read(5, 0), 1);
        spent(x, before, 1 + 3, 3 + 1);
        for (int wound = 0; wound <= 3; wound++) {
            before = effort(x);
            int wear = x.tapeTold(0, 3);
            x.power(1 + wound);
            due("read(6, 0), CUT when wound " + wound, x.read(6, 0), CUT);
            spent(x, before, 1 + wound, wound + 1);
            due("wear", x.tapeTold(0, 3), wear + wound);
        }
        fill(x, 0, 97);
        due("the last place to wind to", write(x, 7, 1, 0), 97);
        before = effort(x);
        due("read(7, 0)", x.read(7, 0), 1);
        spent(x, before, 1 + 97 + 3, 100 + 1);
    }

    @Sentence(promise = 5, words = "WINDING to a place: a work step for each place on the way; it stands there as far as it came.")
    static void windingReadsNoBlocks() {
        TapeVault x = withFile(5, 30, 8);
        due("a file behind", write(x, 6, 1, 0), 32);
        x.damage(0, 0, 32);
        int blocks = x.driveTold(0, 1);
        x.jam(0, 3);
        due("read(6, 0), over damaged places", x.read(6, 0), 1);
        due("blocks of drive 0", x.driveTold(0, 1), blocks + 3);
        due("not jammed", x.driveTold(0, 2), 0);
    }

    @Sentence(promise = 8, words = "A BLOCK is read, or written, at the place where the tape stands:")
    static void theFirstAndTheLastPlaceAreReadAndWritten() {
        TapeVault x = vault(8);
        fill(x, 0, 97);
        x.stage(5, 1, 77, 0);
        due("copy(0)", x.copy(0), 97);
        due("block(0, 98, 1)", x.block(0, 98, 1), 77);
        due("read(5, 0)", x.read(5, 0), 1);
        due("fold()", x.fold(), 31 + 77);
        x.damage(0, 99, 1);
        due("read(5, 0), damage at the last place", x.read(5, 0), DAMAGE);
        TapeVault y = withFile(6, 1, 8);
        y.damage(0, 0, 1);
        due("read(6, 0), damage at the first place", y.read(6, 0), DAMAGE);
        due("scan(0)", y.scan(0), 0);
    }

    @Sentence(promise = 4, words = "to write, there must be a place, or there is NO_ROOM;")
    static void behindTheLastPlaceThereIsNoRoom() {
        for (int end = 97; end <= 100; end++) {
            TapeVault x = vault(8);
            fill(x, 0, end);
            due("a file of three blocks at " + end, write(x, 5, 1, 0), end == 97 ? 97 : NO_ROOM);
            due("tapeTold(0, 1)", x.tapeTold(0, 1), 100);
            due("place(5, 0)", x.place(5, 0), end == 97 ? 97 : NOTHING);
        }
    }

    @Sentence(promise = 4, words = "to write, there must be a place, or there is NO_ROOM;")
    static void noRoomIsAnsweredBeforeAJamAndACut() {
        TapeVault x = vault(8);
        fill(x, 0, 100);
        x.stage(5, 1, 0, 0);
        x.jam(0, 0);
        x.power(1 + 100);
        due("copy(0)", x.copy(0), NO_ROOM);
        due("not jammed", x.driveTold(0, 2), 0);
        due("told(4)", x.told(4), 0);
        due("fix(0)", x.fix(0), 0);
    }

    @Sentence(promise = 8, words = "to write, there must be a place, or there is NO_ROOM;")
    static void toReadThereNeedsToBeNoPlaceBehind() {
        TapeVault x = vault(8);
        fill(x, 0, 97);
        due("a file up to the last place", write(x, 5, 1, 0), 97);
        due("read(5, 0)", x.read(5, 0), 1);
        due("scan(0)", x.scan(0), 2);
        x.tape(16);
        due("move(5, 0, 1)", x.move(5, 0, 1), 0);
    }

    @Sentence(promise = 11, words = "a drive that was set to jam, and has done that many blocks since, jams, and there is a JAM;")
    static void theBlockBehindTheLastOneJams() {
        for (int blocks = 0; blocks <= 3; blocks++) {
            TapeVault x = vault(8);
            x.jam(0, blocks);
            due("copy(0), jam after " + blocks, write(x, 5, 1, 0), blocks < 3 ? JAM : 0);
            due("blocks", x.driveTold(0, 1), blocks);
            due("told(0)", x.told(0), 1 + blocks);
            due("jammed", x.driveTold(0, 2), blocks < 3 ? 1 : 0);
        }
        TapeVault y = withFile(5, 1, 8);
        y.jam(0, 4);
        due("read(5, 0), three blocks of four", y.read(5, 0), 1);
        due("read(5, 0), over two jobs", y.read(5, 0), JAM);
        due("blocks", y.driveTold(0, 1), 3 + 4);
    }

    @Sentence(promise = 11, words = "a drive that was set to jam, and has done that many blocks since, jams, and there is a JAM;")
    static void aJamIsAnsweredBeforeACut() {
        TapeVault x = withFile(5, 1, 8);
        x.jam(0, 2);
        x.power(1 + 2);
        due("read(5, 0)", x.read(5, 0), JAM);
        due("told(4)", x.told(4), 0);
        due("fix(0)", x.fix(0), 1);
        due("read(5, 0)", x.read(5, 0), CUT);
    }

    @Sentence(promise = 11, words = "a drive that was set to jam, and has done that many blocks since, jams, and there is a JAM;")
    static void aBlockThatIsCutIsNotDone() {
        TapeVault x = withFile(5, 1, 8);
        x.jam(0, 3);
        x.power(1);
        due("read(5, 0), CUT before the HEAD", x.read(5, 0), CUT);
        due("read(5, 0), all three blocks are left", x.read(5, 0), 1);
        due("read(5, 0)", x.read(5, 0), JAM);
    }

    @Sentence(promise = 11, words = "A drive may be set to JAM after a number of blocks.")
    static void eachDriveCountsItsOwnBlocks() {
        TapeVault x = withFile(5, 1, 8, 16);
        x.jam(1, 2);
        x.jam(0, 3);
        due("move(5, 0, 1), the second one jams first", x.move(5, 0, 1), JAM);
        due("drive 0", x.driveTold(0, 2), 0);
        due("drive 1", x.driveTold(1, 2), 1);
        due("drive 2", x.driveTold(2, 2), 0);
        due("blocks of drive 0", x.driveTold(0, 1), 3 + 3);
        due("blocks of drive 1", x.driveTold(1, 1), 2);
        due("read(5, 0), drive 0 had done three", x.read(5, 0), JAM);
        due("drive 0", x.driveTold(0, 2), 1);
        due("no block more", x.driveTold(0, 1), 3 + 3);
        TapeVault y = withFile(5, 1, 8, 16);
        y.jam(1, 3);
        y.jam(0, 3);
        due("move(5, 0, 1), just as many blocks", y.move(5, 0, 1), 0);
        due("drive 0", y.driveTold(0, 2), 0);
        due("drive 1", y.driveTold(1, 2), 0);
    }

    @Sentence(promise = 18, words = "it is one work step;")
    static void aBlockIsOneStepAndNoneWhereItIsNotDone() {
        TapeVault x = withFile(5, 1, 8);
        int[] before = effort(x);
        due("read(5, 0), three blocks", x.read(5, 0), 1);
        spent(x, before, 1 + 3, 3 + 1);
        before = effort(x);
        x.jam(0, 0);
        due("read(5, 0), a jam is no step", x.read(5, 0), JAM);
        spent(x, before, 1, 1);
        x.fix(0);
        before = effort(x);
        x.damage(0, 1, 1);
        due("read(5, 0), a damaged block is one", x.read(5, 0), DAMAGE);
        spent(x, before, 1 + 2, 2 + 1);
        fill(x, 0, 100);
        before = effort(x);
        due("copy(0), no room is no step", x.copy(0), NO_ROOM);
        spent(x, before, 1 + 100, 100 + 1);
    }

    @Sentence(promise = 17, words = "the drive's BLOCKS are one more, and the tape stands at the next place.")
    static void onlyABlockThatIsDoneIsCountedAndPassed() {
        TapeVault x = withFile(5, 1, 8);
        due("three are written", x.driveTold(0, 1), 3);
        x.power(1 + 2);
        due("read(5, 0), CUT at the third", x.read(5, 0), CUT);
        due("blocks", x.driveTold(0, 1), 3 + 2);
        due("wear", x.tapeTold(0, 3), 3 + 2);
        x.jam(0, 1);
        due("read(5, 0), JAM at the second", x.read(5, 0), JAM);
        due("blocks", x.driveTold(0, 1), 5 + 1);
        due("wear", x.tapeTold(0, 3), 5 + 1);
        x.fix(0);
        x.damage(0, 0, 1);
        due("read(5, 0), DAMAGE at the first", x.read(5, 0), DAMAGE);
        due("blocks, it was done", x.driveTold(0, 1), 6 + 1);
        due("wear, it was passed", x.tapeTold(0, 3), 6 + 1);
        fill(x, 0, 100);
        int blocks = x.driveTold(0, 1);
        due("copy(0), NO_ROOM", x.copy(0), NO_ROOM);
        due("blocks", x.driveTold(0, 1), blocks);
    }

    @Sentence(promise = 5, words = "A block that is read at a damaged place is DAMAGE instead (behind all this).")
    static void aJamAndACutAreAnsweredBeforeDamage() {
        TapeVault x = withFile(5, 1, 8);
        x.damage(0, 1, 1);
        x.power(1 + 1);
        due("read(5, 0), CUT", x.read(5, 0), CUT);
        x.jam(0, 1);
        due("read(5, 0), JAM", x.read(5, 0), JAM);
        x.fix(0);
        x.power(1 + 2);
        due("read(5, 0), with just as much power", x.read(5, 0), DAMAGE);
        due("told(4)", x.told(4), 0);
        x.power(-1);
        x.jam(0, 2);
        due("read(5, 0), with just as many blocks", x.read(5, 0), DAMAGE);
        due("not jammed", x.driveTold(0, 2), 0);
    }

    @Sentence(promise = 4, words = "A block that is read at a damaged place is DAMAGE instead (behind all this).")
    static void aBlockIsWrittenAtADamagedPlace() {
        TapeVault x = vault(8, 16);
        x.damage(0, 0, 100);
        due("copy(0)", write(x, 5, 1, 0), 0);
        due("place(5, 0)", x.place(5, 0), 0);
        due("copy(1)", x.copy(1), 0);
        due("move(5, 1, 0)", x.move(5, 1, 0), 3);
        due("place(5, 0)", x.place(5, 0), 3);
        kinds(x, 0, 0, "1231230");
    }
}
