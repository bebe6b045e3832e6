/** The sentences of 'Terms' on writing and reading a file and on jobs, and those of the constants. */
final class WritingSentences extends SentenceCase {
    private WritingSentences() {
    }

    @Sentence(promise = 4, words = "WRITING a file: wind to the end; a HEAD, the data, a TAIL.")
    static void theSmallestAndTheLargestFileAreWrittenAtTheEnd() {
        TapeVault x = vault(8);
        int[] before = effort(x);
        due("the smallest file, on an empty tape", write(x, 5, 1, 0), 0);
        spent(x, before, 1 + 3, 3 + 1);
        kinds(x, 0, 0, "1230");
        before = effort(x);
        due("the largest one, behind it", write(x, 6, 30, 0), 3);
        spent(x, before, 1 + 3 + 32, 35 + 1);
        due("the HEAD", x.block(0, 3, 0), 1);
        for (int k = 0; k < 30; k++) {
            due("datum " + k, x.block(0, 4 + k, 0), 2);
            due("it is", x.block(0, 4 + k, 1), 10 + k);
        }
        kinds(x, 0, 34, "30");
    }

    @Sentence(promise = 4, words = "If it ends in between, behind the HEAD: one care step and a VOID at the end")
    static void beforeTheHeadThereIsNoVoidAndBehindItThereIs() {
        for (int written = 0; written <= 4; written++) {
            TapeVault x = vault(8);
            x.power(1 + written);
            due("copy(0), CUT behind " + written, write(x, 5, 2, 0), written < 4 ? CUT : 0);
            kinds(x, 0, 0, new String[] {"00000", "14000", "12400", "12240", "12230"}[written]);
            int closed = written > 0 && written < 4 ? 1 : 0;
            due("the end", x.tapeTold(0, 1), written + closed);
            due("told(1)", x.told(1), closed + written + closed + 1);
            due("told(0)", x.told(0), 1 + written);
        }
    }

    @Sentence(promise = 4, words = "If it ends in between, behind the HEAD: one care step and a VOID at the end")
    static void aCutInWindingLeavesNoVoidBehindOtherFiles() {
        for (int power = 0; power <= 1 + 3; power++) {
            TapeVault x = withFile(5, 1, 8);
            x.power(power);
            due("copy(0), power " + power, x.copy(0), CUT);
            kinds(x, 0, 0, "1230");
            due("told(1)", x.told(1), 4 + power);
        }
    }

    @Sentence(promise = 4, words = "(no block of the drive's BLOCKS, nor of those up to a jam),")
    static void theVoidIsNoBlockOfTheDrive() {
        TapeVault x = vault(8);
        x.jam(0, 3);
        x.power(1 + 2);
        due("copy(0), CUT one block before the jam", write(x, 5, 2, 0), CUT);
        kinds(x, 0, 0, "1240");
        due("blocks", x.driveTold(0, 1), 2);
        due("not jammed by the VOID", x.driveTold(0, 2), 0);
        due("copy(0), one more block, then the jam", x.copy(0), JAM);
        kinds(x, 0, 0, "12410");
        due("blocks", x.driveTold(0, 1), 3);
    }

    @Sentence(promise = 4, words = "if there is a place,")
    static void theLastPlaceIsOneForAVoidAndBehindItThereIsNone() {
        TapeVault x = vault(8);
        fill(x, 0, 96);
        int[] before = effort(x);
        x.power(1 + 96 + 3);
        due("copy(0), CUT before the last place", write(x, 5, 3, 0), CUT);
        kinds(x, 0, 96, "1224");
        spent(x, before, 100, 1 + 100 + 1);
        TapeVault y = vault(8);
        fill(y, 0, 96);
        before = effort(y);
        y.power(1 + 96 + 4);
        due("copy(0), NO_ROOM behind the last place", write(y, 5, 3, 0), NO_ROOM);
        kinds(y, 0, 96, "1222");
        spent(y, before, 101, 100 + 1);
        due("the end", y.tapeTold(0, 1), 100);
    }

    @Sentence(promise = 4, words = "and the drive is not jammed")
    static void aJammedDriveWritesNoVoid() {
        for (int written = 0; written <= 3; written++) {
            TapeVault x = vault(8);
            x.jam(0, written);
            due("copy(0), JAM behind " + written, write(x, 5, 2, 0), JAM);
            kinds(x, 0, 0, new String[] {"0000", "1000", "1200", "1220"}[written]);
            due("the end", x.tapeTold(0, 1), written);
            due("told(1), no step for a VOID", x.told(1), 3 * written + 1);
        }
    }

    @Sentence(promise = 6, words = "and the drive is not jammed")
    static void aVoidIsWrittenHereIfTheDriveThereIsJammed() {
        for (int read = 0; read <= 3; read++) {
            TapeVault x = withFile(5, 2, 8, 16);
            x.jam(0, read);
            due("move(5, 0, 1), JAM there behind " + read, x.move(5, 0, 1), JAM);
            kinds(x, 1, 0, new String[] {"0000", "1400", "1240", "1224"}[read]);
            due("blocks of drive 1", x.driveTold(1, 1), read);
        }
    }

    @Sentence(promise = 4, words = "and what was half written is closed, where there is a place and the drive is not jammed.")
    static void whatIsClosedIsNoFileAndTheNextOneStandsBehindIt() {
        TapeVault x = vault(8);
        x.power(1 + 1);
        due("copy(0), CUT", write(x, 5, 1, 0), CUT);
        due("copy(0), behind the VOID", x.copy(0), 2);
        due("read(5, 0)", x.read(5, 0), 1);
        x.jam(0, 1);
        due("copy(0), JAM", x.copy(0), JAM);
        due("copy(0), behind the HEAD without a VOID", x.copy(0), 6);
        kinds(x, 0, 0, "1412311230");
    }

    @Sentence(promise = 16, words = "before the mount's end; the tape stands behind it then).")
    static void theVoidIsWoundBackToo() {
        TapeVault x = vault(8);
        x.power(1 + 1);
        due("copy(0), CUT behind the HEAD", write(x, 5, 1, 0), CUT);
        due("wear, of HEAD and VOID", x.tapeTold(0, 3), 2);
        due("told(1), a VOID, two places, one step home", x.told(1), 1 + 2 + 1);
        TapeVault y = withFile(5, 1, 8, 16);
        y.damage(0, 1, 1);
        due("move(5, 0, 1), DAMAGE behind the HEAD", y.move(5, 0, 1), DAMAGE);
        due("wear of the tape there", y.tapeTold(0, 3), 3 + 2);
        due("wear of the tape here", y.tapeTold(1, 3), 2);
    }

    @Sentence(promise = 14, words = "With the TAIL the catalogue has the file's place.")
    static void withoutTheTailTheCatalogueHasTheOldPlace() {
        for (int written = 0; written <= 3; written++) {
            TapeVault x = withFile(5, 1, 8);
            x.power(1 + 3 + written);
            due("copy(0), " + written + " blocks", x.copy(0), written < 3 ? CUT : 3);
            due("place(5, 0)", x.place(5, 0), written < 3 ? 0 : 3);
            due("another name, " + written + " blocks", cutFile(x, 6, written), written < 3 ? CUT : 6);
            due("place(6, 0)", x.place(6, 0), written < 3 ? NOTHING : 6);
        }
    }

    private static int cutFile(TapeVault x, int name, int written) {
        x.stage(name, 1, 0, 0);
        x.power(1 + x.tapeTold(0, 1) + written);
        return x.copy(0);
    }

    @Sentence(promise = 5, words = "READING a file: wind to its HEAD; HEAD, data, TAIL are read.")
    static void damageIsMetFromTheHeadToTheTailAndNotBesides() {
        for (int at = 2; at <= 8; at++) {
            TapeVault x = withFile(4, 1, 8);
            due("the file that is read", write(x, 5, 3, 0), 3);
            due("a file behind it", write(x, 6, 1, 0), 8);
            x.damage(0, at, 1);
            boolean met = at >= 3 && at <= 7;
            due("read(5, 0), damage at " + at, x.read(5, 0), met ? DAMAGE : 3);
            due("blocks", x.driveTold(0, 1), 11 + (met ? at - 2 : 5));
        }
    }

    @Sentence(promise = 18, words = "A JOB is copy(), read(), move(), scan(), or each try of salvage(), once it is not BAD or NOTHING;")
    static void whatIsBadOrNothingIsNoJob() {
        TapeVault x = vault(8, 16);
        due("copy(0)", x.copy(0), NOTHING);
        due("copy(2)", x.copy(2), BAD);
        due("read(5, 0)", x.read(5, 0), NOTHING);
        due("read(1000, 0)", x.read(1000, 0), BAD);
        due("move(5, 0, 1)", x.move(5, 0, 1), NOTHING);
        due("move(5, 0, 0)", x.move(5, 0, 0), BAD);
        due("salvage(5)", x.salvage(5), NOTHING);
        due("salvage(-1)", x.salvage(-1), BAD);
        due("scan(-1)", x.scan(-1), BAD);
        x.stage(5, 1, 0, 0);
        x.damage(0, 99, 1);
        x.lose(0);
        due("told(2)", x.told(2), 0);
        due("told(3)", x.told(3), 0);
        due("copy(0)", x.copy(0), 0);
        due("read(5, 0)", x.read(5, 0), 1);
        due("move(5, 0, 1)", x.move(5, 0, 1), 0);
        due("scan(1)", x.scan(1), 1);
        due("told(2)", x.told(2), 4);
        due("scan(0)", x.scan(0), 1);
        due("salvage(5), one try", x.salvage(5), 0);
        due("told(2)", x.told(2), 6);
        x.damage(0, 0, 1);
        due("salvage(5), two tries", x.salvage(5), 1);
        due("told(2)", x.told(2), 8);
        due("told(3)", x.told(3), 1);
    }

    @Sentence(promise = 18, words = "one that does not come to its end has FAILED, and is answered by NO_DRIVE, CUT, JAM, NO_ROOM or DAMAGE.")
    static void eachWayToFailIsCounted() {
        TapeVault x = withFile(5, 1, 8, 16, 24);
        due("told(3)", x.told(3), 0);
        x.power(0);
        due("copy(0)", x.copy(0), CUT);
        due("told(3)", x.told(3), 1);
        x.damage(0, 2, 1);
        due("read(5, 0)", x.read(5, 0), DAMAGE);
        due("told(3)", x.told(3), 2);
        due("move(5, 0, 1)", x.move(5, 0, 1), DAMAGE);
        due("told(3)", x.told(3), 3);
        due("salvage(5)", x.salvage(5), DAMAGE);
        due("told(3)", x.told(3), 4);
        due("scan(0), damage is no failure here", x.scan(0), 0);
        due("told(3)", x.told(3), 4);
        fill(x, 0, 100);
        due("copy(0)", x.copy(0), NO_ROOM);
        due("told(3)", x.told(3), 5);
        for (int drive = 0; drive < 3; drive++) {
            x.jam(drive, 0);
        }
        due("scan(0)", x.scan(0), JAM);
        due("scan(0)", x.scan(0), JAM);
        due("scan(0)", x.scan(0), JAM);
        due("told(3)", x.told(3), 8);
        due("scan(0)", x.scan(0), NO_DRIVE);
        due("told(3)", x.told(3), 9);
    }

    @Sentence(promise = 14, words = "What was done until then stays; the catalogue changes only as told.")
    static void failuresLeaveTheCatalogueAndWhatWasWritten() {
        TapeVault x = withFile(5, 2, 8, 16);
        due("the file on the other tape", x.copy(1), 0);
        x.damage(0, 2, 1);
        due("read(5, 0)", x.read(5, 0), DAMAGE);
        due("place(5, 0)", x.place(5, 0), 0);
        due("move(5, 0, 1)", x.move(5, 0, 1), DAMAGE);
        kinds(x, 1, 4, "1240");
        due("place(5, 0)", x.place(5, 0), 0);
        due("place(5, 1)", x.place(5, 1), 0);
        due("salvage(5)", x.salvage(5), 1);
        due("place(5, 0)", x.place(5, 0), 0);
        x.power(1);
        due("scan(0)", x.scan(0), CUT);
        due("place(5, 0)", x.place(5, 0), 0);
        x.jam(0, 3);
        due("scan(0)", x.scan(0), JAM);
        due("place(5, 0)", x.place(5, 0), 0);
        x.fix(0);
        due("scan(0) to its end", x.scan(0), 0);
        due("place(5, 0)", x.place(5, 0), NOTHING);
        due("place(5, 1)", x.place(5, 1), 0);
    }

    @Sentence(promise = 4, words = "The constants: `BAD = -1, NOTHING = -2, NO_DRIVE = -3, CUT = -4, JAM = -5, NO_ROOM = -6, DAMAGE = -7`: "
        + "An argument is wrong; there is no such file, or nothing on the stage; and why a job failed.")
    static void theConstantsAreWhatIsAnswered() {
        TapeVault x = vault(8, 16, 24);
        due("BAD", x.copy(3), TapeVault.BAD);
        due("NOTHING on the stage", x.copy(0), TapeVault.NOTHING);
        due("NOTHING of a name", x.read(5, 0), TapeVault.NOTHING);
        fill(x, 0, 99);
        due("NO_ROOM", x.copy(0), TapeVault.NO_ROOM);
        x.damage(0, 0, 100);
        due("DAMAGE", x.read(FILLER, 0), TapeVault.DAMAGE);
        x.power(0);
        due("CUT", x.scan(0), TapeVault.CUT);
        for (int drive = 0; drive < 3; drive++) {
            x.jam(drive, 0);
            due("JAM", x.scan(0), TapeVault.JAM);
        }
        due("NO_DRIVE", x.scan(0), TapeVault.NO_DRIVE);
        due("BAD", TapeVault.BAD, BAD);
        due("NOTHING", TapeVault.NOTHING, NOTHING);
        due("NO_DRIVE", TapeVault.NO_DRIVE, NO_DRIVE);
        due("CUT", TapeVault.CUT, CUT);
        due("JAM", TapeVault.JAM, JAM);
        due("NO_ROOM", TapeVault.NO_ROOM, NO_ROOM);
        due("DAMAGE", TapeVault.DAMAGE, DAMAGE);
    }

    @Sentence(promise = 15, words = "`HEAD = 1, DATUM = 2, TAIL = 3, VOID = 4`: Kinds of blocks.")
    static void theKindsAreWhatBlockAnswers() {
        TapeVault x = withFile(5, 1, 8);
        x.power(1 + 3 + 1);
        due("copy(0)", x.copy(0), CUT);
        int[] kinds = {TapeVault.HEAD, TapeVault.DATUM, TapeVault.TAIL, TapeVault.HEAD, TapeVault.VOID, 0};
        for (int at = 0; at < kinds.length; at++) {
            due("block(0, " + at + ", 0)", x.block(0, at, 0), kinds[at]);
        }
        due("HEAD", TapeVault.HEAD, 1);
        due("DATUM", TapeVault.DATUM, 2);
        due("TAIL", TapeVault.TAIL, 3);
        due("VOID", TapeVault.VOID, 4);
    }
}
