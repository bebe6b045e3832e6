import java.util.function.IntSupplier;

/** The sentences of promises 9 to 19. */
final class AnswerSentences extends SentenceCase {
    private AnswerSentences() {
    }

    @Sentence(promise = 9, words = "The catalogue has nothing of a tape any more: how much it had.")
    static void noneOneAndAsManyAsATapeCanHaveAreLost() {
        TapeVault x = vault(8, 16);
        due("lose(0), an empty tape", x.lose(0), 0);
        due("a file on the other one", write(x, 0, 1, 1), 0);
        due("lose(0)", x.lose(0), 0);
        for (int name = 0; name < 33; name++) {
            due("a file " + name, write(x, name, 1, 0), 3 * name);
        }
        int[] before = effort(x);
        due("lose(0)", x.lose(0), 33);
        due("lose(0), again", x.lose(0), 0);
        spent(x, before, 0, 0);
        jobs(x, before, 0, 0);
        for (int name = 0; name < 33; name++) {
            due("place(" + name + ", 0)", x.place(name, 0), NOTHING);
        }
        due("place(0, 1), of the other one", x.place(0, 1), 0);
        due("the blocks stay", x.tapeTold(0, 1), 99);
    }

    @Sentence(promise = 9, words = "The catalogue has nothing of a tape any more: how much it had.")
    static void filesOfOneNameCountOnce() {
        TapeVault x = withFile(5, 1, 8);
        due("copy(0)", x.copy(0), 3);
        due("copy(0)", x.copy(0), 6);
        due("lose(0)", x.lose(0), 1);
        due("place(5, 0), not the one before", x.place(5, 0), NOTHING);
    }

    @Sentence(promise = 9, words = "BAD: no such tape.")
    static void nothingIsLostOfNoTape() {
        TapeVault x = withFile(5, 1, 8, 16);
        due("copy(1)", x.copy(1), 0);
        for (int tape : new int[] {-1, 2, 12, MIN, MAX}) {
            due("lose(" + tape + ")", x.lose(tape), BAD);
        }
        due("place(5, 0)", x.place(5, 0), 0);
        due("place(5, 1)", x.place(5, 1), 0);
    }

    @Sentence(promise = 10, words = "So many places from one on are damaged: how many that were not.")
    static void theFirstTheLastAndAllPlacesAreDamaged() {
        TapeVault x = vault(8, 16, 24);
        due("damage(0, 0, 1)", x.damage(0, 0, 1), 1);
        due("damage(0, 99, 1)", x.damage(0, 99, 1), 1);
        due("damage(0, 0, 1), again", x.damage(0, 0, 1), 0);
        due("damage(0, 99, 1), again", x.damage(0, 99, 1), 0);
        due("damage(0, 1, 98), those between", x.damage(0, 1, 98), 98);
        due("damage(0, 0, 100), all were", x.damage(0, 0, 100), 0);
        due("damage(1, 0, 100), none was", x.damage(1, 0, 100), 100);
        due("damage(2, 50, 10)", x.damage(2, 50, 10), 10);
        due("damage(2, 45, 10), half of them were", x.damage(2, 45, 10), 5);
        due("damage(2, 0, 100)", x.damage(2, 0, 100), 85);
        due("told(0), no work", x.told(0), 0);
        due("told(1), no care", x.told(1), 0);
        due("told(2), no job", x.told(2), 0);
    }

    @Sentence(promise = 10, words = "So many places from one on are damaged: how many that were not.")
    static void noPlaceBeforeAndNoneBehindIsDamaged() {
        TapeVault x = vault(8, 16);
        due("damage(0, 40, 2)", x.damage(0, 40, 2), 2);
        for (int place = 0; place < 100; place++) {
            due("block(0, " + place + ", 3)", x.block(0, place, 3), place == 40 || place == 41 ? 1 : 0);
            due("block(1, " + place + ", 3)", x.block(1, place, 3), 0);
        }
    }

    @Sentence(promise = 10, words = "BAD: no such tape, or places (n is 1 or more, all of them are there).")
    static void wrongPlacesDamageNone() {
        TapeVault x = vault(8);
        int[][] wrong = {{-1, 0, 1}, {1, 0, 1}, {12, 0, 1}, {MIN, 0, 1}, {MAX, 0, 1}, {0, -1, 1}, {0, -1, 2}, {0, 100, 1}, {0, MIN, 1},
            {0, MAX, 1}, {0, 0, 0}, {0, 99, 0}, {0, 100, 0}, {0, 50, -1}, {0, 0, MIN}, {0, 0, 101}, {0, 1, 100}, {0, 99, 2}, {0, 0, MAX},
            {0, 1, MAX}, {0, 99, MAX}, {0, MAX, MAX}, {0, MIN, MAX}, {0, MIN, MIN}, {0, -1, MIN}, {0, 99, MIN}};
        for (int[] one : wrong) {
            due("damage(" + one[0] + ", " + one[1] + ", " + one[2] + ")", x.damage(one[0], one[1], one[2]), BAD);
        }
        due("damage(0, 0, 100), none was", x.damage(0, 0, 100), 100);
    }

    @Sentence(promise = 11, words = "A drive that is not jammed is set to jam after n blocks")
    static void theFewestAndTheMostBlocks() {
        TapeVault x = vault(8);
        fill(x, 0, 100);
        due("jam(0, 0)", x.jam(0, 0), 0);
        due("set to jam is not jammed", x.driveTold(0, 2), 0);
        due("jam(0, 1000), in its place", x.jam(0, 1000), 1000);
        int blocks = x.driveTold(0, 1);
        for (int k = 0; k < 10; k++) {
            due("scan(0)", x.scan(0), 1);
        }
        due("a thousand blocks are done", x.driveTold(0, 1), blocks + 1000);
        due("not jammed yet", x.driveTold(0, 2), 0);
        due("scan(0), the next block", x.scan(0), JAM);
        due("jammed", x.driveTold(0, 2), 1);
        due("no block more", x.driveTold(0, 1), blocks + 1000);
    }

    @Sentence(promise = 11, words = "A drive that is not jammed is set to jam after n blocks")
    static void blocksAreCountedFromTheLastSettingOn() {
        TapeVault x = withFile(5, 1, 8);
        due("jam(0, 4)", x.jam(0, 4), 4);
        due("read(5, 0)", x.read(5, 0), 1);
        due("jam(0, 4), anew", x.jam(0, 4), 4);
        due("read(5, 0)", x.read(5, 0), 1);
        due("jam(0, 3), anew", x.jam(0, 3), 3);
        due("read(5, 0)", x.read(5, 0), 1);
        due("not jammed", x.driveTold(0, 2), 0);
        due("read(5, 0)", x.read(5, 0), JAM);
    }

    @Sentence(promise = 11, words = "(for never, if n is -1): n.")
    static void aDriveThatIsSetToJamNeverDoesNot() {
        TapeVault x = withFile(5, 1, 8);
        due("jam(0, 0)", x.jam(0, 0), 0);
        due("jam(0, -1)", x.jam(0, -1), -1);
        due("read(5, 0)", x.read(5, 0), 1);
        due("jam(0, 3)", x.jam(0, 3), 3);
        due("read(5, 0)", x.read(5, 0), 1);
        due("jam(0, -1), just in time", x.jam(0, -1), -1);
        fill(x, 0, 100);
        for (int k = 0; k < 12; k++) {
            due("scan(0)", x.scan(0), 2);
        }
        due("not jammed", x.driveTold(0, 2), 0);
    }

    @Sentence(promise = 11, words = "BAD: no such drive, or it is jammed,")
    static void noDriveAndAJammedOneAreNotSet() {
        TapeVault x = withFile(5, 1, 8, 24);
        for (int drive : new int[] {-1, 3, MIN, MAX}) {
            due("jam(" + drive + ", 1)", x.jam(drive, 1), BAD);
        }
        due("jam(2, 5), the last drive", x.jam(2, 5), 5);
        jamBy(x, 0, 0);
        for (int n : new int[] {-1, 0, 1, 1000, 1001}) {
            due("jam(0, " + n + "), jammed", x.jam(0, n), BAD);
        }
        due("jammed still", x.driveTold(0, 2), 1);
        due("fix(0)", x.fix(0), 1);
        due("read(5, 0), not set", x.read(5, 0), 1);
        due("jam(0, 0), jammed no more", x.jam(0, 0), 0);
        due("jam(0, 1), set but not jammed", x.jam(0, 1), 1);
    }

    @Sentence(promise = 11, words = "or n is not -1 .. 1000.")
    static void aWrongNumberOfBlocksLeavesTheDrive() {
        TapeVault x = withFile(5, 1, 8);
        due("jam(0, 3)", x.jam(0, 3), 3);
        for (int n : new int[] {-2, 1001, MIN, MAX}) {
            due("jam(0, " + n + ")", x.jam(0, n), BAD);
        }
        due("read(5, 0), three blocks", x.read(5, 0), 1);
        due("read(5, 0), set as before", x.read(5, 0), JAM);
    }

    @Sentence(promise = 12, words = "A drive is jammed no more, nor set to jam:")
    static void aFixedDriveDoesNotJam() {
        TapeVault x = withFile(5, 1, 8);
        due("jam(0, 0)", x.jam(0, 0), 0);
        due("fix(0), just set", x.fix(0), 0);
        due("read(5, 0)", x.read(5, 0), 1);
        due("jam(0, 2)", x.jam(0, 2), 2);
        due("read(5, 0)", x.read(5, 0), JAM);
        due("fix(0), jammed", x.fix(0), 1);
        due("driveTold(0, 2)", x.driveTold(0, 2), 0);
        due("read(5, 0)", x.read(5, 0), 1);
        due("uses, it was drive 0", x.driveTold(0, 0), 4);
        fill(x, 0, 100);
        for (int k = 0; k < 11; k++) {
            due("scan(0)", x.scan(0), 2);
        }
        due("driveTold(0, 2)", x.driveTold(0, 2), 0);
    }

    @Sentence(promise = 12, words = "whether it was jammed (not just set to), 1 or 0.")
    static void aDriveThatWasJammedAndOthers() {
        TapeVault x = tapesAtDrives();
        due("fix(0), a new one", x.fix(0), 0);
        x.jam(0, 0);
        due("fix(0), just set to", x.fix(0), 0);
        jamBy(x, 0, 0);
        due("fix(1), another one", x.fix(1), 0);
        due("fix(2), another one", x.fix(2), 0);
        due("driveTold(0, 2)", x.driveTold(0, 2), 1);
        due("fix(0)", x.fix(0), 1);
        due("fix(0), again", x.fix(0), 0);
        jamBy(x, 2, 2);
        due("fix(2), the last one", x.fix(2), 1);
    }

    @Sentence(promise = 12, words = "BAD: no such drive.")
    static void noDriveIsFixed() {
        TapeVault x = tapesAtDrives();
        jamBy(x, 0, 0);
        jamBy(x, 2, 2);
        for (int drive : new int[] {-1, 3, MIN, MAX}) {
            due("fix(" + drive + ")", x.fix(drive), BAD);
        }
        due("driveTold(0, 2)", x.driveTold(0, 2), 1);
        due("driveTold(2, 2)", x.driveTold(2, 2), 1);
    }

    @Sentence(promise = 13, words = "Power lasts for n work steps more")
    static void powerLastsForTheMostThatCanBeSet() {
        TapeVault x = FileSentences.salvagingVault();
        due("power(100000)", x.power(100000), 100000);
        int whole = 100000 / FileSentences.SALVAGE_STEPS;
        for (int k = 0; k < whole; k++) {
            due("salvage(5)", x.salvage(5), DAMAGE);
        }
        int left = 100000 - whole * FileSentences.SALVAGE_STEPS;
        due("told(4)", x.told(4), left);
        int[] before = effort(x);
        due("salvage(5), power ends", x.salvage(5), CUT);
        due("work steps", x.told(0) - before[0], left);
        due("told(4)", x.told(4), -1);
    }

    @Sentence(promise = 13, words = "Power lasts for n work steps more")
    static void powerIsCountedFromTheLastSettingOn() {
        TapeVault x = withFile(5, 1, 8);
        due("power(5)", x.power(5), 5);
        due("read(5, 0)", x.read(5, 0), 1);
        due("told(4)", x.told(4), 1);
        due("power(4), in its place", x.power(4), 4);
        due("read(5, 0), just enough", x.read(5, 0), 1);
        due("told(4)", x.told(4), 0);
        due("power(3), one too few", x.power(3), 3);
        due("read(5, 0)", x.read(5, 0), CUT);
    }

    @Sentence(promise = 13, words = "(with 0 the next one is a CUT;")
    static void withNoneTheFirstStepIsACut() {
        TapeVault x = withFile(5, 1, 8, 16);
        IntSupplier[] all = {() -> x.copy(0), () -> x.read(5, 0), () -> x.move(5, 0, 1), () -> x.salvage(5), () -> x.scan(1)};
        for (int k = 0; k < all.length; k++) {
            int[] before = effort(x);
            due("power(0)", x.power(0), 0);
            due("told(4)", x.told(4), 0);
            due("job " + k, all[k].getAsInt(), CUT);
            spent(x, before, 0, 0);
            jobs(x, before, 1, 1);
            due("told(4)", x.told(4), -1);
        }
        due("mounts", x.tapeTold(0, 2), 1);
    }

    @Sentence(promise = 13, words = "for ever, if n is -1): n.")
    static void powerIsSetToLastForEver() {
        TapeVault x = withFile(5, 1, 8);
        due("power(0)", x.power(0), 0);
        due("power(-1)", x.power(-1), -1);
        due("told(4)", x.told(4), -1);
        due("read(5, 0)", x.read(5, 0), 1);
        due("told(4)", x.told(4), -1);
    }

    @Sentence(promise = 13, words = "BAD: n is not -1 .. 100000.")
    static void aWrongNumberOfStepsLeavesThePower() {
        TapeVault x = withFile(5, 1, 8);
        for (int n : new int[] {-2, 100001, MIN, MAX}) {
            due("power(" + n + ")", x.power(n), BAD);
        }
        due("told(4)", x.told(4), -1);
        due("power(4)", x.power(4), 4);
        for (int n : new int[] {-2, 100001, MIN, MAX}) {
            due("power(" + n + ")", x.power(n), BAD);
        }
        due("told(4)", x.told(4), 4);
        due("power(99999)", x.power(99999), 99999);
        due("power(1)", x.power(1), 1);
    }

    @Sentence(promise = 14, words = "The place of the HEAD that the catalogue has of a name and a tape; NOTHING.")
    static void theFirstAndTheLastPlaceOfAHeadAndNone() {
        TapeVault x = vault(8, 16);
        due("place(0, 0), an empty tape", x.place(0, 0), NOTHING);
        due("a file 0", write(x, 0, 1, 0), 0);
        fill(x, 0, 97);
        due("a file 999", write(x, 999, 1, 0), 97);
        due("place(0, 0)", x.place(0, 0), 0);
        due("place(999, 0)", x.place(999, 0), 97);
        due("place(1, 0)", x.place(1, 0), NOTHING);
        due("place(998, 0)", x.place(998, 0), NOTHING);
        due("place(10, 0), a datum's", x.place(10, 0), NOTHING);
        due("place(0, 1), another tape's", x.place(0, 1), NOTHING);
        x.damage(0, 0, 100);
        due("place(0, 0), damage changes nothing", x.place(0, 0), 0);
    }

    @Sentence(promise = 14, words = "BAD: no such name or tape.")
    static void noNameOrTapeHasAPlace() {
        TapeVault x = withFile(0, 1, 8, 16);
        due("a file 999 on the last tape", write(x, 999, 1, 1), 0);
        int[][] wrong = {{-1, 0}, {1000, 0}, {1000, 1}, {MIN, 0}, {MAX, 0}, {0, -1}, {999, 2}, {0, 12}, {0, MIN}, {0, MAX}, {-1, 2}};
        for (int[] one : wrong) {
            due("place(" + one[0] + ", " + one[1] + ")", x.place(one[0], one[1]), BAD);
        }
        due("place(0, 0)", x.place(0, 0), 0);
        due("place(999, 1)", x.place(999, 1), 0);
    }

    @Sentence(promise = 15, words = "Of a tape's block at a place: its kind (what = 0);")
    static void theKindAtTheFirstAndTheLastPlace() {
        TapeVault x = vault(8);
        fill(x, 0, 97);
        x.power(1 + 97 + 2);
        due("copy(0), CUT before the last place", write(x, 5, 1, 0), CUT);
        due("block(0, 0, 0)", x.block(0, 0, 0), 1);
        due("block(0, 97, 0)", x.block(0, 97, 0), 1);
        due("block(0, 98, 0)", x.block(0, 98, 0), 2);
        due("block(0, 99, 0)", x.block(0, 99, 0), 4);
    }

    @Sentence(promise = 15, words = "the name, datum, or 0 (1);")
    static void theLeastAndTheGreatestNameAndDatum() {
        TapeVault x = vault(8);
        int[][] cases = {{0, MIN}, {999, MAX}, {1, 0}, {998, -1}};
        for (int k = 0; k < cases.length; k++) {
            x.stage(cases[k][0], 1, cases[k][1], 0);
            due("copy(0)", x.copy(0), 3 * k);
            due("the name", x.block(0, 3 * k, 1), cases[k][0]);
            due("the datum", x.block(0, 3 * k + 1, 1), cases[k][1]);
            due("the TAIL has none", x.block(0, 3 * k + 2, 1), 0);
        }
        x.power(1 + 12 + 1);
        due("copy(0)", x.copy(0), CUT);
        due("the VOID has none", x.block(0, 13, 1), 0);
        x.damage(0, 0, 100);
        due("a damaged one is told too", x.block(0, 4, 1), MAX);
    }

    @Sentence(promise = 15, words = "the size of a HEAD, or 0 (2);")
    static void theLeastAndTheGreatestSize() {
        TapeVault x = vault(8);
        due("a file of 1", write(x, 5, 1, 0), 0);
        due("a file of 30", write(x, 6, 30, 0), 3);
        due("block(0, 0, 2)", x.block(0, 0, 2), 1);
        due("block(0, 3, 2)", x.block(0, 3, 2), 30);
        due("a datum has none", x.block(0, 1, 2), 0);
        due("a TAIL has none", x.block(0, 2, 2), 0);
        x.power(1 + 35 + 1);
        due("copy(0), CUT behind the HEAD", x.copy(0), CUT);
        due("the HEAD of half a file tells it", x.block(0, 35, 2), 30);
        due("a VOID has none", x.block(0, 36, 2), 0);
    }

    @Sentence(promise = 15, words = "0 each, where there is no block;")
    static void behindTheEndAllIsNone() {
        TapeVault x = withFile(5, 1, 8, 16);
        x.damage(0, 3, 97);
        for (int what = 0; what < 3; what++) {
            due("block(0, 3, " + what + ")", x.block(0, 3, what), 0);
            due("block(0, 99, " + what + ")", x.block(0, 99, what), 0);
            due("block(1, 0, " + what + ")", x.block(1, 0, what), 0);
        }
    }

    @Sentence(promise = 15, words = "whether the place is damaged, 1 or 0 (3).")
    static void damageIsToldOfPlacesWithAndWithoutBlocks() {
        TapeVault x = withFile(5, 1, 8);
        int[] places = {0, 2, 3, 99};
        for (int place : places) {
            due("block(0, " + place + ", 3)", x.block(0, place, 3), 0);
            due("damage(0, " + place + ", 1)", x.damage(0, place, 1), 1);
            due("block(0, " + place + ", 3)", x.block(0, place, 3), 1);
        }
        due("block(0, 1, 3)", x.block(0, 1, 3), 0);
        due("block(0, 4, 3)", x.block(0, 4, 3), 0);
        due("block(0, 98, 3)", x.block(0, 98, 3), 0);
    }

    @Sentence(promise = 15, words = "BAD: no such tape or place, or what is none of these.")
    static void noTapeOrPlaceOrKindOfQuestion() {
        TapeVault x = withFile(5, 1, 8);
        x.damage(0, 0, 100);
        int[][] wrong = {{-1, 0, 0}, {1, 0, 0}, {12, 0, 3}, {MIN, 0, 0}, {MAX, 0, 0}, {0, -1, 0}, {0, -1, 3}, {0, 100, 0}, {0, 100, 3},
            {0, MIN, 0}, {0, MAX, 3}, {0, 0, -1}, {0, 0, 4}, {0, 0, MIN}, {0, 0, MAX}, {0, 99, -1}, {0, 99, 4}};
        for (int[] one : wrong) {
            due("block(" + one[0] + ", " + one[1] + ", " + one[2] + ")", x.block(one[0], one[1], one[2]), BAD);
        }
        for (int what = 0; what < 4; what++) {
            due("block(0, 99, " + what + ")", x.block(0, 99, what), what == 3 ? 1 : 0);
        }
    }

    @Sentence(promise = 16, words = "Of a tape: its home (what = 0), its end (1), its mounts (2), its wear (3).")
    static void theLeastAndTheGreatestOfATape() {
        TapeVault x = vault(0, 31);
        int[] none = {0, 0, 0, 0};
        int[] last = {31, 100, 5, 32 + 64 + 96 + 100 + 100};
        fill(x, 1, 96);
        due("the last places", write(x, 5, 2, 1), 96);
        due("scan(1)", x.scan(1), 2);
        for (int what = 0; what < 4; what++) {
            due("tapeTold(0, " + what + ")", x.tapeTold(0, what), none[what]);
            due("tapeTold(1, " + what + ")", x.tapeTold(1, what), last[what]);
        }
    }

    @Sentence(promise = 16, words = "BAD: no such tape, or what is none of these.")
    static void noTapeOrNothingToTellOfIt() {
        TapeVault x = withFile(5, 1, 8, 16);
        int[][] wrong = {{-1, 0}, {2, 0}, {2, 3}, {12, 0}, {MIN, 0}, {MAX, 0}, {0, -1}, {0, 4}, {1, 4}, {0, MIN}, {0, MAX}, {2, 4}};
        for (int[] one : wrong) {
            due("tapeTold(" + one[0] + ", " + one[1] + ")", x.tapeTold(one[0], one[1]), BAD);
        }
    }

    @Sentence(promise = 17, words = "Of a drive: its uses (what = 0), its blocks (1), whether it is jammed, 1 or 0 (2).")
    static void theFirstAndTheLastDriveAreTold() {
        TapeVault x = tapesAtDrives();
        for (int drive = 0; drive < 3; drive++) {
            for (int what = 0; what < 3; what++) {
                due("driveTold(" + drive + ", " + what + ")", x.driveTold(drive, what), 0);
            }
        }
        due("copy(0)", write(x, 5, 1, 0), 0);
        due("copy(2)", write(x, 5, 2, 2), 0);
        jamBy(x, 2, 2);
        int[][] wanted = {{1, 3, 0}, {0, 0, 0}, {2, 4, 1}};
        for (int drive = 0; drive < 3; drive++) {
            for (int what = 0; what < 3; what++) {
                due("driveTold(" + drive + ", " + what + ")", x.driveTold(drive, what), wanted[drive][what]);
            }
        }
    }

    @Sentence(promise = 17, words = "BAD: no such drive, or what is none of these.")
    static void noDriveOrNothingToTellOfIt() {
        TapeVault x = tapesAtDrives();
        int[][] wrong = {{-1, 0}, {3, 0}, {3, 2}, {MIN, 0}, {MAX, 0}, {0, -1}, {0, 3}, {2, 3}, {0, MIN}, {0, MAX}, {3, 3}, {-1, -1}};
        for (int[] one : wrong) {
            due("driveTold(" + one[0] + ", " + one[1] + ")", x.driveTold(one[0], one[1]), BAD);
        }
    }

    @Sentence(promise = 18, words = "The clock (what = 0), care (1), jobs (2), those that failed (3), "
        + "for how many work steps power lasts, -1 for ever (4).")
    static void eachIsToldFromNoneOn() {
        TapeVault x = vault(9);
        int[] none = {0, 0, 0, 0, -1};
        for (int what = 0; what < 5; what++) {
            due("told(" + what + ")", x.told(what), none[what]);
        }
        x.power(6);
        due("copy(0)", write(x, 5, 2, 0), 0);
        x.jam(0, 1);
        x.power(4);
        due("read(5, 0)", x.read(5, 0), JAM);
        int[] wanted = {2 + 4 + 2 + 1, 4 + 2 + 3 + 2, 2, 1, 1};
        for (int what = 0; what < 5; what++) {
            due("told(" + what + ")", x.told(what), wanted[what]);
        }
        x.power(100000);
        due("told(4)", x.told(4), 100000);
        x.power(0);
        due("told(4)", x.told(4), 0);
        x.power(-1);
        due("told(4)", x.told(4), -1);
    }

    @Sentence(promise = 18, words = "BAD: what is none of these.")
    static void nothingElseIsTold() {
        TapeVault x = new TapeVault();
        for (int what : new int[] {-1, 5, MIN, MAX}) {
            due("told(" + what + ")", x.told(what), BAD);
        }
    }

    @Sentence(promise = 19, words = "The fold.")
    static void theFoldCanBeAnyInt() {
        // 31 and the datum wrap to these.
        for (int want : new int[] {MIN, MAX, 0, -1, 1}) {
            TapeVault x = vault(8);
            x.stage(5, 1, want - 31, 0);
            due("copy(0)", x.copy(0), 0);
            due("read(5, 0)", x.read(5, 0), 1);
            due("fold()", x.fold(), want);
            due("fold(), again", x.fold(), want);
        }
    }
}
