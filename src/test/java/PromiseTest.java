/** For each promise of the document: ordinary inputs, the edges that it names, and wrong inputs. */
public final class PromiseTest {
    private static final int MAX = Integer.MAX_VALUE;
    private static final int MIN = Integer.MIN_VALUE;

    public static void main(String[] args) {
        newObject();
        tape();
        stage();
        copy();
        copyCut();
        copyJam();
        copyNoRoom();
        mounts();
        read();
        readFailures();
        move();
        moveFailures();
        moveNoDrive();
        salvage();
        scan();
        scanFailures();
        lose();
        damage();
        jam();
        fix();
        power();
        place();
        block();
        tapeTold();
        driveTold();
        told();
        fold();
        Check.end();
    }

    private static void due(String call, int got, int want) {
        Check.due(call, got, want);
    }

    private static TapeVault vault(int... cells) {
        TapeVault vault = new TapeVault();
        for (int cell : cells) {
            vault.tape(cell);
        }
        return vault;
    }

    private static TapeVault withFile(int name, int size, int... cells) {
        TapeVault vault = vault(cells);
        vault.stage(name, size, 10, 1);
        vault.copy(0);
        return vault;
    }

    private static void effort(TapeVault x, int clock, int care, int jobs, int failed, int power) {
        due("told(0)", x.told(0), clock);
        due("told(1)", x.told(1), care);
        due("told(2)", x.told(2), jobs);
        due("told(3)", x.told(3), failed);
        due("told(4)", x.told(4), power);
    }

    private static void tapeIs(TapeVault x, int tape, int end, int mounts, int wear) {
        due("tapeTold(" + tape + ", 1)", x.tapeTold(tape, 1), end);
        due("tapeTold(" + tape + ", 2)", x.tapeTold(tape, 2), mounts);
        due("tapeTold(" + tape + ", 3)", x.tapeTold(tape, 3), wear);
    }

    private static void driveIs(TapeVault x, int drive, int uses, int blocks, int jammed) {
        due("driveTold(" + drive + ", 0)", x.driveTold(drive, 0), uses);
        due("driveTold(" + drive + ", 1)", x.driveTold(drive, 1), blocks);
        due("driveTold(" + drive + ", 2)", x.driveTold(drive, 2), jammed);
    }

    /** The kinds of a tape's blocks from a place on, a digit each. */
    private static void kinds(TapeVault x, int tape, int from, String digits) {
        for (int k = 0; k < digits.length(); k++) {
            due("block(" + tape + ", " + (from + k) + ", 0)", x.block(tape, from + k, 0), digits.charAt(k) - '0');
        }
    }

    private static void newObject() {
        Check.part("promise 1");
        TapeVault x = new TapeVault();
        effort(x, 0, 0, 0, 0, -1);
        due("fold()", x.fold(), 1);
        due("tapeTold(0, 0)", x.tapeTold(0, 0), -1);
        for (int drive = 0; drive < 3; drive++) {
            driveIs(x, drive, 0, 0, 0);
            due("fix(" + drive + ")", x.fix(drive), 0);
        }
        due("tape(4)", x.tape(4), 0);
        due("copy(0)", x.copy(0), -2);
        due("salvage(0)", x.salvage(0), -2);
        x.stage(0, 30, 0, 0);
        for (int k = 0; k < 3; k++) {
            due("copy(0)", x.copy(0), 32 * k);
        }
        due("power still", x.told(4), -1);
        TapeVault other = new TapeVault();
        due("a new one's clock", other.told(0), 0);
        due("a new one's tapes", other.tape(4), 0);
    }

    private static void tape() {
        Check.part("promise 2");
        TapeVault x = new TapeVault();
        due("tape(-1)", x.tape(-1), -1);
        due("tape(32)", x.tape(32), -1);
        due("tape(MAX)", x.tape(MAX), -1);
        due("tape(MIN)", x.tape(MIN), -1);
        due("tape(31)", x.tape(31), 0);
        due("tape(0)", x.tape(0), 1);
        due("tape(31)", x.tape(31), -1);
        due("tape(0)", x.tape(0), -1);
        for (int cell = 1; cell <= 10; cell++) {
            due("tape(" + cell + ")", x.tape(cell), cell + 1);
        }
        due("tape(11)", x.tape(11), -6);
        due("tape(5), full", x.tape(5), -1);
        due("tape(32), full", x.tape(32), -1);
        due("home of 11", x.tapeTold(11, 0), 10);
        tapeIs(x, 11, 0, 0, 0);
        due("no tape 12", x.tapeTold(12, 0), -1);
    }

    private static void stage() {
        Check.part("promise 3");
        TapeVault x = vault(8);
        due("stage(-1, ..)", x.stage(-1, 1, 0, 0), -1);
        due("stage(1000, ..)", x.stage(1000, 1, 0, 0), -1);
        due("stage(0, 0, ..)", x.stage(0, 0, 0, 0), -1);
        due("stage(0, 31, ..)", x.stage(0, 31, 0, 0), -1);
        due("stage(0, MIN, ..)", x.stage(0, MIN, 0, 0), -1);
        due("nothing staged", x.copy(0), -2);
        due("stage(999, 1, ..)", x.stage(999, 1, MIN, 7), 1);
        due("stage(1000, 2, ..) leaves it", x.stage(1000, 2, 0, 0), -1);
        due("copy(0)", x.copy(0), 0);
        due("its name", x.block(0, 0, 1), 999);
        due("its datum", x.block(0, 1, 1), MIN);
        kinds(x, 0, 0, "1230");
        due("stage(0, 30, ..)", x.stage(0, 30, MAX, 3), 30);
        due("copy(0)", x.copy(0), 3);
        for (int k = 0; k < 30; k++) {
            due("datum " + k, x.block(0, 4 + k, 1), MAX + 3 * k);
        }
        due("stage(0, 2, ..), shorter", x.stage(0, 2, 5, MIN), 2);
        due("copy(0)", x.copy(0), 35);
        kinds(x, 0, 35, "12230");
        due("it wraps", x.block(0, 37, 1), 5 + MIN);
        effort(x, 3 * 1 + 3 + 35 + 39, 3 * 1 + 3 + 35 + 39, 3, 0, -1);
    }

    private static void copy() {
        Check.part("promise 4");
        TapeVault x = vault(10, 24);
        due("copy(-1)", x.copy(-1), -1);
        due("copy(2)", x.copy(2), -1);
        due("copy(0), empty stage", x.copy(0), -2);
        effort(x, 0, 0, 0, 0, -1);
        x.stage(7, 2, 40, -1);
        due("copy(2)", x.copy(2), -1);
        due("copy(0)", x.copy(0), 0);
        effort(x, 3 + 4, 4 + 3, 1, 0, -1);
        tapeIs(x, 0, 4, 1, 4);
        driveIs(x, 0, 1, 4, 0);
        kinds(x, 0, 0, "12230");
        due("name", x.block(0, 0, 1), 7);
        due("size", x.block(0, 0, 2), 2);
        due("datum 1", x.block(0, 2, 1), 39);
        due("place(7, 0)", x.place(7, 0), 0);
        due("copy(0) again: the stage stays", x.copy(0), 4);
        effort(x, 7 + 3 + 4 + 4, 7 + 8 + 3, 2, 0, -1);
        tapeIs(x, 0, 8, 2, 12);
        due("the last one", x.place(7, 0), 4);
        due("copy(1)", x.copy(1), 0);
        driveIs(x, 2, 1, 4, 0);
        due("place(7, 0) still", x.place(7, 0), 4);
        due("place(7, 1)", x.place(7, 1), 0);
        x.damage(1, 4, 4);
        due("copy(1), damaged places", x.copy(1), 4);
        kinds(x, 1, 4, "12230");
    }

    private static void copyCut() {
        Check.part("promise 4, a CUT");
        for (int power = 0; power <= 9; power++) {
            TapeVault x = withFile(3, 1, 7);
            x.power(power);
            // 2 steps of carrying, 3 of winding, 4 of writing a file with 2 data.
            x.stage(4, 2, 1, 1);
            due("copy(0), power " + power, x.copy(0), power < 9 ? -4 : 3);
            int written = Math.max(0, Math.min(power - 5, 4));
            int closing = written > 0 && written < 4 ? 1 : 0;
            int stood = power < 2 ? 0 : Math.min(power - 2, 3) + written + closing;
            effort(x, 5 + power, 5 + stood + Math.min(power, 2) + closing, 2, power < 9 ? 1 : 0, power < 9 ? -1 : 0);
            tapeIs(x, 0, 3 + written + closing, power < 2 ? 1 : 2, 3 + stood);
            driveIs(x, 0, power < 2 ? 1 : 2, 3 + written, 0);
            due("place(4, 0)", x.place(4, 0), power < 9 ? -2 : 3);
            due("place(3, 0)", x.place(3, 0), 0);
            kinds(x, 0, 3, new String[] {"00000", "14000", "12400", "12240", "12230"}[written]);
            x.power(-1);
            due("the drive is free", x.read(3, 0), 1);
            due("it was drive 0", x.driveTold(0, 0), power < 2 ? 2 : 3);
        }
    }

    private static void copyJam() {
        Check.part("promise 4, a JAM");
        for (int n = 0; n <= 4; n++) {
            TapeVault x = vault(8);
            x.stage(4, 2, 1, 1);
            x.jam(0, n);
            due("copy(0), jam after " + n, x.copy(0), n < 4 ? -5 : 0);
            effort(x, 1 + n, (n < 4 ? 3 : 1) * n + 1, 1, n < 4 ? 1 : 0, -1);
            tapeIs(x, 0, n, 1, n);
            driveIs(x, 0, 1, n, n < 4 ? 1 : 0);
            kinds(x, 0, 0, new String[] {"00000", "10000", "12000", "12200", "12230"}[n]);
            due("place(4, 0)", x.place(4, 0), n < 4 ? -2 : 0);
        }
        TapeVault x = vault(8);
        x.stage(4, 2, 1, 1);
        x.jam(0, 1);
        x.power(2);
        due("a JAM comes before a CUT", x.copy(0), -5);
        due("power is left", x.told(4), 0);
        x.power(0);
        due("a CUT on the way to another drive", x.copy(0), -4);
        x.power(-1);
        due("copy(0) by drive 1, behind the half file", x.copy(0), 1);
        driveIs(x, 1, 1, 4, 0);
        kinds(x, 0, 0, "112230");
    }

    private static void copyNoRoom() {
        Check.part("promise 4, NO_ROOM");
        TapeVault x = vault(8);
        x.stage(1, 30, 0, 0);
        x.copy(0);
        x.copy(0);
        x.copy(0);
        x.stage(2, 2, 0, 0);
        due("the last places are filled", x.copy(0), 96);
        tapeIs(x, 0, 100, 4, 32 + 64 + 96 + 100);
        int care = x.told(1);
        int clock = x.told(0);
        x.jam(0, 0);
        due("NO_ROOM for a HEAD, before a JAM", x.copy(0), -6);
        due("care", x.told(1), care + 100 + 1);
        due("clock", x.told(0), clock + 100 + 1);
        driveIs(x, 0, 5, 100, 0);
        TapeVault y = vault(8);
        y.stage(1, 30, 0, 0);
        y.copy(0);
        y.copy(0);
        y.copy(0);
        y.stage(2, 3, 0, 0);
        y.jam(0, 4);
        y.power(1 + 96 + 4);
        int before = y.told(1);
        due("NO_ROOM for a TAIL, before JAM and CUT", y.copy(0), -6);
        due("no VOID, no care for one", y.told(1), before + 100 + 1);
        kinds(y, 0, 96, "1222");
        due("no place behind the last one", y.block(0, 100, 0), -1);
        due("place(2, 0)", y.place(2, 0), -2);
        due("power", y.told(4), 0);
        driveIs(y, 0, 4, 100, 0);
        y.power(-1);
        y.fix(0);
        due("a scan looks for the TAIL behind the last place", y.scan(0), 1);
        TapeVault z = vault(8);
        z.stage(1, 30, 0, 0);
        z.copy(0);
        z.copy(0);
        z.copy(0);
        z.power(1 + 96 + 3);
        due("CUT before the last place", z.copy(0), -4);
        kinds(z, 0, 96, "1224");
        z.stage(1, 1, 0, 0);
        due("NO_ROOM for a HEAD", z.copy(0), -6);
        kinds(z, 0, 96, "1224");
        due("a scan looks for the TAIL far behind the last place", z.scan(0), 1);
        due("place(1, 0)", z.place(1, 0), 64);
    }

    private static void mounts() {
        Check.part("mounts");
        int[] nearest = {0, 0, 0, 0, 0, 0, 0, 0, 0, 0, 0, 0, 0, 1, 1, 1, 1, 1, 1, 1, 1, 2, 2, 2, 2, 2, 2, 2, 2, 2, 2, 2};
        for (int cell = 0; cell < 32; cell++) {
            TapeVault x = vault(cell);
            x.stage(1, 1, 0, 0);
            x.copy(0);
            due("the drive of cell " + cell, x.driveTold(nearest[cell], 0), 1);
            due("clock", x.told(0), 3 + Math.abs(cell - 8 - 8 * nearest[cell]) + 1);
            due("care", x.told(1), x.told(0));
        }
        TapeVault x = vault(16);
        x.stage(1, 1, 0, 0);
        x.jam(1, 0);
        due("copy(0)", x.copy(0), -5);
        due("copy(0), drives 0 and 2 are as near", x.copy(0), 0);
        driveIs(x, 0, 1, 3, 0);
        due("clock", x.told(0), 1 + 9 + 3);
        x.jam(0, 0);
        due("copy(0)", x.copy(0), -5);
        x.jam(2, 0);
        due("copy(0)", x.copy(0), -5);
        int clock = x.told(0);
        int care = x.told(1);
        x.power(0);
        due("copy(0), all are jammed", x.copy(0), -3);
        due("read(1, 0)", x.read(1, 0), -3);
        due("scan(0)", x.scan(0), -3);
        due("salvage(1)", x.salvage(1), -3);
        effort(x, clock, care, 8, 7, 0);
        x.tape(17);
        due("move(1, 0, 1)", x.move(1, 0, 1), -3);
        effort(x, clock, care, 9, 8, 0);
    }

    private static void read() {
        Check.part("promise 5");
        TapeVault x = withFile(5, 3, 9, 20);
        due("read(-1, 0)", x.read(-1, 0), -1);
        due("read(1000, 0)", x.read(1000, 0), -1);
        due("read(5, -1)", x.read(5, -1), -1);
        due("read(5, 2)", x.read(5, 2), -1);
        due("read(5, 1)", x.read(5, 1), -2);
        due("read(6, 0)", x.read(6, 0), -2);
        effort(x, 7, 7, 1, 0, -1);
        due("read(5, 0)", x.read(5, 0), 3);
        due("fold()", x.fold(), ((31 + 10) * 31 + 11) * 31 + 12);
        effort(x, 14, 14, 2, 0, -1);
        tapeIs(x, 0, 5, 2, 10);
        driveIs(x, 0, 2, 10, 0);
        x.stage(6, 1, -9, 0);
        x.copy(0);
        int clock = x.told(0);
        due("read(6, 0)", x.read(6, 0), 1);
        due("clock", x.told(0), clock + 2 + 5 + 3);
        due("fold()", x.fold(), 31 - 9);
        due("place(6, 0) stays", x.place(6, 0), 5);
    }

    private static void readFailures() {
        Check.part("promise 5, failures");
        for (int power = 0; power <= 11; power++) {
            // 2 steps of carrying, 4 of winding, 5 of reading.
            TapeVault x = withFile(1, 2, 9);
            x.stage(2, 3, 5, 1);
            x.copy(0);
            x.read(1, 0);
            int old = x.fold();
            int clock = x.told(0);
            int care = x.told(1);
            x.power(power);
            due("read(2, 0), power " + power, x.read(2, 0), power < 11 ? -4 : 3);
            due("clock", x.told(0), clock + power);
            due("care", x.told(1), care + power);
            due("fold()", x.fold(), power < 2 ? old : new int[] {1, 36, 1122, 34789}[Math.max(0, Math.min(power - 7, 3))]);
            due("mounts", x.tapeTold(0, 2), power < 2 ? 3 : 4);
            due("failed", x.told(3), power < 11 ? 1 : 0);
        }
        for (int at = 0; at <= 5; at++) {
            TapeVault x = withFile(2, 3, 8);
            x.damage(0, at, 1);
            due("read(2, 0), damage at " + at, x.read(2, 0), at < 5 ? -7 : 3);
            driveIs(x, 0, 2, 5 + Math.min(at + 1, 5), 0);
            due("wear", x.tapeTold(0, 3), 5 + Math.min(at + 1, 5));
            due("fold()", x.fold(), new int[] {1, 1, 41, 41 * 31 + 11, (41 * 31 + 11) * 31 + 12, (41 * 31 + 11) * 31 + 12}[at]);
            due("the catalogue stays", x.place(2, 0), 0);
        }
        TapeVault x = withFile(2, 3, 8);
        x.damage(0, 2, 1);
        x.jam(0, 2);
        due("a JAM comes before DAMAGE", x.read(2, 0), -5);
        due("care is threefold", x.told(1), 6 + 1 + 3 * 2);
        due("wear is not", x.tapeTold(0, 3), 5 + 2);
        due("read(2, 0) by drive 1", x.read(2, 0), -7);
        driveIs(x, 1, 1, 3, 0);
    }

    private static void move() {
        Check.part("promise 6");
        TapeVault x = withFile(5, 2, 9, 10, 30);
        x.stage(6, 1, 3, 3);
        x.copy(1);
        for (int[] wrong : new int[][] {{-1, 0, 1}, {1000, 0, 1}, {5, -1, 1}, {5, 3, 1}, {5, 0, -1}, {5, 0, 3}, {5, 0, 0}, {9, 2, 2}}) {
            due("move of wrong " + wrong[0] + ", " + wrong[1] + ", " + wrong[2], x.move(wrong[0], wrong[1], wrong[2]), -1);
        }
        due("move(6, 0, 1)", x.move(6, 0, 1), -2);
        due("move(5, 1, 0)", x.move(5, 1, 0), -2);
        effort(x, 6 + 6, 6 + 6, 2, 0, -1);
        due("move(5, 0, 1)", x.move(5, 0, 1), 3);
        // The first takes drive 0, 2 steps off; the second drive 1, 7 off, and is wound by 3.
        effort(x, 12 + 2 + 7 + 3 + 8, 12 + 4 + 2 + 7 + 7, 3, 0, -1);
        tapeIs(x, 0, 4, 2, 8);
        tapeIs(x, 1, 7, 2, 10);
        driveIs(x, 0, 3, 4 + 3 + 4, 0);
        driveIs(x, 1, 1, 4, 0);
        kinds(x, 0, 0, "12230");
        kinds(x, 1, 0, "12312230");
        due("name", x.block(1, 3, 1), 5);
        due("size", x.block(1, 3, 2), 2);
        due("datum 0", x.block(1, 4, 1), 10);
        due("datum 1", x.block(1, 5, 1), 11);
        due("place(5, 0)", x.place(5, 0), -2);
        due("place(5, 1)", x.place(5, 1), 3);
        due("place(6, 1)", x.place(6, 1), 0);
        due("fold()", x.fold(), 1);
        due("move(5, 1, 2)", x.move(5, 1, 2), 0);
        due("move(5, 2, 1): wound behind both", x.move(5, 2, 1), 7);
        due("place(5, 1)", x.place(5, 1), 7);
        due("a scan finds the old one", x.scan(0), 1);
        due("move(5, 0, 1) in place of another", x.move(5, 0, 1), 11);
        due("place(5, 1)", x.place(5, 1), 11);
        due("lose(1) knows 2", x.lose(1), 2);
        due("the stage stays", x.copy(2), 4);
        due("as it was", x.block(2, 4, 1), 6);
    }

    private static void moveFailures() {
        Check.part("promise 6, failures");
        for (int at = 0; at < 4; at++) {
            TapeVault x = withFile(5, 2, 8, 16);
            x.damage(0, at, 1);
            due("move(5, 0, 1), damage at " + at, x.move(5, 0, 1), -7);
            kinds(x, 1, 0, new String[] {"000", "140", "1240", "12240"}[at]);
            int closed = at > 0 ? 1 : 0;
            tapeIs(x, 1, at + closed, 1, at + closed);
            driveIs(x, 0, 2, 4 + at + 1, 0);
            driveIs(x, 1, 1, at, 0);
            effort(x, 5 + 2 + 2 * at + 1, 5 + (at + 1) + (at + 2 * closed) + 2, 2, 1, -1);
            due("place(5, 0)", x.place(5, 0), 0);
            due("place(5, 1)", x.place(5, 1), -2);
        }
        for (int n = 0; n <= 4; n++) {
            TapeVault x = withFile(5, 2, 8, 16);
            x.jam(1, n);
            due("move(5, 0, 1), the writing one jams after " + n, x.move(5, 0, 1), n < 4 ? -5 : 0);
            kinds(x, 1, 0, new String[] {"0000", "1000", "1200", "1220", "1223"}[n]);
            driveIs(x, 1, 1, n, n < 4 ? 1 : 0);
            effort(x, 7 + Math.min(2 * n + 1, 8), 7 + Math.min(n + 1, 4) + (n < 4 ? 3 : 1) * n, 2, n < 4 ? 1 : 0, -1);
            due("place(5, 0)", x.place(5, 0), n < 4 ? 0 : -2);
        }
        for (int n = 0; n < 4; n++) {
            TapeVault x = withFile(5, 2, 8, 16);
            x.jam(0, n);
            due("move(5, 0, 1), the reading one jams after " + n, x.move(5, 0, 1), -5);
            kinds(x, 1, 0, new String[] {"0000", "1400", "1240", "1224"}[n]);
            int closed = n > 0 ? 1 : 0;
            effort(x, 7 + 2 * n, 7 + 3 * n + n + 2 * closed, 2, 1, -1);
        }
        for (int power = 0; power < 10; power++) {
            TapeVault x = withFile(5, 2, 8, 16);
            x.power(power);
            due("move(5, 0, 1), power " + power, x.move(5, 0, 1), -4);
            int steps = Math.max(0, power - 2);
            int closed = steps > 1 ? 1 : 0;
            effort(x, 5 + power, 5 + power + 2 * closed, 2, 1, -1);
            tapeIs(x, 0, 4, power < 1 ? 1 : 2, 4 + (steps + 1) / 2);
            tapeIs(x, 1, steps / 2 + closed, power < 2 ? 0 : 1, steps / 2 + closed);
            kinds(x, 1, 0, new String[] {"0000", "1400", "1240", "1224"}[steps / 2]);
            due("both drives are free", x.move(5, 0, 1), steps / 2 + closed);
            driveIs(x, 0, power < 1 ? 2 : 3, x.driveTold(0, 1), 0);
        }
        TapeVault x = vault(8, 16);
        x.stage(1, 30, 0, 0);
        x.copy(1);
        x.copy(1);
        x.copy(1);
        x.stage(2, 3, 0, 0);
        x.copy(0);
        int care = x.told(1);
        due("move(2, 0, 1), no room for the TAIL", x.move(2, 0, 1), -6);
        due("care", x.told(1), care + 5 + 100 + 2);
        kinds(x, 1, 96, "1222");
        due("move(2, 0, 1), no room for the HEAD", x.move(2, 0, 1), -6);
        due("care", x.told(1), care + 5 + 100 + 2 + 1 + 100 + 2);
    }

    private static void moveNoDrive() {
        Check.part("promise 6, NO_DRIVE");
        TapeVault x = withFile(5, 2, 8, 16);
        x.jam(1, 0);
        x.copy(1);
        due("the next one is 9 off", x.move(5, 0, 1), 0);
        driveIs(x, 2, 1, 4, 0);
        due("move(5, 1, 0): drives 0 and 2 are as near to the first", x.move(5, 1, 0), 4);
        driveIs(x, 0, 3, 4 + 4 + 4, 0);
        driveIs(x, 2, 2, 4 + 4, 0);
        TapeVault y = withFile(5, 2, 8, 16);
        y.jam(1, 0);
        y.copy(1);
        y.jam(0, 0);
        y.copy(0);
        int clock = y.told(0);
        int care = y.told(1);
        y.fix(1);
        y.jam(1, 0);
        y.copy(1);
        due("move(5, 0, 1), no second drive", y.move(5, 0, 1), -3);
        driveIs(y, 2, 1, 0, 0);
        tapeIs(y, 0, 4, 3, 4 + 4);
        due("clock", y.told(0), clock + 1 + 17);
        due("care", y.told(1), care + 1 + 17);
        due("failed", y.told(3), 4);
        due("drive 2 is free", y.read(5, 0), 2);
    }

    private static void salvage() {
        Check.part("promise 7");
        TapeVault x = vault(8, 16, 24, 20);
        due("salvage(-1)", x.salvage(-1), -1);
        due("salvage(1000)", x.salvage(1000), -1);
        due("salvage(5)", x.salvage(5), -2);
        for (int tape = 1; tape < 4; tape++) {
            x.stage(5, 1, 100 * tape, 0);
            x.copy(tape);
        }
        due("salvage(5)", x.salvage(5), 1);
        due("fold()", x.fold(), 131);
        due("jobs", x.told(2), 4);
        due("tape 2 was not tried", x.tapeTold(2, 2), 1);
        x.damage(1, 1, 1);
        due("salvage(5), one is damaged", x.salvage(5), 2);
        due("fold()", x.fold(), 231);
        due("jobs", x.told(2), 6);
        due("failed", x.told(3), 1);
        x.damage(2, 2, 1);
        x.damage(3, 0, 1);
        due("salvage(5), all are", x.salvage(5), -7);
        due("jobs", x.told(2), 9);
        due("failed", x.told(3), 4);
        due("the fold of the last", x.fold(), 1);
        due("the catalogue stays", x.place(5, 1) + x.place(5, 2) + x.place(5, 3), 0);
        x.jam(2, 0);
        due("salvage(5): DAMAGE, JAM, DAMAGE", x.salvage(5), -7);
        due("drive 2", x.driveTold(2, 2), 1);
        due("tape 3, as near to drives 1 and 2, went to drive 1", x.driveTold(1, 0), 8);
        x.power(1 + 1);
        int clock = x.told(0);
        due("salvage(5), a CUT in the first try", x.salvage(5), -4);
        due("clock", x.told(0), clock + 2);
        due("jobs", x.told(2), 13);
        x.power(1 + 2 + 9 + 1);
        due("salvage(5), a CUT in the second try", x.salvage(5), -4);
        due("jobs", x.told(2), 15);
        due("power", x.told(4), -1);
        TapeVault y = vault(8, 16);
        y.stage(5, 1, 4, 0);
        y.copy(0);
        y.copy(1);
        y.jam(0, 0);
        y.jam(1, 0);
        due("salvage(5): JAM, JAM", y.salvage(5), -5);
        y.jam(2, 0);
        due("salvage(5): JAM, NO_DRIVE", y.salvage(5), -3);
        due("jobs", y.told(2), 6);
        due("failed", y.told(3), 4);
    }

    private static void scan() {
        Check.part("promise 8");
        TapeVault x = vault(8, 16);
        due("scan(-1)", x.scan(-1), -1);
        due("scan(2)", x.scan(2), -1);
        effort(x, 0, 0, 0, 0, -1);
        due("scan(0), empty", x.scan(0), 0);
        effort(x, 1, 1, 1, 0, -1);
        tapeIs(x, 0, 0, 1, 0);
        x.stage(1, 2, 0, 0);
        x.copy(0);
        x.stage(2, 1, 0, 0);
        x.copy(0);
        x.stage(1, 1, 0, 0);
        x.copy(0);
        x.copy(1);
        due("lose(0)", x.lose(0), 2);
        due("scan(0)", x.scan(0), 2);
        due("place(1, 0), the last", x.place(1, 0), 7);
        due("place(2, 0)", x.place(2, 0), 4);
        due("place(1, 1), another's", x.place(1, 1), 0);
        driveIs(x, 0, 5, 10 + 10, 0);
        int[][] cases = {{7, 0, 4}, {8, 0, 4}, {9, 0, 4}, {5, 7, -2}};
        for (int[] one : cases) {
            TapeVault y = vault(8);
            y.stage(1, 2, 0, 0);
            y.copy(0);
            y.stage(2, 1, 0, 0);
            y.copy(0);
            y.stage(1, 1, 0, 0);
            y.copy(0);
            y.damage(0, one[0], 1);
            due("scan(0), damage at " + one[0], y.scan(0), one[2] == -2 ? 1 : 2);
            due("place(1, 0)", y.place(1, 0), one[1]);
            due("place(2, 0)", y.place(2, 0), one[2]);
            driveIs(y, 0, 4, 20, 0);
            due("failed", y.told(3), 0);
        }
        TapeVault z = withFile(3, 2, 8);
        z.damage(0, 2, 1);
        due("scan(0), its only file is damaged", z.scan(0), 0);
        due("place(3, 0)", z.place(3, 0), -2);
        due("the fold stays", z.fold(), 1);
        TapeVault last = withFile(3, 2, 8);
        last.damage(0, 3, 1);
        due("scan(0), damage at the very end", last.scan(0), 0);
        due("failed", last.told(3), 0);
        due("jobs", last.told(2), 2);
    }

    private static void scanFailures() {
        Check.part("promise 8, failures");
        TapeVault x = withFile(3, 2, 8);
        x.lose(0);
        x.power(1 + 3);
        due("scan(0), CUT before the last block", x.scan(0), -4);
        due("place(3, 0)", x.place(3, 0), -2);
        x.jam(0, 3);
        due("scan(0), JAM before the last block", x.scan(0), -5);
        due("place(3, 0)", x.place(3, 0), -2);
        due("failed", x.told(3), 2);
        due("scan(0)", x.scan(0), 1);
        x.damage(0, 0, 4);
        x.power(10);
        due("scan(0), CUT", x.scan(0), -4);
        due("place(3, 0) stays", x.place(3, 0), 0);
        // Half a file, then a whole one: a jam leaves no VOID between them.
        TapeVault y = vault(8);
        y.stage(4, 2, 0, 0);
        y.jam(0, 3);
        due("copy(0)", y.copy(0), -5);
        y.fix(0);
        y.stage(6, 1, 0, 0);
        due("copy(0)", y.copy(0), 3);
        kinds(y, 0, 0, "1221230");
        due("scan(0)", y.scan(0), 1);
        due("place(4, 0)", y.place(4, 0), -2);
        due("place(6, 0)", y.place(6, 0), 3);
        TapeVault z = vault(8);
        z.stage(4, 1, 0, 0);
        z.power(1 + 2);
        due("copy(0), CUT before the TAIL", z.copy(0), -4);
        due("scan(0), a VOID is no TAIL", z.scan(0), 0);
        z.jam(0, 2);
        due("copy(0), JAM before the TAIL", z.copy(0), -5);
        kinds(z, 0, 0, "124120");
        due("scan(0), nothing is no TAIL", z.scan(0), 0);
    }

    private static void lose() {
        Check.part("promise 9");
        TapeVault x = withFile(3, 2, 8, 16);
        x.copy(0);
        x.copy(1);
        x.stage(999, 1, 0, 0);
        x.copy(0);
        due("lose(-1)", x.lose(-1), -1);
        due("lose(2)", x.lose(2), -1);
        int clock = x.told(0);
        due("lose(0)", x.lose(0), 2);
        due("lose(0)", x.lose(0), 0);
        due("place(3, 0)", x.place(3, 0), -2);
        due("place(999, 0)", x.place(999, 0), -2);
        due("place(3, 1)", x.place(3, 1), 0);
        due("no clock", x.told(0), clock);
        due("no job", x.told(2), 4);
        tapeIs(x, 0, 11, 3, 4 + 8 + 11);
        due("lose(1)", x.lose(1), 1);
    }

    private static void damage() {
        Check.part("promise 10");
        TapeVault x = vault(8, 16);
        for (int[] wrong : new int[][] {{-1, 0, 1}, {2, 0, 1}, {0, -1, 1}, {0, -1, 3}, {0, 100, 1}, {0, 0, 0}, {0, 5, -1}, {0, 99, 2},
            {0, 0, 101}, {0, 50, MAX}, {0, MAX, MAX}, {0, MIN, MIN}, {0, 99, MIN}, {0, 1, MAX}}) {
            due("damage of wrong " + wrong[0] + ", " + wrong[1] + ", " + wrong[2], x.damage(wrong[0], wrong[1], wrong[2]), -1);
        }
        for (int at = 0; at < 100; at++) {
            due("none yet", x.block(0, at, 3), 0);
        }
        due("damage(0, 10, 3)", x.damage(0, 10, 3), 3);
        due("damage(0, 10, 3)", x.damage(0, 10, 3), 0);
        due("damage(0, 9, 5)", x.damage(0, 9, 5), 2);
        due("damage(0, 99, 1)", x.damage(0, 99, 1), 1);
        due("block(0, 8, 3)", x.block(0, 8, 3), 0);
        due("block(0, 9, 3)", x.block(0, 9, 3), 1);
        due("block(0, 13, 3)", x.block(0, 13, 3), 1);
        due("block(0, 14, 3)", x.block(0, 14, 3), 0);
        due("block(1, 10, 3)", x.block(1, 10, 3), 0);
        due("damage(0, 0, 100)", x.damage(0, 0, 100), 94);
        due("damage(1, 0, 100)", x.damage(1, 0, 100), 100);
        x.stage(1, 1, 0, 0);
        due("copy(0) writes there", x.copy(0), 0);
        due("for good", x.read(1, 0), -7);
        due("block(0, 0, 3)", x.block(0, 0, 3), 1);
    }

    private static void jam() {
        Check.part("promise 11");
        TapeVault x = vault(8);
        for (int[] wrong : new int[][] {{-1, 1}, {3, 1}, {0, -2}, {0, 1001}, {0, MIN}, {MAX, 0}}) {
            due("jam of wrong " + wrong[0] + ", " + wrong[1], x.jam(wrong[0], wrong[1]), -1);
        }
        x.stage(1, 1, 0, 0);
        due("copy(0)", x.copy(0), 0);
        due("jam(0, 1000)", x.jam(0, 1000), 1000);
        due("jam(0, 0)", x.jam(0, 0), 0);
        due("it is set, not jammed", x.driveTold(0, 2), 0);
        due("jam(0, -1)", x.jam(0, -1), -1);
        due("copy(0)", x.copy(0), 3);
        due("jam(0, 4)", x.jam(0, 4), 4);
        due("copy(0), 3 of 4", x.copy(0), 6);
        due("not yet", x.driveTold(0, 2), 0);
        due("copy(0), over two jobs", x.copy(0), -5);
        kinds(x, 0, 9, "10");
        driveIs(x, 0, 4, 10, 1);
        due("jam(0, 1), jammed", x.jam(0, 1), -1);
        due("jam(0, -1), jammed", x.jam(0, -1), -1);
        due("fix(0)", x.fix(0), 1);
        due("copy(0), set no more", x.copy(0), 10);
        due("jam(0, 2)", x.jam(0, 2), 2);
        x.copy(0);
        x.fix(0);
        due("jam(0, 3), from now on", x.jam(0, 3), 3);
        due("copy(0)", x.copy(0), 15);
        due("jam(0, 3), again from now on", x.jam(0, 3), 3);
        due("copy(0)", x.copy(0), 18);
        due("read(1, 0)", x.read(1, 0), -5);
        // The VOID of a cut file counts nothing up to a jam.
        TapeVault y = vault(8);
        y.stage(1, 1, 0, 0);
        y.jam(0, 4);
        y.power(2);
        due("copy(0), CUT behind the HEAD", y.copy(0), -4);
        driveIs(y, 0, 1, 1, 0);
        due("copy(0), 3 more", y.copy(0), 2);
        due("copy(0), then the jam", y.copy(0), -5);
        // A block that was cut is not done.
        TapeVault z = vault(8);
        z.stage(1, 1, 0, 0);
        z.jam(0, 3);
        z.power(1);
        due("copy(0), CUT before the HEAD", z.copy(0), -4);
        due("copy(0)", z.copy(0), 0);
    }

    private static void fix() {
        Check.part("promise 12");
        TapeVault x = vault(8);
        due("fix(-1)", x.fix(-1), -1);
        due("fix(3)", x.fix(3), -1);
        due("fix(0)", x.fix(0), 0);
        x.stage(1, 1, 0, 0);
        x.jam(0, 0);
        due("fix(0), just set", x.fix(0), 0);
        due("copy(0)", x.copy(0), 0);
        x.jam(0, 0);
        due("copy(0)", x.copy(0), -5);
        due("fix(1), another", x.fix(1), 0);
        due("driveTold(0, 2)", x.driveTold(0, 2), 1);
        due("fix(0)", x.fix(0), 1);
        due("driveTold(0, 2)", x.driveTold(0, 2), 0);
        due("fix(0)", x.fix(0), 0);
        due("copy(0)", x.copy(0), 3);
        driveIs(x, 0, 3, 6, 0);
    }

    private static void power() {
        Check.part("promise 13");
        TapeVault x = vault(8);
        x.stage(1, 1, 0, 0);
        due("power(-2)", x.power(-2), -1);
        due("power(100001)", x.power(100001), -1);
        due("power(MIN)", x.power(MIN), -1);
        due("for ever still", x.told(4), -1);
        due("power(100000)", x.power(100000), 100000);
        due("copy(0)", x.copy(0), 0);
        due("told(4), care needs none", x.told(4), 99996);
        due("power(100001) leaves it", x.power(100001), -1);
        due("told(4)", x.told(4), 99996);
        due("power(7)", x.power(7), 7);
        due("copy(0), just enough", x.copy(0), 3);
        due("told(4)", x.told(4), 0);
        due("copy(0)", x.copy(0), -4);
        due("told(4)", x.told(4), -1);
        due("copy(0)", x.copy(0), 6);
        due("power(0)", x.power(0), 0);
        due("power(-1)", x.power(-1), -1);
        due("copy(0)", x.copy(0), 9);
        due("power(0)", x.power(0), 0);
        due("no work, no CUT", x.read(9, 0), -2);
        due("told(4)", x.told(4), 0);
        int clock = x.told(0);
        int care = x.told(1);
        due("read(1, 0)", x.read(1, 0), -4);
        due("clock", x.told(0), clock);
        due("care", x.told(1), care);
    }

    private static void place() {
        Check.part("promise 14");
        TapeVault x = withFile(0, 1, 8, 16);
        x.stage(999, 1, 0, 0);
        x.copy(0);
        due("place(-1, 0)", x.place(-1, 0), -1);
        due("place(1000, 0)", x.place(1000, 0), -1);
        due("place(0, -1)", x.place(0, -1), -1);
        due("place(0, 2)", x.place(0, 2), -1);
        due("place(0, 0)", x.place(0, 0), 0);
        due("place(999, 0)", x.place(999, 0), 3);
        due("place(1, 0)", x.place(1, 0), -2);
        due("place(0, 1)", x.place(0, 1), -2);
        // Data are no names: the datum 10 stands behind a HEAD.
        due("place(10, 0)", x.place(10, 0), -2);
    }

    private static void block() {
        Check.part("promise 15");
        TapeVault x = vault(8);
        x.stage(9, 2, -5, 0);
        x.copy(0);
        x.power(3);
        x.copy(0);
        x.power(6);
        x.copy(0);
        x.damage(0, 1, 1);
        int[][] wanted = {{1, 9, 2, 0}, {2, -5, 0, 1}, {2, -5, 0, 0}, {3, 0, 0, 0}, {1, 9, 2, 0}, {4, 0, 0, 0}, {0, 0, 0, 0}};
        for (int at = 0; at < wanted.length; at++) {
            for (int what = 0; what < 4; what++) {
                due("block(0, " + at + ", " + what + ")", x.block(0, at, what), wanted[at][what]);
            }
            due("block(0, " + at + ", -1)", x.block(0, at, -1), -1);
            due("block(0, " + at + ", 4)", x.block(0, at, 4), -1);
        }
        due("block(-1, 0, 0)", x.block(-1, 0, 0), -1);
        due("block(1, 0, 0)", x.block(1, 0, 0), -1);
        due("block(0, -1, 0)", x.block(0, -1, 0), -1);
        due("block(0, 100, 0)", x.block(0, 100, 0), -1);
        due("block(0, 100, 3)", x.block(0, 100, 3), -1);
        due("block(0, 99, 0)", x.block(0, 99, 0), 0);
        x.damage(0, 99, 1);
        due("block(0, 99, 3), no block there", x.block(0, 99, 3), 1);
        due("block(0, MIN, MAX)", x.block(0, MIN, MAX), -1);
    }

    private static void tapeTold() {
        Check.part("promise 16");
        TapeVault x = withFile(1, 4, 13, 2);
        due("home", x.tapeTold(0, 0), 13);
        due("home of 1", x.tapeTold(1, 0), 2);
        tapeIs(x, 0, 6, 1, 6);
        tapeIs(x, 1, 0, 0, 0);
        x.read(1, 0);
        x.read(2, 0);
        tapeIs(x, 0, 6, 2, 12);
        due("tapeTold(0, -1)", x.tapeTold(0, -1), -1);
        due("tapeTold(0, 4)", x.tapeTold(0, 4), -1);
        due("tapeTold(-1, 0)", x.tapeTold(-1, 0), -1);
        due("tapeTold(2, 0)", x.tapeTold(2, 0), -1);
        due("tapeTold(MAX, 0)", x.tapeTold(MAX, 0), -1);
    }

    private static void driveTold() {
        Check.part("promise 17");
        TapeVault x = withFile(1, 4, 13, 2);
        driveIs(x, 1, 1, 6, 0);
        driveIs(x, 0, 0, 0, 0);
        x.jam(1, 2);
        driveIs(x, 1, 1, 6, 0);
        x.read(1, 0);
        driveIs(x, 1, 2, 8, 1);
        due("driveTold(0, -1)", x.driveTold(0, -1), -1);
        due("driveTold(0, 3)", x.driveTold(0, 3), -1);
        due("driveTold(-1, 0)", x.driveTold(-1, 0), -1);
        due("driveTold(3, 0)", x.driveTold(3, 0), -1);
        due("driveTold(MIN, 0)", x.driveTold(MIN, 0), -1);
    }

    private static void told() {
        Check.part("promise 18");
        TapeVault x = withFile(1, 4, 13, 2);
        effort(x, 4 + 6, 6 + 4, 1, 0, -1);
        x.power(50);
        x.jam(1, 3);
        due("read(1, 0)", x.read(1, 0), -5);
        effort(x, 10 + 4 + 3, 10 + 9 + 4, 2, 1, 50 - 7);
        x.read(2, 0);
        x.read(-2, 0);
        x.scan(9);
        x.salvage(8);
        x.move(1, 1, 0);
        x.copy(9);
        effort(x, 17, 23, 2, 1, 43);
        due("told(-1)", x.told(-1), -1);
        due("told(5)", x.told(5), -1);
        due("told(MAX)", x.told(MAX), -1);
    }

    private static void fold() {
        Check.part("promise 19");
        TapeVault x = vault(8, 16);
        x.stage(1, 30, MAX, 12345677);
        x.copy(0);
        due("fold(), nothing was read", x.fold(), 1);
        x.read(1, 0);
        int want = 1;
        for (int k = 0; k < 30; k++) {
            want = 31 * want + MAX + k * 12345677;
        }
        due("fold(), wrapped", x.fold(), want);
        due("scan(0)", x.scan(0), 1);
        due("fold(), no reading by scan", x.fold(), want);
        due("move(1, 0, 1)", x.move(1, 0, 1), 0);
        due("fold(), nor by move", x.fold(), want);
        x.read(1, 0);
        due("fold(), NOTHING was read", x.fold(), want);
        x.jam(1, 1);
        due("read(1, 1)", x.read(1, 1), -5);
        due("fold(), a new reading", x.fold(), 1);
    }
}
