/**
 * Runs of calls that a fixed sequence of numbers chooses, each answered by TapeVault and by the model.
 * A run keeps to the 512 calls that the document promises for one object.
 */
public final class ModelTest {
    private static final int RUNS = 8000;
    private static final int CALLS = 512;
    private static final int[] ODD = {
        -1, -2, 0, 1, 11, 12, 13, 31, 32, 99, 100, 101, 999, 1000, 1001, 100000, 100001, Integer.MAX_VALUE, Integer.MIN_VALUE
    };

    private final int tapes;
    private final int names;
    private long state;
    private int calls;
    private final TapeVault vault = new TapeVault();
    private final Model model = new Model();

    private ModelTest(int run) {
        state = run * 7919L + 17;
        tapes = run % 8 == 7 ? 12 : 1 + run % 5;
        names = run % 16 == 9 ? 40 : 1 + run % 3;
    }

    public static void main(String[] args) {
        for (int run = 0; run < RUNS; run++) {
            Check.part("run " + run);
            new ModelTest(run).run();
        }
        Check.end();
    }

    private void run() {
        for (int k = 0; k < tapes; k++) {
            newTape();
        }
        while (calls < CALLS) {
            if (below(2) == 0) {
                ask();
            } else if (below(5) > 0) {
                job();
            } else {
                change();
            }
        }
        // What a later call answers would be free.
        Check.due("the calls of the object", calls, CALLS);
    }

    /** A linear sequence of fixed start, so that each run of the test is the same. */
    private int below(int bound) {
        state = state * 6364136223846793005L + 1442695040888963407L;
        return (int) ((state >>> 33) % bound);
    }

    private int usually(int value) {
        return below(50) == 0 ? ODD[below(ODD.length)] : value;
    }

    private int tape() {
        return usually(below(tapes));
    }

    private int name() {
        return usually(below(names));
    }

    private void due(String call, int got, int want) {
        calls++;
        Check.due("call " + calls + ", " + call, got, want);
    }

    private void newTape() {
        int cell = usually(below(32));
        due("tape(" + cell + ")", vault.tape(cell), model.tape(cell));
    }

    private void job() {
        int name = name();
        int one = tape();
        int other = tape();
        switch (below(8)) {
            case 0: case 1: case 2:
                due("copy(" + one + ")", vault.copy(one), model.copy(one));
                break;
            case 3:
                due("read(" + name + ", " + one + ")", vault.read(name, one), model.read(name, one));
                break;
            case 4: case 5:
                due("move(" + name + ", " + one + ", " + other + ")", vault.move(name, one, other), model.move(name, one, other));
                break;
            case 6:
                due("salvage(" + name + ")", vault.salvage(name), model.salvage(name));
                break;
            default:
                due("scan(" + one + ")", vault.scan(one), model.scan(one));
                break;
        }
    }

    private void change() {
        int one = tape();
        switch (below(8)) {
            case 0: case 1:
                newStage();
                break;
            case 2:
                if (below(6) == 0) {
                    due("lose(" + one + ")", vault.lose(one), model.lose(one));
                }
                break;
            case 3:
                newDamage(one);
                break;
            case 4: {
                int drive = usually(below(3));
                int n = usually(below(50) - 1);
                due("jam(" + drive + ", " + n + ")", vault.jam(drive, n), model.jam(drive, n));
                break;
            }
            case 5: {
                int drive = usually(below(3));
                due("fix(" + drive + ")", vault.fix(drive), model.fix(drive));
                break;
            }
            case 6: {
                int n = usually(below(200) - 1);
                due("power(" + n + ")", vault.power(n), model.power(n));
                break;
            }
            default:
                if (below(8) == 0) {
                    newTape();
                }
                break;
        }
    }

    private void newStage() {
        int name = name();
        int size = usually(1 + below(3) * below(15));
        int seed = below(3) == 0 ? below(100) : 31 * below(Integer.MAX_VALUE);
        int step = below(3) == 0 ? below(100) - 50 : 17 * below(Integer.MAX_VALUE);
        due("stage(" + name + ", " + size + ", " + seed + ", " + step + ")",
            vault.stage(name, size, seed, step), model.stage(name, size, seed, step));
    }

    private void newDamage(int tape) {
        if (below(4) == 0) {
            int place = usually(below(100));
            int n = usually(1 + below(2));
            due("damage(" + tape + ", " + place + ", " + n + ")", vault.damage(tape, place, n), model.damage(tape, place, n));
        }
    }

    private void ask() {
        int tape = tape();
        int what = usually(below(5));
        switch (below(7)) {
            case 0: case 1:
                due("told(" + what + ")", vault.told(what), model.told(what));
                break;
            case 2:
                due("fold()", vault.fold(), model.fold());
                break;
            case 3: {
                int end = model.tapeTold(tape, 1);
                int place = usually(end > 4 && below(4) > 0 ? end - 1 - below(5) : below(100));
                due("block(" + tape + ", " + place + ", " + what + ")", vault.block(tape, place, what), model.block(tape, place, what));
                break;
            }
            case 4:
                due("tapeTold(" + tape + ", " + what + ")", vault.tapeTold(tape, what), model.tapeTold(tape, what));
                break;
            case 5: {
                int drive = usually(below(3));
                due("driveTold(" + drive + ", " + what + ")", vault.driveTold(drive, what), model.driveTold(drive, what));
                break;
            }
            default: {
                int name = name();
                due("place(" + name + ", " + tape + ")", vault.place(name, tape), model.place(name, tape));
                break;
            }
        }
    }
}
