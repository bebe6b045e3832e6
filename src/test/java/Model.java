import java.util.ArrayList;
import java.util.HashMap;
import java.util.List;
import java.util.Map;

/**
 * The document told a second time, in another form (exceptions, maps and finally blocks), so that
 * random runs of calls can be answered by both and the answers set side by side.
 */
final class Model {
    private record Cell(int kind, int value, int size) {
    }

    private static final class Failure extends Exception {
        private static final long serialVersionUID = 1L;
        final int why;

        Failure(int reason) {
            super(null, null, false, false);
            why = reason;
        }
    }

    private static final class Reel {
        int home;
        final List<Cell> cells = new ArrayList<>();
        final boolean[] bad = new boolean[100];
        final Map<Integer, Integer> catalogue = new HashMap<>();
        int mounts;
        int wear;
    }

    private static final class Station {
        boolean taken;
        boolean jammed;
        int doneSinceSet;
        int jamAfter = -1;
        int uses;
        int blocks;
        int at;
    }

    private interface Work {
        int with(Station station) throws Failure;
    }

    private final List<Reel> reels = new ArrayList<>();
    private final Station[] stations = {new Station(), new Station(), new Station()};
    private int stagedName;
    private int[] stagedData = new int[0];
    private int clock;
    private int care;
    private int power = -1;
    private int jobs;
    private int failures;
    private int fold = 1;

    int tape(int cell) {
        if (cell < 0 || cell > 31 || reels.stream().anyMatch(reel -> reel.home == cell)) {
            return -1;
        }
        if (reels.size() == 12) {
            return -6;
        }
        Reel reel = new Reel();
        reel.home = cell;
        reels.add(reel);
        return reels.size() - 1;
    }

    int stage(int name, int size, int seed, int step) {
        if (noName(name) || size < 1 || size > 30) {
            return -1;
        }
        stagedName = name;
        stagedData = new int[size];
        int datum = seed;
        for (int k = 0; k < size; k++) {
            stagedData[k] = datum;
            datum += step;
        }
        return size;
    }

    int copy(int tape) {
        if (noTape(tape)) {
            return -1;
        }
        if (stagedData.length == 0) {
            return -2;
        }
        Reel reel = reels.get(tape);
        return job(() -> mount(reel, station -> {
            List<Cell> file = new ArrayList<>();
            file.add(new Cell(1, stagedName, stagedData.length));
            for (int datum : stagedData) {
                file.add(new Cell(2, datum, 0));
            }
            file.add(new Cell(3, 0, 0));
            wind(station, reel.cells.size());
            int first = reel.cells.size();
            try {
                for (Cell cell : file) {
                    write(station, reel, cell);
                }
            } catch (Failure failure) {
                close(station, reel, first);
                throw failure;
            }
            reel.catalogue.put(stagedName, first);
            return first;
        }));
    }

    int read(int name, int tape) {
        if (noName(name) || noTape(tape)) {
            return -1;
        }
        if (!reels.get(tape).catalogue.containsKey(name)) {
            return -2;
        }
        return job(() -> readFile(name, reels.get(tape)));
    }

    int move(int name, int from, int to) {
        if (noName(name) || noTape(from) || noTape(to) || from == to) {
            return -1;
        }
        Reel there = reels.get(from);
        Reel here = reels.get(to);
        if (!there.catalogue.containsKey(name)) {
            return -2;
        }
        int place = there.catalogue.get(name);
        return job(() -> mount(there, reader -> mount(here, writer -> {
            wind(reader, place);
            wind(writer, here.cells.size());
            int first = here.cells.size();
            try {
                Cell cell;
                do {
                    cell = readCell(reader, there);
                    write(writer, here, cell);
                } while (cell.kind() != 3);
            } catch (Failure failure) {
                close(writer, here, first);
                throw failure;
            }
            there.catalogue.remove(name);
            here.catalogue.put(name, first);
            return first;
        })));
    }

    int salvage(int name) {
        if (noName(name)) {
            return -1;
        }
        int last = -2;
        for (int tape = 0; tape < reels.size(); tape++) {
            Reel reel = reels.get(tape);
            if (reel.catalogue.containsKey(name)) {
                last = job(() -> readFile(name, reel));
                if (last > 0) {
                    return tape;
                }
                if (last == -4) {
                    break;
                }
            }
        }
        return last;
    }

    int scan(int tape) {
        if (noTape(tape)) {
            return -1;
        }
        Reel reel = reels.get(tape);
        return job(() -> mount(reel, station -> {
            Map<Integer, Integer> found = new HashMap<>();
            List<Cell> told = new ArrayList<>();
            for (int k = 0; k < reel.cells.size(); k++) {
                try {
                    told.add(readCell(station, reel));
                } catch (Failure failure) {
                    if (failure.why != -7) {
                        throw failure;
                    }
                    told.add(null);
                }
            }
            for (int first = 0; first < told.size(); first++) {
                Cell head = told.get(first);
                if (head != null && head.kind() == 1 && wholeFrom(told, first, head.size())) {
                    found.put(head.value(), first);
                }
            }
            reel.catalogue.clear();
            reel.catalogue.putAll(found);
            return found.size();
        }));
    }

    int lose(int tape) {
        if (noTape(tape)) {
            return -1;
        }
        int had = reels.get(tape).catalogue.size();
        reels.get(tape).catalogue.clear();
        return had;
    }

    int damage(int tape, int place, int n) {
        if (noTape(tape) || place < 0 || n < 1 || (long) place + n > 100) {
            return -1;
        }
        int fresh = 0;
        for (int k = place; k < place + n; k++) {
            fresh += reels.get(tape).bad[k] ? 0 : 1;
            reels.get(tape).bad[k] = true;
        }
        return fresh;
    }

    int jam(int drive, int n) {
        if (noDrive(drive) || stations[drive].jammed || n < -1 || n > 1000) {
            return -1;
        }
        stations[drive].jamAfter = n;
        stations[drive].doneSinceSet = 0;
        return n;
    }

    int fix(int drive) {
        if (noDrive(drive)) {
            return -1;
        }
        int was = stations[drive].jammed ? 1 : 0;
        stations[drive].jammed = false;
        stations[drive].jamAfter = -1;
        return was;
    }

    int power(int n) {
        if (n < -1 || n > 100000) {
            return -1;
        }
        power = n;
        return n;
    }

    int place(int name, int tape) {
        return noName(name) || noTape(tape) ? -1 : reels.get(tape).catalogue.getOrDefault(name, -2);
    }

    int block(int tape, int place, int what) {
        if (noTape(tape) || place < 0 || place > 99 || what < 0 || what > 3) {
            return -1;
        }
        Reel reel = reels.get(tape);
        Cell cell = place < reel.cells.size() ? reel.cells.get(place) : new Cell(0, 0, 0);
        return new int[] {cell.kind(), cell.value(), cell.size(), reel.bad[place] ? 1 : 0}[what];
    }

    int tapeTold(int tape, int what) {
        if (noTape(tape) || what < 0 || what > 3) {
            return -1;
        }
        Reel reel = reels.get(tape);
        return new int[] {reel.home, reel.cells.size(), reel.mounts, reel.wear}[what];
    }

    int driveTold(int drive, int what) {
        if (noDrive(drive) || what < 0 || what > 2) {
            return -1;
        }
        Station station = stations[drive];
        return new int[] {station.uses, station.blocks, station.jammed ? 1 : 0}[what];
    }

    int told(int what) {
        return what < 0 || what > 4 ? -1 : new int[] {clock, care, jobs, failures, power}[what];
    }

    int fold() {
        return fold;
    }

    private interface Job {
        int run() throws Failure;
    }

    private int job(Job job) {
        jobs++;
        try {
            return job.run();
        } catch (Failure failure) {
            failures++;
            return failure.why;
        }
    }

    private int mount(Reel reel, Work work) throws Failure {
        int best = -1;
        for (int d = 2; d >= 0; d--) {
            if (!stations[d].jammed && !stations[d].taken && (best < 0 || far(reel, d) <= far(reel, best))) {
                best = d;
            }
        }
        if (best < 0) {
            throw new Failure(-3);
        }
        Station station = stations[best];
        station.taken = true;
        int before = clock;
        try {
            for (int k = 0; k < far(reel, best); k++) {
                step();
            }
        } catch (Failure failure) {
            care += clock - before;
            station.taken = false;
            throw failure;
        }
        station.uses++;
        reel.mounts++;
        station.at = 0;
        try {
            return work.with(station);
        } finally {
            care += station.at * (station.jammed ? 3 : 1) + far(reel, best);
            reel.wear += station.at;
            station.taken = false;
        }
    }

    private static int far(Reel reel, int drive) {
        return Math.abs(reel.home - 8 - 8 * drive) + 1;
    }

    private void step() throws Failure {
        if (power == 0) {
            power = -1;
            throw new Failure(-4);
        }
        power = Math.max(power - 1, -1);
        clock++;
    }

    private void wind(Station station, int place) throws Failure {
        for (; station.at < place; station.at++) {
            step();
        }
    }

    private void pass(Station station) throws Failure {
        if (station.jamAfter >= 0 && station.doneSinceSet >= station.jamAfter) {
            station.jammed = true;
            station.jamAfter = -1;
            throw new Failure(-5);
        }
        step();
        station.doneSinceSet++;
        station.blocks++;
        station.at++;
    }

    private Cell readCell(Station station, Reel reel) throws Failure {
        pass(station);
        if (reel.bad[station.at - 1]) {
            throw new Failure(-7);
        }
        return reel.cells.get(station.at - 1);
    }

    private void write(Station station, Reel reel, Cell cell) throws Failure {
        if (reel.cells.size() == 100) {
            throw new Failure(-6);
        }
        pass(station);
        reel.cells.add(cell);
    }

    private void close(Station station, Reel reel, int first) {
        if (reel.cells.size() > first && reel.cells.size() < 100 && !station.jammed) {
            care++;
            reel.cells.add(new Cell(4, 0, 0));
            station.at = reel.cells.size();
        }
    }

    private int readFile(int name, Reel reel) throws Failure {
        int place = reel.catalogue.get(name);
        return mount(reel, station -> {
            fold = 1;
            wind(station, place);
            int size = readCell(station, reel).size();
            for (int k = 0; k < size; k++) {
                fold = fold * 31 + readCell(station, reel).value();
            }
            readCell(station, reel);
            return size;
        });
    }

    private static boolean wholeFrom(List<Cell> told, int first, int size) {
        for (int k = 1; k <= size + 1; k++) {
            Cell cell = first + k < told.size() ? told.get(first + k) : null;
            if (cell == null || cell.kind() != (k <= size ? 2 : 3)) {
                return false;
            }
        }
        return true;
    }

    private static boolean noName(int name) {
        return name < 0 || name > 999;
    }

    private boolean noTape(int tape) {
        return tape < 0 || tape >= reels.size();
    }

    private static boolean noDrive(int drive) {
        return drive < 0 || drive > 2;
    }
}
