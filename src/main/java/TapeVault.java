/** A vault of tapes in cells, with a hand and three drives. The promises are those of DOC.md. */
public final class TapeVault {
    public static final int BAD = -1, NOTHING = -2, NO_DRIVE = -3, CUT = -4, JAM = -5, NO_ROOM = -6, DAMAGE = -7;
    public static final int HEAD = 1, DATUM = 2, TAIL = 3, VOID = 4;

    private static final int CELLS = 32;
    private static final int DRIVES = 3;
    private static final int MOST_TAPES = 12;
    private static final int PLACES = 100;
    private static final int NAMES = 1000;
    private static final int MOST_DATA = 30;
    private static final int MOST_BLOCKS_TO_JAM = 1000;
    private static final int MOST_POWER = 100000;

    /** Of power and of jams: no end is set. */
    private static final int NEVER = -1;

    /** What a part of a job answers when it came to its end; every failure is less. */
    private static final int DONE = 0;

    private final Effort effort;
    private final Drive[] drives;
    private final Tape[] tapes;
    private final Blocks staged;
    private int tapeCount;
    private int jobs;
    private int failedJobs;
    private int fold;

    public TapeVault() {
        effort = new Effort();
        drives = new Drive[DRIVES];
        for (int number = 0; number < DRIVES; number++) {
            drives[number] = new Drive(8 + 8 * number, effort);
        }
        tapes = new Tape[MOST_TAPES];
        staged = new Blocks(MOST_DATA + 2);
        fold = 1;
    }

    public int tape(int cell) {
        if (cell < 0 || cell >= CELLS || isHome(cell)) {
            return BAD;
        }
        if (tapeCount >= MOST_TAPES) {
            return NO_ROOM;
        }
        tapes[tapeCount] = new Tape(cell);
        tapeCount++;
        return tapeCount - 1;
    }

    public int stage(int name, int size, int seed, int step) {
        if (!isName(name) || size < 1 || size > MOST_DATA) {
            return BAD;
        }
        staged.clear();
        staged.add(HEAD, name, size);
        for (int k = 0; k < size; k++) {
            staged.add(DATUM, seed + k * step, 0);
        }
        staged.add(TAIL, 0, 0);
        return size;
    }

    public int copy(int tape) {
        Tape target = findTape(tape);
        if (target == null) {
            return BAD;
        }
        if (staged.end == 0) {
            return NOTHING;
        }
        return counted(copyJob(target));
    }

    public int read(int name, int tape) {
        Tape source = findTape(tape);
        if (!isName(name) || source == null) {
            return BAD;
        }
        int head = source.listedHead(name);
        if (head == NOTHING) {
            return NOTHING;
        }
        return counted(readJob(source, head));
    }

    public int move(int name, int from, int to) {
        Tape there = findTape(from);
        Tape here = findTape(to);
        if (!isName(name) || there == null || here == null || from == to) {
            return BAD;
        }
        int head = there.listedHead(name);
        if (head == NOTHING) {
            return NOTHING;
        }
        return counted(moveJob(there, head, here));
    }

    public int salvage(int name) {
        if (!isName(name)) {
            return BAD;
        }
        int answer = NOTHING;
        for (int number = 0; number < tapeCount; number++) {
            int head = tapes[number].listedHead(name);
            if (head != NOTHING) {
                answer = counted(readJob(tapes[number], head));
                if (answer >= DONE) {
                    return number;
                }
                if (answer == CUT) {
                    return CUT;
                }
            }
        }
        return answer;
    }

    public int scan(int tape) {
        Tape looked = findTape(tape);
        if (looked == null) {
            return BAD;
        }
        return counted(scanJob(looked));
    }

    public int lose(int tape) {
        Tape lost = findTape(tape);
        return lost == null ? BAD : lost.unlistAll();
    }

    public int damage(int tape, int place, int n) {
        Tape hurt = findTape(tape);
        // n is set against what is left, since place + n could wrap.
        if (hurt == null || !isPlace(place) || n < 1 || n > PLACES - place) {
            return BAD;
        }
        return hurt.spoil(place, n);
    }

    public int jam(int drive, int n) {
        Drive set = findDrive(drive);
        if (set == null || set.jammed || n < NEVER || n > MOST_BLOCKS_TO_JAM) {
            return BAD;
        }
        set.blocksToJam = n;
        return n;
    }

    public int fix(int drive) {
        Drive mended = findDrive(drive);
        if (mended == null) {
            return BAD;
        }
        int was = mended.jammed ? 1 : 0;
        mended.jammed = false;
        mended.blocksToJam = NEVER;
        return was;
    }

    public int power(int n) {
        if (n < NEVER || n > MOST_POWER) {
            return BAD;
        }
        effort.powerLeft = n;
        return n;
    }

    public int place(int name, int tape) {
        Tape asked = findTape(tape);
        if (!isName(name) || asked == null) {
            return BAD;
        }
        return asked.listedHead(name);
    }

    public int block(int tape, int place, int what) {
        Tape asked = findTape(tape);
        if (asked == null || !isPlace(place)) {
            return BAD;
        }
        switch (what) {
            case 0: return asked.blocks.kindAt(place);
            case 1: return asked.blocks.valueAt(place);
            case 2: return asked.blocks.sizeAt(place);
            case 3: return asked.isDamaged(place) ? 1 : 0;
            default: return BAD;
        }
    }

    public int tapeTold(int tape, int what) {
        Tape asked = findTape(tape);
        if (asked == null) {
            return BAD;
        }
        switch (what) {
            case 0: return asked.home;
            case 1: return asked.blocks.end;
            case 2: return asked.mounts;
            case 3: return asked.wear;
            default: return BAD;
        }
    }

    public int driveTold(int drive, int what) {
        Drive asked = findDrive(drive);
        if (asked == null) {
            return BAD;
        }
        switch (what) {
            case 0: return asked.uses;
            case 1: return asked.blocksDone;
            case 2: return asked.jammed ? 1 : 0;
            default: return BAD;
        }
    }

    public int told(int what) {
        switch (what) {
            case 0: return effort.clock;
            case 1: return effort.care;
            case 2: return jobs;
            case 3: return failedJobs;
            case 4: return effort.powerLeft;
            default: return BAD;
        }
    }

    public int fold() {
        return fold;
    }

    private static boolean isName(int name) {
        return name >= 0 && name < NAMES;
    }

    private static boolean isPlace(int place) {
        return place >= 0 && place < PLACES;
    }

    private boolean isHome(int cell) {
        for (int number = 0; number < tapeCount; number++) {
            if (tapes[number].home == cell) {
                return true;
            }
        }
        return false;
    }

    /** Null, if there is no such tape. */
    private Tape findTape(int number) {
        return number >= 0 && number < tapeCount ? tapes[number] : null;
    }

    /** Null, if there is no such drive. */
    private Drive findDrive(int number) {
        return number >= 0 && number < DRIVES ? drives[number] : null;
    }

    private int counted(int answer) {
        jobs++;
        if (answer < DONE) {
            failedJobs++;
        }
        return answer;
    }

    /** Null, if all drives are jammed or taken. */
    private Drive nearestDrive(Tape tape) {
        Drive nearest = null;
        for (int number = 0; number < DRIVES; number++) {
            Drive drive = drives[number];
            if (drive.isReady() && (nearest == null || drive.distance(tape) < nearest.distance(tape))) {
                nearest = drive;
            }
        }
        return nearest;
    }

    private int copyJob(Tape target) {
        Drive drive = nearestDrive(target);
        if (drive == null) {
            return NO_DRIVE;
        }
        int answer = drive.carry(target);
        if (answer == DONE) {
            answer = writeStaged(drive, target.blocks.end);
        }
        drive.bringHome();
        if (answer >= DONE) {
            target.list(answer);
        }
        return answer;
    }

    private int writeStaged(Drive drive, int head) {
        int why = drive.windTo(head);
        for (int k = 0; k < staged.end && why == DONE; k++) {
            why = drive.writeBlock(staged, k);
        }
        return drive.endWriting(head, why);
    }

    private int readJob(Tape source, int head) {
        Drive drive = nearestDrive(source);
        if (drive == null) {
            return NO_DRIVE;
        }
        int answer = drive.carry(source);
        if (answer == DONE) {
            answer = readFile(drive, source.blocks, head);
        }
        drive.bringHome();
        return answer;
    }

    private int readFile(Drive drive, Blocks blocks, int head) {
        fold = 1;
        int size = blocks.sizeAt(head);
        int tail = head + size + 1;
        int why = drive.windTo(head);
        for (int at = head; at <= tail && why == DONE; at++) {
            why = drive.readBlock();
            if (why == DONE && blocks.kindAt(at) == DATUM) {
                fold = 31 * fold + blocks.valueAt(at);
            }
        }
        return why == DONE ? size : why;
    }

    private int moveJob(Tape there, int head, Tape here) {
        Drive drive = nearestDrive(there);
        if (drive == null) {
            return NO_DRIVE;
        }
        int answer = drive.carry(there);
        if (answer == DONE) {
            answer = moveInto(here, drive, there.blocks, head);
        }
        drive.bringHome();
        if (answer >= DONE) {
            here.list(answer);
            there.unlist(head);
        }
        return answer;
    }

    /** The second mount of a move, inside that of the tape which has the file. */
    private int moveInto(Tape here, Drive reader, Blocks source, int from) {
        Drive writer = nearestDrive(here);
        if (writer == null) {
            return NO_DRIVE;
        }
        int answer = writer.carry(here);
        if (answer == DONE) {
            answer = moveBlocks(reader, source, from, writer, here.blocks.end);
        }
        writer.bringHome();
        return answer;
    }

    private int moveBlocks(Drive reader, Blocks source, int from, Drive writer, int head) {
        int tail = from + source.sizeAt(from) + 1;
        int why = reader.windTo(from);
        if (why == DONE) {
            why = writer.windTo(head);
        }
        for (int at = from; at <= tail && why == DONE; at++) {
            why = reader.readBlock();
            if (why == DONE) {
                why = writer.writeBlock(source, at);
            }
        }
        return writer.endWriting(head, why);
    }

    private int scanJob(Tape tape) {
        Drive drive = nearestDrive(tape);
        if (drive == null) {
            return NO_DRIVE;
        }
        int answer = drive.carry(tape);
        if (answer == DONE) {
            answer = drive.lookThrough();
        }
        drive.bringHome();
        return answer == DONE ? tape.listAllThatTell() : answer;
    }

    /** The clock, care, and the power that work needs. */
    private static final class Effort {
        int clock;
        int care;
        int powerLeft = NEVER;

        /** A step of work, if there is power for it; without power it is a CUT. */
        boolean work() {
            if (powerLeft == 0) {
                powerLeft = NEVER;
                return false;
            }
            if (powerLeft > 0) {
                powerLeft--;
            }
            clock++;
            return true;
        }
    }

    /** A row of blocks that fills from 0 on: each tape has one, and the stage, whose file is held as its blocks. */
    private static final class Blocks {
        final int[] kinds;
        /** The name of a HEAD, or a datum. */
        final int[] values;
        final int[] sizes;
        int end;

        Blocks(int places) {
            kinds = new int[places];
            values = new int[places];
            sizes = new int[places];
        }

        void clear() {
            end = 0;
        }

        boolean isFull() {
            return end >= kinds.length;
        }

        void add(int kind, int value, int size) {
            if (isFull()) {
                return;
            }
            kinds[end] = kind;
            values[end] = value;
            sizes[end] = size;
            end++;
        }

        boolean has(int at) {
            return at >= 0 && at < end;
        }

        int kindAt(int at) {
            return has(at) ? kinds[at] : 0;
        }

        int valueAt(int at) {
            return has(at) ? values[at] : 0;
        }

        int sizeAt(int at) {
            return has(at) ? sizes[at] : 0;
        }
    }

    private static final class Tape {
        final int home;
        final Blocks blocks = new Blocks(PLACES);
        final boolean[] damaged = new boolean[PLACES];
        /** The places of the HEADs that the catalogue has of this tape. */
        final boolean[] listed = new boolean[PLACES];
        int mounts;
        int wear;

        Tape(int cell) {
            home = cell;
        }

        boolean isDamaged(int at) {
            return at >= 0 && at < PLACES && damaged[at];
        }

        int spoil(int from, int n) {
            int fresh = 0;
            for (int at = from; at < from + n; at++) {
                if (!damaged[at]) {
                    damaged[at] = true;
                    fresh++;
                }
            }
            return fresh;
        }

        /** NOTHING, if the catalogue has none of the name. */
        int listedHead(int name) {
            for (int at = 0; at < blocks.end; at++) {
                if (listed[at] && blocks.valueAt(at) == name) {
                    return at;
                }
            }
            return NOTHING;
        }

        /** The catalogue has one place of a name, so another one goes. */
        void list(int head) {
            unlist(listedHead(blocks.valueAt(head)));
            listed[head] = true;
        }

        void unlist(int head) {
            if (head >= 0 && head < PLACES) {
                listed[head] = false;
            }
        }

        int unlistAll() {
            int had = 0;
            for (int at = 0; at < PLACES; at++) {
                if (listed[at]) {
                    listed[at] = false;
                    had++;
                }
            }
            return had;
        }

        int listAllThatTell() {
            unlistAll();
            for (int at = 0; at < blocks.end; at++) {
                if (tellsFile(at)) {
                    list(at);
                }
            }
            return listedCount();
        }

        int listedCount() {
            int count = 0;
            for (int at = 0; at < PLACES; at++) {
                if (listed[at]) {
                    count++;
                }
            }
            return count;
        }

        boolean tellsFile(int head) {
            int tail = head + blocks.sizeAt(head) + 1;
            if (!tells(head, HEAD) || !tells(tail, TAIL)) {
                return false;
            }
            for (int at = head + 1; at < tail; at++) {
                if (!tells(at, DATUM)) {
                    return false;
                }
            }
            return true;
        }

        boolean tells(int at, int kind) {
            return blocks.kindAt(at) == kind && !isDamaged(at);
        }
    }

    /** A drive, with the mount that it is taken for. */
    private static final class Drive {
        final int stand;
        final Effort effort;
        int uses;
        int blocksDone;
        boolean jammed;
        /** Told only while the drive is not jammed. */
        int blocksToJam = NEVER;
        /** The tape that the drive is taken for, or null. */
        Tape mounted;
        int carried;
        /** Where the tape stands; 0 also while it is carried, when there is nothing to wind back. */
        int position;

        Drive(int where, Effort shared) {
            stand = where;
            effort = shared;
        }

        boolean isReady() {
            return !jammed && mounted == null;
        }

        int distance(Tape tape) {
            return Math.abs(tape.home - stand) + 1;
        }

        int carry(Tape tape) {
            mounted = tape;
            position = 0;
            int way = distance(tape);
            for (carried = 0; carried < way; carried++) {
                if (!effort.work()) {
                    return CUT;
                }
            }
            uses++;
            tape.mounts++;
            return DONE;
        }

        /** A tape is wound once in a mount, from 0, so always forwards. */
        int windTo(int place) {
            while (position < place) {
                if (!effort.work()) {
                    return CUT;
                }
                position++;
            }
            return DONE;
        }

        /** What reading and writing a block have in common. */
        int passBlock() {
            if (blocksToJam == 0) {
                jammed = true;
                return JAM;
            }
            if (!effort.work()) {
                return CUT;
            }
            if (blocksToJam > 0) {
                blocksToJam--;
            }
            blocksDone++;
            position++;
            return DONE;
        }

        int readBlock() {
            int at = position;
            int why = passBlock();
            if (why == DONE && mounted != null && mounted.isDamaged(at)) {
                return DAMAGE;
            }
            return why;
        }

        int writeBlock(Blocks source, int at) {
            if (mounted == null || mounted.blocks.isFull()) {
                return NO_ROOM;
            }
            int why = passBlock();
            if (why == DONE) {
                mounted.blocks.add(source.kindAt(at), source.valueAt(at), source.sizeAt(at));
            }
            return why;
        }

        /** Answers where the file's HEAD is, or why it is not whole; then what stands of it is closed. */
        int endWriting(int head, int why) {
            if (why == DONE) {
                return head;
            }
            if (mounted != null && mounted.blocks.end > head) {
                closeWithVoid(mounted.blocks);
            }
            return why;
        }

        void closeWithVoid(Blocks blocks) {
            if (jammed || blocks.isFull()) {
                return;
            }
            effort.care++;
            blocks.add(VOID, 0, 0);
            position = blocks.end;
        }

        int lookThrough() {
            int why = DONE;
            int end = mounted == null ? 0 : mounted.blocks.end;
            for (int at = 0; at < end && (why == DONE || why == DAMAGE); at++) {
                why = readBlock();
            }
            return why == DAMAGE ? DONE : why;
        }

        void bringHome() {
            effort.care += jammed ? 3 * position : position;
            if (mounted != null) {
                mounted.wear += position;
            }
            effort.care += carried;
            mounted = null;
        }
    }
}
