import java.util.NoSuchElementException;

/** A flash file store of wandering tree nodes. What it must do is told in the document, by promises. */
public final class FlashNodes {
    /** None. */
    public static final int NONE = -1;

    private static final int OTHERS = -2;
    private static final int POWER_CUT = -2;

    private static final int MOST_BLOCKS = 6;
    private static final int MOST_SLOTS = 6;
    private static final int MOST_RESERVE = 8;
    private static final int ALL_SLOTS = 36;
    private static final int MOST_FILES = 5;
    private static final int MOST_PAGES = 4;
    private static final int ALL_PAGES = 20;
    private static final int TO_A_PART = 4;
    private static final int MOST_VALUE = 255;

    private final Tape tape;
    private Plan plan;
    private Plan nextPlan;
    private Script script;
    private Script nextScript;
    private final Finder finder;
    private final Disk disk;
    private final Disk trial;
    private final Clues clues;
    private final Judge judge;
    private final Lives draws;
    private final Disk[] markedDisk;
    private final Clues[] markedClues;
    private final boolean[] marked;

    /** Nothing. */
    public FlashNodes() {
        tape = new Tape();
        plan = new Plan();
        nextPlan = new Plan();
        script = new Script();
        nextScript = new Script();
        finder = new Finder();
        disk = new Disk(plan, finder, null);
        trial = new Disk(plan, finder, null);
        clues = new Clues();
        judge = new Judge(plan, finder);
        draws = new Lives();
        markedDisk = new Disk[] {new Disk(plan, finder, null), new Disk(plan, finder, null)};
        markedClues = new Clues[] {new Clues(), new Clues()};
        marked = new boolean[] {false, false};
    }

    /** Up to 24 signs come behind the TAPE: how many there are. */
    public int feed(long a, long b, long c) {
        tape.add(a);
        tape.add(b);
        tape.add(c);
        return tape.length;
    }

    /** The TAPE is read as a STORE: 0, or its FAULT. */
    public int store() {
        boolean right = nextPlan.read(tape);
        if (right) {
            Plan old = plan;
            plan = nextPlan;
            nextPlan = old;
            startAnew();
        }
        return tape.taken(right);
    }

    private void startAnew() {
        disk.start(plan);
        script.clear();
        clues.clear();
        marked[0] = false;
        marked[1] = false;
        judge.forget();
    }

    /** The TAPE is read as a WORK: 0, or its FAULT. */
    public int work() {
        boolean right = nextScript.read(tape, plan);
        if (right) {
            Script old = script;
            script = nextScript;
            nextScript = old;
            judge.forget();
        }
        return tape.taken(right);
    }

    /** Of a SLOT: its kind, SEQ, FILE, page, value, whether it is LIVE. */
    public int slot(int slot, int what) {
        if (!disk.chip.isSlot(slot) || what < 0 || what > 5) {
            return OTHERS;
        }
        if (what == 5) {
            return disk.isLive(slot) ? 1 : 0;
        }
        return disk.chip.tell(slot, what);
    }

    /** Of a BLOCK: ERASED, LIVE, DIRTY SLOTS, how many times it was erased, whether it is the HEAD. */
    public int block(int block, int what) {
        if (!disk.chip.isBlock(block)) {
            return NONE;
        }
        disk.survey();
        switch (what) {
            case 0:
                return disk.chip.left[block];
            case 1:
                return disk.liveIn[block];
            case 2:
                return disk.dirtyIn(block);
            case 3:
                return disk.chip.erasures[block];
            case 4:
                return disk.chip.head == block ? 1 : 0;
            default:
                return NONE;
        }
    }

    /** Of a FILE: KIND, pages, MAPPED ones as bits, whether it is OPEN, an ORPHAN. */
    public int file(int file, int what) {
        if (!plan.isFile(file)) {
            return NONE;
        }
        switch (what) {
            case 0:
                return plan.kinds[file];
            case 1:
                return plan.pages[file];
            case 2:
                return disk.mappedBits(file);
            case 3:
                return disk.isOpen(file) ? 1 : 0;
            case 4:
                return disk.isOrphan(file) ? 1 : 0;
            default:
                return NONE;
        }
    }

    /** WRITE: the SEQ of the page; NONE: it can't be; -2: the power was CUT in it. */
    public int write(int file, int page, int value) {
        return disk.writePage(file, page, value);
    }

    /** REMOVE: the SEQ of GONE; NONE: it can't be; -2: the power was CUT in it. */
    public int remove(int file) {
        return disk.removeFile(file);
    }

    /** OPEN. */
    public boolean open(int file) {
        return disk.openFile(file);
    }

    /** CLOSE. */
    public boolean close(int file) {
        return disk.closeFile(file);
    }

    /** COMMIT: how many parts; NONE: it can't be; -2: the power was CUT in it. */
    public int commit() {
        return disk.commitPages();
    }

    /** COLLECT: the BLOCK; NONE: it can't be; -2: the power was CUT in it. */
    public int collect() {
        return disk.collectBlock();
    }

    /** The power is to be CUT at a PUT from now on. */
    public boolean cut(int puts) {
        return disk.cutAt(puts);
    }

    /** MOUNT: how long the JOURNAL is. */
    public int mount() {
        return disk.mountAgain();
    }

    /** JUDGED: the first line that can't be; how many PUTS; how many SLOTS are ERASED at last; how many COLLECTS. */
    public int judged(int what) {
        if (what < 0 || what > 3) {
            return OTHERS;
        }
        judge.run(plan, script);
        return judge.tell(what);
    }

    /** SAYS: the value of a page. */
    public int says(int file, int page) {
        return plan.isPage(file, page) ? disk.valueOf(file * MOST_PAGES + page) : NONE;
    }

    /** MAY: whether a page could be WRITTEN now, without a COLLECT. */
    public boolean may(int file, int page) {
        return disk.mayWrite(file, page) && disk.hasRoomToWrite(file, page);
    }

    /** SPARE: how many SLOTS are ERASED beyond the PARTS and the reserve. */
    public int spare() {
        return Math.max(0, disk.chip.erased - disk.parts() - plan.reserve);
    }

    /** PICK: the BLOCK that COLLECT takes now. */
    public int pick() {
        return disk.picked();
    }

    /** GAIN: how many more SLOTS are ERASED by a COLLECT. */
    public int gain() {
        return disk.gained();
    }

    /** ROUNDS: how many COLLECTS it takes till so many SLOTS are ERASED. */
    public int rounds(int slots) {
        if (slots < 0 || slots > ALL_SLOTS) {
            return NONE;
        }
        tryFromNow();
        for (int round = 0; round <= ALL_SLOTS; round++) {
            if (trial.chip.erased >= slots) {
                return round;
            }
            if (trial.collectBlock() < 0) {
                return NONE;
            }
        }
        return NONE;
    }

    private void tryFromNow() {
        trial.copyFrom(disk);
        trial.cutIn = 0;
    }

    /** FOUND: how many pages a MOUNT would map now. */
    public int found() {
        return disk.foundPages();
    }

    /** AGREES: whether a MOUNT would map just what is MAPPED now, but ORPHANS. */
    public boolean agrees() {
        return disk.agreesWithFound();
    }

    /** LOSES: how many MAPPED pages a MOUNT would not map. */
    public int loses() {
        return disk.lostPages();
    }

    /** WEAR: how many times more the BLOCK erased the most was than the one erased the fewest. */
    public int wear() {
        return disk.chip.spreadOfErasures();
    }

    /** OLDEST: the least SEQ of a LIVE NODE. */
    public int oldest() {
        int slot = disk.slotOfLive(0);
        return disk.chip.isSlot(slot) ? disk.chip.seq[slot] : NONE;
    }

    /** HOT: the FILE of which the most NODES of DATA are DIRTY. */
    public int hot() {
        return disk.hottestFile();
    }

    /** COPIES: how many NODES of DATA of a page there are. */
    public int copies(int file, int page) {
        return plan.isPage(file, page) ? disk.chip.countData(file, page, false) : NONE;
    }

    /** CHAIN: how many SEQS the NODES of DATA of a page have, each once. */
    public int chain(int file, int page) {
        return plan.isPage(file, page) ? disk.chip.countData(file, page, true) : NONE;
    }

    /** AFTER: what a page SAYS if the WORK is CUT at a PUT, and MOUNTED. */
    public int after(int put, int file, int page) {
        if (put < 1 || put > 200 || !plan.isPage(file, page)) {
            return OTHERS;
        }
        judge.run(plan, script);
        return judge.saysAfter(put, file * MOST_PAGES + page);
    }

    /** ENDS: to how many different MAPS the WORK leads, CUT at each of its PUTS. */
    public int ends() {
        judge.run(plan, script);
        return judge.ends.different;
    }

    /** HALVES: at how many PUTS of the WORK a line is left half done. */
    public int halves() {
        judge.run(plan, script);
        return judge.halfDone;
    }

    /** SEEN: what a page SAID, or did not say, when the WORK had been CUT. */
    public boolean see(int file, int page, int value, boolean is) {
        if (!plan.isPage(file, page) || value < NONE || value > MOST_VALUE) {
            return false;
        }
        return clues.add(file * MOST_PAGES + page, value, is);
    }

    /** CUTS: by how many PUTS all SEEN is so. */
    public int cuts() {
        judge.run(plan, script);
        return judge.ends.fitting(clues);
    }

    /** LOOK: the page that parts the CUTS best. */
    public int look() {
        judge.run(plan, script);
        return judge.ends.bestPage(clues, plan);
    }

    /** The SLOT of the LIVE NODE of the i-th least SEQ. */
    public int lives(int i) throws NoSuchElementException {
        int slot = disk.slotOfLive(i);
        if (slot < 0) {
            throw new NoSuchElementException("there are not so many");
        }
        return slot;
    }

    /** LIVES by a SEED: how many acts could be; how many SLOTS are ERASED, how many pages MAPPED at last. */
    public int ages(int seed, int acts, int what) {
        if (!disk.power || seed < 0 || seed > 9999 || acts < 1 || acts > 99 || what < 0 || what > 2) {
            return NONE;
        }
        tryFromNow();
        int could = draws.run(trial, seed, acts);
        if (what == 0) {
            return could;
        }
        return what == 1 ? trial.chip.erased : trial.mappedPages();
    }

    /** A MARK is laid, or gone back to. */
    public boolean mark(int mark, boolean back) {
        if (mark < 0 || mark >= marked.length) {
            return false;
        }
        if (!back) {
            markedDisk[mark].copyFrom(disk);
            markedClues[mark].copyFrom(clues);
            marked[mark] = true;
            return true;
        }
        if (!marked[mark]) {
            return false;
        }
        disk.copyFrom(markedDisk[mark]);
        clues.copyFrom(markedClues[mark]);
        return true;
    }

    /** How many there are of many things. */
    public int count(int what) {
        switch (what) {
            case 0:
                return plan.blocks;
            case 1:
                return plan.slots;
            case 2:
                return plan.files;
            case 12:
                return disk.cutIn;
            case 14:
                return script.lines;
            case 15:
                return clues.count;
            case 16:
                return tape.length;
            default:
                return disk.tell(what);
        }
    }

    /** The signs fed, read from the left as TOKENS. */
    private static final class Tape {
        static final int END = 0;
        static final int WORD = 1;
        static final int NUMBER = 2;
        static final int SIGN = 3;
        static final int NO_TOKEN = 4;

        static final int BLOCKS = 0;
        static final int SLOTS = 1;
        static final int RESERVE = 2;
        static final int FILE = 3;
        static final int PAGES = 4;
        static final int COLLECTS = 5;
        static final int FIRST_ACT = 6;
        static final int LAST_ACT = 11;
        static final int FIRST_KIND = 12;
        static final int LAST_KIND = 15;
        static final int NOT = 16;
        static final int AND = 17;
        static final int OR = 18;
        static final int FIRST_FACT = 19;
        static final int LAST_FACT = 22;

        static final int WRONG_TOKEN = 1;
        static final int NO_FILE = 2;
        static final int TOLD_ALREADY = 3;
        static final int WRONG_NUMBER = 4;
        static final int TOO_MANY = 5;

        private static final int LONGEST_WORD = 8;
        private static final int LONGEST_NUMBER = 4;
        private static final int KNOWN_WORDS = 23;
        /** The words with a meaning of their own, eight signs to each. */
        private static final String WORDS = "blocks  slots   reserve file    pages   collectswrite   remove  open    close   commit  collect plain   log     twin    sync    not     and     or      erased  live    dirty   journal ";
        private static final String SIGNS = "()<=+-*;";
        private static final int MOST = 1000;

        private final char[] signs = new char[MOST];
        int length;
        int type;
        int word;
        int number;
        char sign;
        long name;
        private int start;
        private int behind;
        private int fault;

        void add(long bytes) {
            for (int shift = 56; shift >= 0; shift -= 8) {
                char c = (char) ((bytes >>> shift) & 255);
                if (length < MOST && (c == 10 || c >= 32 && c <= 126)) {
                    signs[length] = c;
                    length++;
                }
            }
        }

        /** The TAPE is empty then: 0, or the FAULT. */
        int taken(boolean right) {
            length = 0;
            return right ? 0 : fault;
        }

        void begin() {
            fault = 0;
            behind = 0;
            next();
        }

        boolean fail(int kind) {
            fault = kind + 16 * start;
            return false;
        }

        void next() {
            start = behind;
            while (start < length && (signs[start] == 10 || signs[start] == 32)) {
                start++;
            }
            word = NONE;
            number = NONE;
            sign = 0;
            behind = start;
            if (start >= length) {
                type = END;
            } else if (isLetter(signs[start])) {
                readWord();
            } else if (isDigit(signs[start])) {
                readNumber();
            } else {
                sign = signs[start];
                type = SIGNS.indexOf(sign) >= 0 ? SIGN : NO_TOKEN;
                behind = start + 1;
            }
            if (type == WORD) {
                word = knownWord();
            }
        }

        private static boolean isLetter(char c) {
            return c >= 'a' && c <= 'z';
        }

        private static boolean isDigit(char c) {
            return c >= '0' && c <= '9';
        }

        private void readWord() {
            name = 0;
            while (behind < length && isLetter(signs[behind])) {
                // Eight letters fit into the long; of a longer WORD the name is never asked for.
                name = name * 32 + (signs[behind] - 'a' + 1);
                behind++;
            }
            type = behind - start <= LONGEST_WORD ? WORD : NO_TOKEN;
        }

        private void readNumber() {
            number = 0;
            while (behind < length && isDigit(signs[behind])) {
                number = number * 10 + (signs[behind] - '0');
                behind++;
            }
            type = behind - start <= LONGEST_NUMBER ? NUMBER : NO_TOKEN;
        }

        /** Which of the words with a meaning of their own stands here, or NONE. */
        private int knownWord() {
            for (int known = 0; known < KNOWN_WORDS; known++) {
                int like = 0;
                while (like < LONGEST_WORD && WORDS.charAt(known * LONGEST_WORD + like) == letter(like)) {
                    like++;
                }
                if (like == LONGEST_WORD) {
                    return known;
                }
            }
            return NONE;
        }

        private char letter(int i) {
            return start + i < behind ? signs[start + i] : ' ';
        }

        boolean isName() {
            return type == WORD && (word < 0 || word >= FIRST_FACT);
        }

        boolean isSign(char wanted) {
            return type == SIGN && sign == wanted;
        }

        boolean isFact() {
            return word >= FIRST_FACT && word <= LAST_FACT;
        }

        boolean takeSign(char wanted) {
            if (!isSign(wanted)) {
                return fail(WRONG_TOKEN);
            }
            next();
            return true;
        }

        /** The NUMBER that stands here, or NONE: it is wrong. */
        int takeNumber(int least, int most) {
            if (type != NUMBER) {
                fail(WRONG_TOKEN);
                return NONE;
            }
            if (number < least || number > most) {
                fail(WRONG_NUMBER);
                return NONE;
            }
            int taken = number;
            next();
            return taken;
        }
    }

    /** The E of collects, kept with each sign behind what it joins. */
    private static final class Rule {
        private static final int MOST = 1000;
        private static final int DEEPEST = 5;
        /** Five levels hold four waiting values each, and there is the one at hand. */
        private static final int MOST_WAITING = 32;

        /** A NUMBER stands for itself, the four facts are -1 to -4. */
        private static final int NEGATE = -5;
        private static final int TIMES = -6;
        private static final int PLUS = -7;
        private static final int MINUS = -8;
        private static final int LESS = -9;
        private static final int SAME = -10;
        private static final int BOTH = -11;
        private static final int EITHER = -12;

        private final int[] code = new int[MOST];
        private final int[] waiting = new int[MOST_WAITING];
        private final int[] facts = new int[4];
        int size;

        boolean read(Tape tape) {
            size = 0;
            return readAll(tape, 0);
        }

        private void emit(int c) {
            if (size < MOST) {
                code[size] = c;
                size++;
            }
        }

        private boolean readAll(Tape tape, int depth) {
            boolean right = readTest(tape, depth);
            for (int i = 0; i < MOST && right && (tape.word == Tape.AND || tape.word == Tape.OR); i++) {
                int joint = tape.word == Tape.AND ? BOTH : EITHER;
                tape.next();
                right = readTest(tape, depth);
                emit(joint);
            }
            return right;
        }

        private boolean readTest(Tape tape, int depth) {
            boolean right = readSum(tape, depth);
            if (right && (tape.isSign('<') || tape.isSign('='))) {
                int joint = tape.isSign('<') ? LESS : SAME;
                tape.next();
                right = readSum(tape, depth);
                emit(joint);
            }
            return right;
        }

        private boolean readSum(Tape tape, int depth) {
            boolean right = readProduct(tape, depth);
            for (int i = 0; i < MOST && right && (tape.isSign('+') || tape.isSign('-')); i++) {
                int joint = tape.isSign('+') ? PLUS : MINUS;
                tape.next();
                right = readProduct(tape, depth);
                emit(joint);
            }
            return right;
        }

        private boolean readProduct(Tape tape, int depth) {
            boolean right = readPart(tape, depth);
            for (int i = 0; i < MOST && right && tape.isSign('*'); i++) {
                tape.next();
                right = readPart(tape, depth);
                emit(TIMES);
            }
            return right;
        }

        private boolean readPart(Tape tape, int depth) {
            boolean plain = tape.type == Tape.NUMBER || tape.isFact();
            boolean negated = tape.word == Tape.NOT;
            if (!plain && !negated && !tape.isSign('(')) {
                return tape.fail(Tape.WRONG_TOKEN);
            }
            if (depth >= DEEPEST) {
                return tape.fail(Tape.TOO_MANY);
            }
            if (plain) {
                emit(tape.type == Tape.NUMBER ? tape.number : Tape.FIRST_FACT - 1 - tape.word);
                tape.next();
                return true;
            }
            tape.next();
            if (negated) {
                boolean right = readPart(tape, depth + 1);
                emit(NEGATE);
                return right;
            }
            if (!readAll(tape, depth + 1)) {
                return false;
            }
            if (!tape.isSign(')')) {
                return tape.fail(Tape.WRONG_TOKEN);
            }
            tape.next();
            return true;
        }

        int value(int erased, int live, int dirty, int journal) {
            facts[0] = erased;
            facts[1] = live;
            facts[2] = dirty;
            facts[3] = journal;
            int top = 0;
            for (int i = 0; i < size; i++) {
                int c = code[i];
                if (c > NEGATE && top < MOST_WAITING) {
                    waiting[top] = c >= 0 ? c : facts[-1 - c];
                    top++;
                } else if (c == NEGATE && top > 0) {
                    waiting[top - 1] = waiting[top - 1] == 0 ? 1 : 0;
                } else if (c < NEGATE && top > 1) {
                    top--;
                    waiting[top - 1] = joined(c, waiting[top - 1], waiting[top]);
                }
            }
            return top > 0 ? waiting[0] : 0;
        }

        private static int joined(int joint, int left, int right) {
            switch (joint) {
                case TIMES:
                    return left * right;
                case PLUS:
                    return left + right;
                case MINUS:
                    return left - right;
                case LESS:
                    return left < right ? 1 : 0;
                case SAME:
                    return left == right ? 1 : 0;
                case BOTH:
                    return left != 0 && right != 0 ? 1 : 0;
                default:
                    return left != 0 || right != 0 ? 1 : 0;
            }
        }
    }

    /** The STORE as told. */
    private static final class Plan {
        static final int LOG = 1;
        static final int TWIN = 2;
        static final int SYNC = 3;

        int blocks;
        int slots;
        int reserve;
        int files;
        final int[] kinds = new int[MOST_FILES];
        final int[] pages = new int[MOST_FILES];
        final Rule rule = new Rule();
        private final long[] names = new long[MOST_FILES];
        private int told;

        boolean isFile(int file) {
            return file >= 0 && file < files && file < MOST_FILES;
        }

        boolean isPage(int file, int page) {
            return isFile(file) && page >= 0 && page < pages[file];
        }

        /** The FILE of that name, or NONE. */
        int fileNamed(long name) {
            for (int file = 0; file < files && file < MOST_FILES; file++) {
                if (names[file] == name) {
                    return file;
                }
            }
            return NONE;
        }

        private void clear() {
            blocks = 0;
            slots = 0;
            reserve = 0;
            files = 0;
            told = 0;
            rule.size = 0;
        }

        boolean read(Tape tape) {
            clear();
            tape.begin();
            boolean right = true;
            // A line has a sign at least, so there are no more lines than signs.
            for (int line = 0; line < Tape.MOST && right && tape.type != Tape.END; line++) {
                right = readLine(tape) && tape.takeSign(';');
            }
            return right;
        }

        private boolean readLine(Tape tape) {
            int word = tape.word;
            if (word == Tape.FILE) {
                return readFile(tape);
            }
            if (word < Tape.BLOCKS || word > Tape.COLLECTS || word == Tape.PAGES) {
                return tape.fail(Tape.WRONG_TOKEN);
            }
            if ((told & 1 << word) != 0) {
                return tape.fail(Tape.TOLD_ALREADY);
            }
            told |= 1 << word;
            tape.next();
            switch (word) {
                case Tape.BLOCKS:
                    blocks = tape.takeNumber(1, MOST_BLOCKS);
                    return blocks >= 0;
                case Tape.SLOTS:
                    slots = tape.takeNumber(1, MOST_SLOTS);
                    return slots >= 0;
                case Tape.RESERVE:
                    reserve = tape.takeNumber(0, MOST_RESERVE);
                    return reserve >= 0;
                default:
                    return rule.read(tape);
            }
        }

        private boolean readFile(Tape tape) {
            if (files >= MOST_FILES) {
                return tape.fail(Tape.TOO_MANY);
            }
            tape.next();
            if (!tape.isName()) {
                return tape.fail(Tape.WRONG_TOKEN);
            }
            if (fileNamed(tape.name) >= 0) {
                return tape.fail(Tape.TOLD_ALREADY);
            }
            long name = tape.name;
            tape.next();
            if (tape.word < Tape.FIRST_KIND || tape.word > Tape.LAST_KIND) {
                return tape.fail(Tape.WRONG_TOKEN);
            }
            int kind = tape.word - Tape.FIRST_KIND;
            tape.next();
            if (tape.word != Tape.PAGES) {
                return tape.fail(Tape.WRONG_TOKEN);
            }
            tape.next();
            int most = tape.takeNumber(1, MOST_PAGES);
            if (most < 0) {
                return false;
            }
            names[files] = name;
            kinds[files] = kind;
            pages[files] = most;
            files++;
            return true;
        }
    }

    /** The WORK: what each of its lines does. */
    private static final class Script {
        static final int WRITE = 0;
        static final int REMOVE = 1;
        static final int OPEN = 2;
        static final int CLOSE = 3;
        static final int COMMIT = 4;
        static final int COLLECT = 5;
        static final int MOST = 24;

        int lines;
        final int[] acts = new int[MOST];
        final int[] files = new int[MOST];
        final int[] pages = new int[MOST];
        final int[] values = new int[MOST];

        void clear() {
            lines = 0;
        }

        boolean read(Tape tape, Plan plan) {
            clear();
            tape.begin();
            boolean right = true;
            for (int line = 0; line <= MOST && right && tape.type != Tape.END; line++) {
                right = readLine(tape, plan) && tape.takeSign(';');
            }
            return right;
        }

        private boolean readLine(Tape tape, Plan plan) {
            if (tape.word < Tape.FIRST_ACT || tape.word > Tape.LAST_ACT) {
                return tape.fail(Tape.WRONG_TOKEN);
            }
            if (lines >= MOST) {
                return tape.fail(Tape.TOO_MANY);
            }
            int act = tape.word - Tape.FIRST_ACT;
            acts[lines] = act;
            files[lines] = 0;
            pages[lines] = 0;
            values[lines] = 0;
            tape.next();
            if (act <= CLOSE && !readName(tape, plan)) {
                return false;
            }
            if (act == WRITE && !readNumbers(tape)) {
                return false;
            }
            lines++;
            return true;
        }

        private boolean readName(Tape tape, Plan plan) {
            if (!tape.isName()) {
                return tape.fail(Tape.WRONG_TOKEN);
            }
            int file = plan.fileNamed(tape.name);
            if (file < 0) {
                return tape.fail(Tape.NO_FILE);
            }
            files[lines] = file;
            tape.next();
            return true;
        }

        private boolean readNumbers(Tape tape) {
            int page = tape.takeNumber(0, MOST_PAGES - 1);
            if (page < 0) {
                return false;
            }
            pages[lines] = page;
            int value = tape.takeNumber(0, MOST_VALUE);
            if (value < 0) {
                return false;
            }
            values[lines] = value;
            return true;
        }
    }

    /** The BLOCKS and the NODES in their SLOTS. */
    private static final class Chip {
        static final int ERASED = 0;
        static final int DATA = 1;
        static final int GONE = 2;
        static final int INDEX = 3;
        static final int TORN = 4;

        int blocks;
        int size;
        int total;
        int erased;
        int head;
        /** The greatest SEQ of the last whole commit, and how many parts that has. */
        int base;
        int wholeParts;
        final int[] erasures = new int[MOST_BLOCKS];
        /** How many SLOTS of a BLOCK are ERASED. */
        final int[] left = new int[MOST_BLOCKS];
        final int[] kind = new int[ALL_SLOTS];
        final int[] seq = new int[ALL_SLOTS];
        /** Of INDEX the part, how many parts there are, how many pages it has. */
        final int[] file = new int[ALL_SLOTS];
        final int[] page = new int[ALL_SLOTS];
        final int[] value = new int[ALL_SLOTS];
        /** The pages of INDEX with their SEQS. */
        final int[] partPage = new int[ALL_SLOTS * TO_A_PART];
        final int[] partSeq = new int[ALL_SLOTS * TO_A_PART];

        void start(Plan plan) {
            blocks = Math.max(0, Math.min(plan.blocks, MOST_BLOCKS));
            size = Math.max(0, Math.min(plan.slots, MOST_SLOTS));
            total = blocks * size;
            erased = total;
            head = NONE;
            base = 0;
            wholeParts = 0;
            for (int block = 0; block < MOST_BLOCKS; block++) {
                erasures[block] = 0;
                left[block] = size;
            }
            for (int slot = 0; slot < ALL_SLOTS; slot++) {
                fill(slot, ERASED, NONE, NONE, NONE, NONE);
            }
        }

        void copyFrom(Chip other) {
            blocks = other.blocks;
            size = other.size;
            total = other.total;
            erased = other.erased;
            head = other.head;
            base = other.base;
            wholeParts = other.wholeParts;
            System.arraycopy(other.erasures, 0, erasures, 0, MOST_BLOCKS);
            System.arraycopy(other.left, 0, left, 0, MOST_BLOCKS);
            System.arraycopy(other.kind, 0, kind, 0, ALL_SLOTS);
            System.arraycopy(other.seq, 0, seq, 0, ALL_SLOTS);
            System.arraycopy(other.file, 0, file, 0, ALL_SLOTS);
            System.arraycopy(other.page, 0, page, 0, ALL_SLOTS);
            System.arraycopy(other.value, 0, value, 0, ALL_SLOTS);
            System.arraycopy(other.partPage, 0, partPage, 0, ALL_SLOTS * TO_A_PART);
            System.arraycopy(other.partSeq, 0, partSeq, 0, ALL_SLOTS * TO_A_PART);
        }

        boolean isSlot(int slot) {
            return slot >= 0 && slot < total && slot < ALL_SLOTS;
        }

        boolean isBlock(int block) {
            return block >= 0 && block < blocks && block < MOST_BLOCKS;
        }

        int tell(int slot, int what) {
            switch (what) {
                case 0:
                    return kind[slot];
                case 1:
                    return seq[slot];
                case 2:
                    return file[slot];
                case 3:
                    return page[slot];
                default:
                    return value[slot];
            }
        }

        /** The SLOT for the next NODE, the HEAD having moved on if it is full; NONE: there is none. */
        int takeSlot() {
            if (head < 0 || left[head] == 0) {
                int fresh = freshBlock();
                if (fresh < 0) {
                    return NONE;
                }
                head = fresh;
            }
            int slot = firstErased(head);
            if (slot >= 0) {
                left[head]--;
                erased--;
            }
            return slot;
        }

        private int freshBlock() {
            int best = NONE;
            for (int block = 0; block < blocks; block++) {
                boolean fresh = size > 0 && left[block] == size;
                if (fresh && (best < 0 || erasures[block] < erasures[best])) {
                    best = block;
                }
            }
            return best;
        }

        private int firstErased(int block) {
            for (int slot = block * size; slot < (block + 1) * size; slot++) {
                if (kind[slot] == ERASED) {
                    return slot;
                }
            }
            return NONE;
        }

        void fill(int slot, int newKind, int newSeq, int newFile, int newPage, int newValue) {
            kind[slot] = newKind;
            seq[slot] = newSeq;
            file[slot] = newFile;
            page[slot] = newPage;
            value[slot] = newValue;
        }

        void copyNode(int from, int to) {
            fill(to, kind[from], seq[from], file[from], page[from], value[from]);
            for (int i = 0; i < TO_A_PART; i++) {
                partPage[to * TO_A_PART + i] = partPage[from * TO_A_PART + i];
                partSeq[to * TO_A_PART + i] = partSeq[from * TO_A_PART + i];
            }
        }

        void erase(int block) {
            erased += size - left[block];
            left[block] = size;
            for (int slot = block * size; slot < (block + 1) * size; slot++) {
                fill(slot, ERASED, NONE, NONE, NONE, NONE);
            }
            erasures[block]++;
        }

        /** Just the parts of the last whole commit have SEQS up to the BASE that are so near to it. */
        boolean isWhole(int slot) {
            return kind[slot] == INDEX && seq[slot] <= base && seq[slot] > base - wholeParts;
        }

        boolean isInJournal(int slot) {
            return (kind[slot] == DATA || kind[slot] == GONE) && seq[slot] > base;
        }

        /** Whether no lower SLOT has that SEQ. */
        boolean isLeast(int slot) {
            for (int lower = 0; lower < slot; lower++) {
                if (seq[lower] == seq[slot]) {
                    return false;
                }
            }
            return true;
        }

        int greatestSeq() {
            int greatest = 0;
            for (int slot = 0; slot < total; slot++) {
                greatest = Math.max(greatest, seq[slot]);
            }
            return greatest;
        }

        /** The BLOCK of which some SLOTS are ERASED and some are not, or NONE. */
        int begunBlock() {
            for (int block = 0; block < blocks; block++) {
                if (left[block] > 0 && left[block] < size) {
                    return block;
                }
            }
            return NONE;
        }

        int spreadOfErasures() {
            int most = blocks > 0 ? erasures[0] : 0;
            int fewest = most;
            for (int block = 1; block < blocks; block++) {
                most = Math.max(most, erasures[block]);
                fewest = Math.min(fewest, erasures[block]);
            }
            return most - fewest;
        }

        int countData(int ofFile, int ofPage, boolean eachSeqOnce) {
            int count = 0;
            for (int slot = 0; slot < total; slot++) {
                boolean of = kind[slot] == DATA && file[slot] == ofFile && page[slot] == ofPage;
                if (of && (!eachSeqOnce || isLeast(slot))) {
                    count++;
                }
            }
            return count;
        }
    }

    /** What a MOUNT would find: of each page the SEQ (0: not mapped) and what it says. */
    private static final class Finder {
        final int[] seqs = new int[ALL_PAGES];
        final int[] says = new int[ALL_PAGES];
        private final int[] committed = new int[ALL_PAGES];
        private final int[] gone = new int[MOST_FILES];

        void find(Chip chip) {
            clear();
            for (int slot = 0; slot < chip.total; slot++) {
                if (chip.isWhole(slot)) {
                    takePart(chip, slot);
                } else if (chip.kind[slot] == Chip.GONE && chip.seq[slot] > chip.base) {
                    gone[chip.file[slot]] = Math.max(gone[chip.file[slot]], chip.seq[slot]);
                }
            }
            for (int slot = 0; slot < chip.total; slot++) {
                if (chip.kind[slot] == Chip.DATA) {
                    takeData(chip, slot);
                }
            }
        }

        private void clear() {
            for (int at = 0; at < ALL_PAGES; at++) {
                seqs[at] = 0;
                says[at] = NONE;
                committed[at] = 0;
            }
            for (int file = 0; file < MOST_FILES; file++) {
                gone[file] = 0;
            }
        }

        private void takePart(Chip chip, int slot) {
            for (int i = 0; i < chip.value[slot] && i < TO_A_PART; i++) {
                committed[chip.partPage[slot * TO_A_PART + i]] = chip.partSeq[slot * TO_A_PART + i];
            }
        }

        /** The JOURNAL comes by its SEQS: the last DATA behind the last GONE of its FILE stands. */
        private void takeData(Chip chip, int slot) {
            int seq = chip.seq[slot];
            int lastGone = gone[chip.file[slot]];
            int at = chip.file[slot] * MOST_PAGES + chip.page[slot];
            boolean stands = seq > chip.base ? seq > lastGone : lastGone == 0 && committed[at] == seq;
            if (stands && seq > seqs[at]) {
                seqs[at] = seq;
                says[at] = chip.value[slot];
            }
        }
    }

    /** The store at work: the chip, what is MAPPED on it, and the power. */
    private static final class Disk {
        final Chip chip = new Chip();
        boolean power;
        int cutIn;
        int collects;
        private Plan plan;
        private final Finder finder;
        /** Where each PUT is noted, or null. */
        private final Ends ends;
        private final int[] map = new int[ALL_PAGES];
        private final boolean[] open = new boolean[MOST_FILES];
        private final boolean[] orphan = new boolean[MOST_FILES];
        private int lastSeq;
        private boolean surveyed;
        private final boolean[] live = new boolean[ALL_SLOTS];
        final int[] liveIn = new int[MOST_BLOCKS];
        private int liveSlots;
        private int journal;

        Disk(Plan plan, Finder finder, Ends ends) {
            this.plan = plan;
            this.finder = finder;
            this.ends = ends;
            power = true;
            chip.start(plan);
        }

        void start(Plan newPlan) {
            plan = newPlan;
            power = true;
            cutIn = 0;
            collects = 0;
            lastSeq = 0;
            chip.start(newPlan);
            forgetFiles();
        }

        private void forgetFiles() {
            for (int at = 0; at < ALL_PAGES; at++) {
                map[at] = 0;
            }
            for (int file = 0; file < MOST_FILES; file++) {
                open[file] = false;
                orphan[file] = false;
            }
            surveyed = false;
        }

        void copyFrom(Disk other) {
            plan = other.plan;
            power = other.power;
            cutIn = other.cutIn;
            collects = other.collects;
            lastSeq = other.lastSeq;
            chip.copyFrom(other.chip);
            System.arraycopy(other.map, 0, map, 0, ALL_PAGES);
            System.arraycopy(other.open, 0, open, 0, MOST_FILES);
            System.arraycopy(other.orphan, 0, orphan, 0, MOST_FILES);
            surveyed = false;
        }

        boolean act(int act, int file, int page, int value) {
            switch (act) {
                case Script.WRITE:
                    return writePage(file, page, value) >= 0;
                case Script.REMOVE:
                    return removeFile(file) >= 0;
                case Script.OPEN:
                    return openFile(file);
                case Script.CLOSE:
                    return closeFile(file);
                case Script.COMMIT:
                    return commitPages() >= 0;
                case Script.COLLECT:
                    return collectBlock() >= 0;
                default:
                    return false;
            }
        }

        /** The SLOT into which a NODE goes; NONE: the power was CUT at it. */
        private int put() {
            int slot = chip.takeSlot();
            if (slot < 0) {
                return NONE;
            }
            surveyed = false;
            if (ends != null) {
                // A TORN SLOT tells a MOUNT nothing: it would find what there is ahead of the PUT.
                finder.find(chip);
                ends.note(finder.says);
            }
            if (cutIn == 1) {
                chip.fill(slot, Chip.TORN, NONE, NONE, NONE, NONE);
                power = false;
                cutIn = 0;
                forgetFiles();
                return NONE;
            }
            if (cutIn > 1) {
                cutIn--;
            }
            return slot;
        }

        private boolean putNew(int kind, int file, int page, int value) {
            lastSeq++;
            int slot = put();
            if (slot < 0) {
                return false;
            }
            chip.fill(slot, kind, lastSeq, file, page, value);
            return true;
        }

        int writePage(int file, int page, int value) {
            if (!mayWrite(file, page) || value < 0 || value > MOST_VALUE) {
                return NONE;
            }
            if (wantsCollect() && collectBlock() == POWER_CUT) {
                return POWER_CUT;
            }
            if (!hasRoomToWrite(file, page)) {
                return NONE;
            }
            int times = plan.kinds[file] == Plan.TWIN ? 2 : 1;
            for (int i = 0; i < times; i++) {
                if (!putNew(Chip.DATA, file, page, value)) {
                    return POWER_CUT;
                }
            }
            int seq = lastSeq;
            map[file * MOST_PAGES + page] = seq;
            surveyed = false;
            if (plan.kinds[file] == Plan.SYNC && commitPages() < 0) {
                return POWER_CUT;
            }
            return seq;
        }

        /** Whether a WRITE of the page can be but for the room. */
        boolean mayWrite(int file, int page) {
            if (!power || !plan.isPage(file, page) || orphan[file]) {
                return false;
            }
            return plan.kinds[file] != Plan.LOG || page == firstUnmapped(file);
        }

        private int firstUnmapped(int file) {
            for (int page = 0; page < MOST_PAGES; page++) {
                if (map[file * MOST_PAGES + page] == 0) {
                    return page;
                }
            }
            return NONE;
        }

        boolean hasRoomToWrite(int file, int page) {
            int more = map[file * MOST_PAGES + page] == 0 ? 1 : 0;
            int behind = partsOf(keptPages() + more);
            int puts = plan.kinds[file] == Plan.TWIN ? 2 : plan.kinds[file] == Plan.SYNC ? 1 + behind : 1;
            return chip.erased >= puts + behind + plan.reserve;
        }

        private boolean wantsCollect() {
            if (plan.rule.size == 0) {
                return false;
            }
            survey();
            int dirty = chip.total - chip.erased - liveSlots;
            return plan.rule.value(chip.erased, liveSlots, dirty, journal) != 0;
        }

        int removeFile(int file) {
            if (!power || !plan.isFile(file) || orphan[file] || mappedBits(file) == 0) {
                return NONE;
            }
            if (wantsCollect() && collectBlock() == POWER_CUT) {
                return POWER_CUT;
            }
            int behind = partsOf(keptPages() - Integer.bitCount(mappedBits(file)));
            if (chip.erased < 1 + behind + plan.reserve) {
                return NONE;
            }
            if (!putNew(Chip.GONE, file, NONE, NONE)) {
                return POWER_CUT;
            }
            if (open[file]) {
                orphan[file] = true;
            } else {
                unmap(file);
            }
            return lastSeq;
        }

        private void unmap(int file) {
            for (int page = 0; page < MOST_PAGES; page++) {
                map[file * MOST_PAGES + page] = 0;
            }
            surveyed = false;
        }

        boolean openFile(int file) {
            if (!power || !plan.isFile(file) || open[file]) {
                return false;
            }
            open[file] = true;
            return true;
        }

        boolean closeFile(int file) {
            if (!power || !plan.isFile(file) || !open[file]) {
                return false;
            }
            open[file] = false;
            if (orphan[file]) {
                orphan[file] = false;
                unmap(file);
            }
            return true;
        }

        int commitPages() {
            int parts = parts();
            if (!power || chip.erased < parts) {
                return NONE;
            }
            int at = 0;
            for (int part = 0; part < parts; part++) {
                lastSeq++;
                int slot = put();
                if (slot < 0) {
                    return POWER_CUT;
                }
                at = fillPart(slot, part, parts, at);
            }
            // Its NODES are LIVE from now on, so no COLLECT loses one until the next whole commit.
            chip.base = lastSeq;
            chip.wholeParts = parts;
            surveyed = false;
            return parts;
        }

        /** Up to four kept pages from one on go into a part: the page from which the next part goes on. */
        private int fillPart(int slot, int part, int parts, int from) {
            int count = 0;
            int at = from;
            for (; at < ALL_PAGES && count < TO_A_PART; at++) {
                if (isKept(at)) {
                    chip.partPage[slot * TO_A_PART + count] = at;
                    chip.partSeq[slot * TO_A_PART + count] = map[at];
                    count++;
                }
            }
            chip.fill(slot, Chip.INDEX, lastSeq, part, parts, count);
            return at;
        }

        int collectBlock() {
            int block = picked();
            if (!chip.isBlock(block)) {
                return NONE;
            }
            // What is LIVE is as surveyed ahead: a copy does not change that for the SLOTS to come.
            for (int slot = block * chip.size; slot < (block + 1) * chip.size; slot++) {
                if (live[slot]) {
                    int to = put();
                    if (to < 0) {
                        return POWER_CUT;
                    }
                    chip.copyNode(slot, to);
                }
            }
            chip.erase(block);
            surveyed = false;
            collects++;
            return block;
        }

        int picked() {
            if (!power) {
                return NONE;
            }
            survey();
            int best = NONE;
            int most = 0;
            for (int block = 0; block < chip.blocks; block++) {
                int dirty = block == chip.head ? 0 : dirtyIn(block);
                boolean fewer = best >= 0 && dirty == most && chip.erasures[block] < chip.erasures[best];
                if (dirty > most || fewer) {
                    best = block;
                    most = dirty;
                }
            }
            if (best < 0 || liveIn[best] > chip.erased - chip.left[best]) {
                return NONE;
            }
            return best;
        }

        /** All of the BLOCK is ERASED, but its LIVE NODES take SLOTS elsewhere: the DIRTY ones are gained. */
        int gained() {
            int block = picked();
            return block < 0 ? NONE : dirtyIn(block);
        }

        boolean cutAt(int puts) {
            if (!power || puts < 1 || puts > 20) {
                return false;
            }
            cutIn = puts;
            return true;
        }

        int mountAgain() {
            finder.find(chip);
            forgetFiles();
            System.arraycopy(finder.seqs, 0, map, 0, ALL_PAGES);
            power = true;
            cutIn = 0;
            lastSeq = chip.greatestSeq();
            chip.head = chip.begunBlock();
            survey();
            return journal;
        }

        void survey() {
            if (surveyed) {
                return;
            }
            surveyed = true;
            liveSlots = 0;
            journal = 0;
            for (int block = 0; block < MOST_BLOCKS; block++) {
                liveIn[block] = 0;
            }
            for (int slot = 0; slot < chip.total; slot++) {
                boolean noted = chip.isInJournal(slot);
                boolean called = chip.isWhole(slot) || noted && chip.kind[slot] == Chip.GONE || isMappedTo(slot);
                boolean least = (noted || called) && chip.isLeast(slot);
                if (noted && least) {
                    journal++;
                }
                live[slot] = called && least;
                if (live[slot] && chip.size > 0) {
                    liveSlots++;
                    liveIn[slot / chip.size]++;
                }
            }
        }

        private boolean isMappedTo(int slot) {
            return chip.kind[slot] == Chip.DATA
                && map[chip.file[slot] * MOST_PAGES + chip.page[slot]] == chip.seq[slot];
        }

        boolean isLive(int slot) {
            survey();
            return live[slot];
        }

        int dirtyIn(int block) {
            return chip.size - chip.left[block] - liveIn[block];
        }

        /** The SLOT of the LIVE NODE of the i-th least SEQ, or NONE. */
        int slotOfLive(int i) {
            survey();
            for (int slot = 0; slot < chip.total; slot++) {
                if (live[slot] && liveBelow(chip.seq[slot]) == i) {
                    return slot;
                }
            }
            return NONE;
        }

        private int liveBelow(int seq) {
            int count = 0;
            for (int slot = 0; slot < chip.total; slot++) {
                if (live[slot] && chip.seq[slot] < seq) {
                    count++;
                }
            }
            return count;
        }

        int hottestFile() {
            int hottest = NONE;
            int most = 0;
            for (int file = 0; file < plan.files; file++) {
                int dirty = dirtyDataOf(file);
                if (dirty > most) {
                    hottest = file;
                    most = dirty;
                }
            }
            return hottest;
        }

        private int dirtyDataOf(int file) {
            survey();
            int count = 0;
            for (int slot = 0; slot < chip.total; slot++) {
                if (chip.kind[slot] == Chip.DATA && chip.file[slot] == file && !live[slot]) {
                    count++;
                }
            }
            return count;
        }

        boolean isOpen(int file) {
            return open[file];
        }

        boolean isOrphan(int file) {
            return orphan[file];
        }

        int mappedBits(int file) {
            int bits = 0;
            for (int page = 0; page < MOST_PAGES; page++) {
                if (map[file * MOST_PAGES + page] != 0) {
                    bits |= 1 << page;
                }
            }
            return bits;
        }

        int mappedPages() {
            int count = 0;
            for (int at = 0; at < ALL_PAGES; at++) {
                if (map[at] != 0) {
                    count++;
                }
            }
            return count;
        }

        private boolean isKept(int at) {
            return map[at] != 0 && !orphan[at / MOST_PAGES];
        }

        private int keptPages() {
            int count = 0;
            for (int at = 0; at < ALL_PAGES; at++) {
                if (isKept(at)) {
                    count++;
                }
            }
            return count;
        }

        private static int partsOf(int pages) {
            return pages / TO_A_PART + 1;
        }

        int parts() {
            return partsOf(keptPages());
        }

        int valueOf(int at) {
            if (map[at] == 0) {
                return NONE;
            }
            for (int slot = 0; slot < chip.total; slot++) {
                if (chip.kind[slot] == Chip.DATA && chip.seq[slot] == map[at]) {
                    return chip.value[slot];
                }
            }
            return NONE;
        }

        int foundPages() {
            finder.find(chip);
            int count = 0;
            for (int at = 0; at < ALL_PAGES; at++) {
                if (finder.seqs[at] != 0) {
                    count++;
                }
            }
            return count;
        }

        boolean agreesWithFound() {
            finder.find(chip);
            for (int at = 0; at < ALL_PAGES; at++) {
                if (finder.seqs[at] != (isKept(at) ? map[at] : 0)) {
                    return false;
                }
            }
            return true;
        }

        int lostPages() {
            finder.find(chip);
            int count = 0;
            for (int at = 0; at < ALL_PAGES; at++) {
                if (map[at] != 0 && finder.seqs[at] == 0) {
                    count++;
                }
            }
            return count;
        }

        int tell(int what) {
            survey();
            switch (what) {
                case 3:
                    return chip.erased;
                case 4:
                    return liveSlots;
                case 5:
                    return chip.total - chip.erased - liveSlots;
                case 6:
                    return lastSeq;
                case 7:
                    return chip.base;
                case 8:
                    return journal;
                case 9:
                    return parts();
                case 10:
                    return mappedPages();
                case 11:
                    return power ? 1 : 0;
                case 13:
                    return chip.head;
                default:
                    return NONE;
            }
        }
    }

    /** What is SEEN. */
    private static final class Clues {
        private static final int MOST = 8;
        int count;
        private final int[] pages = new int[MOST];
        private final int[] values = new int[MOST];
        private final boolean[] so = new boolean[MOST];

        void clear() {
            count = 0;
        }

        boolean add(int at, int value, boolean is) {
            if (count >= MOST) {
                return false;
            }
            pages[count] = at;
            values[count] = value;
            so[count] = is;
            count++;
            return true;
        }

        void copyFrom(Clues other) {
            count = other.count;
            System.arraycopy(other.pages, 0, pages, 0, MOST);
            System.arraycopy(other.values, 0, values, 0, MOST);
            System.arraycopy(other.so, 0, so, 0, MOST);
        }

        /** Whether all SEEN is so by the MAP that begins there. */
        boolean fit(int[] maps, int from) {
            for (int i = 0; i < count && i < MOST; i++) {
                int at = from + pages[i];
                if (at >= maps.length || (maps[at] == values[i]) != so[i]) {
                    return false;
                }
            }
            return true;
        }
    }

    /** What a MOUNT would find if the WORK were CUT at each of its PUTS; MAPS that are alike are kept once. */
    private static final class Ends {
        /** A line PUTS five NODES of a COLLECT, DATA and six parts at most: twelve, in 24 lines. */
        private static final int MOST = 288;
        int puts;
        int different;
        private final int[] maps = new int[MOST * ALL_PAGES];
        private final int[] times = new int[MOST];
        private final int[] mapOfPut = new int[MOST];
        private final boolean[] fits = new boolean[MOST];

        void clear() {
            puts = 0;
            different = 0;
        }

        void note(int[] says) {
            if (puts >= MOST) {
                return;
            }
            int map = different - 1;
            while (map >= 0 && !isAlike(map, says)) {
                map--;
            }
            if (map < 0) {
                map = different;
                System.arraycopy(says, 0, maps, map * ALL_PAGES, ALL_PAGES);
                times[map] = 0;
                different++;
            }
            times[map]++;
            mapOfPut[puts] = map;
            puts++;
        }

        boolean isAlike(int map, int[] says) {
            for (int at = 0; at < ALL_PAGES; at++) {
                if (maps[map * ALL_PAGES + at] != says[at]) {
                    return false;
                }
            }
            return true;
        }

        int mapOf(int put) {
            return put >= 0 && put < puts && put < MOST ? mapOfPut[put] : 0;
        }

        int saysAt(int put, int at) {
            return maps[mapOf(put) * ALL_PAGES + at];
        }

        /** By how many PUTS all SEEN is so. */
        int fitting(Clues clues) {
            int count = 0;
            for (int map = 0; map < different; map++) {
                fits[map] = clues.fit(maps, map * ALL_PAGES);
                count += fits[map] ? times[map] : 0;
            }
            return count;
        }

        int bestPage(Clues clues, Plan plan) {
            int least = fitting(clues);
            int best = NONE;
            for (int at = 0; at < ALL_PAGES; at++) {
                if (plan.isPage(at / MOST_PAGES, at % MOST_PAGES)) {
                    int most = mostAlike(at);
                    if (most < least) {
                        least = most;
                        best = at;
                    }
                }
            }
            return best;
        }

        private int mostAlike(int at) {
            int most = 0;
            for (int map = 0; map < different; map++) {
                if (fits[map]) {
                    most = Math.max(most, sayingLike(map, at));
                }
            }
            return most;
        }

        private int sayingLike(int map, int at) {
            int count = 0;
            for (int other = 0; other < different; other++) {
                if (fits[other] && maps[other * ALL_PAGES + at] == maps[map * ALL_PAGES + at]) {
                    count += times[other];
                }
            }
            return count;
        }
    }

    /** The WORK done from the STORE as told; it is done once, until there is another STORE or WORK. */
    private static final class Judge {
        final Ends ends;
        int halfDone;
        private final Finder finder;
        private final Disk disk;
        private final int[] ahead = new int[ALL_PAGES];
        private boolean done;
        private int firstWrong;

        Judge(Plan plan, Finder finder) {
            this.finder = finder;
            ends = new Ends();
            disk = new Disk(plan, finder, ends);
        }

        void forget() {
            done = false;
        }

        void run(Plan plan, Script script) {
            if (done) {
                return;
            }
            done = true;
            ends.clear();
            disk.start(plan);
            firstWrong = NONE;
            halfDone = 0;
            finder.find(disk.chip);
            for (int line = 0; line < script.lines && line < Script.MOST; line++) {
                System.arraycopy(finder.says, 0, ahead, 0, ALL_PAGES);
                int from = ends.puts;
                boolean could = disk.act(script.acts[line], script.files[line],
                    script.pages[line], script.values[line]);
                if (!could && firstWrong < 0) {
                    firstWrong = line;
                }
                finder.find(disk.chip);
                countHalfDone(from);
            }
            System.arraycopy(finder.says, 0, ahead, 0, ALL_PAGES);
        }

        /** The finder holds what there is behind the line. */
        private void countHalfDone(int from) {
            for (int put = from; put < ends.puts; put++) {
                int map = ends.mapOf(put);
                if (!ends.isAlike(map, ahead) && !ends.isAlike(map, finder.says)) {
                    halfDone++;
                }
            }
        }

        int tell(int what) {
            switch (what) {
                case 0:
                    return firstWrong;
                case 1:
                    return ends.puts;
                case 2:
                    return disk.chip.erased;
                default:
                    return disk.collects;
            }
        }

        /** What a page SAYS if the power is CUT at a PUT (from 1), or else at the end of the WORK. */
        int saysAfter(int put, int at) {
            return put <= ends.puts ? ends.saysAt(put - 1, at) : ahead[at];
        }
    }

    /** Works by DRAWS. */
    private static final class Lives {
        private static final int COMMITS = 6;
        private long g;

        private int drawBelow(int m) {
            g = (g * 1103515245L + 12345L) % 2147483648L;
            return m > 0 ? (int) (g / 65536L % m) : 0;
        }

        /** How many of the acts could be. */
        int run(Disk disk, int seed, int acts) {
            g = seed;
            int files = disk.plan.files;
            int could = 0;
            for (int i = 0; i < acts && files > 0; i++) {
                int drawn = drawBelow(8);
                int file = drawn < COMMITS ? drawBelow(files) : 0;
                int page = drawn < 4 ? drawBelow(MOST_PAGES) : 0;
                int value = drawn < 4 ? drawBelow(MOST_VALUE + 1) : 0;
                if (disk.act(actOf(drawn, disk.isOpen(file)), file, page, value)) {
                    could++;
                }
            }
            return could;
        }

        private static int actOf(int drawn, boolean open) {
            switch (drawn) {
                case 4:
                    return Script.REMOVE;
                case 5:
                    return open ? Script.CLOSE : Script.OPEN;
                case COMMITS:
                    return Script.COMMIT;
                case 7:
                    return Script.COLLECT;
                default:
                    return Script.WRITE;
            }
        }
    }
}
