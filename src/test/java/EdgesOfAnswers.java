import java.math.BigInteger;

/** The edges that the document names of what is answered: section 3 and promises 17 to 40, and "Not promised". */
final class EdgesOfAnswers {
    private static final int[] FAR = {Integer.MIN_VALUE, -1000, -2, -1, 1000, Integer.MAX_VALUE};
    private static final String ONE = "file a plain pages 1; ";
    private static final String KINDS = "file a plain pages 2; file b log pages 3; file c twin pages 1; "
        + "file d sync pages 4; ";
    private static final String LARGE = "blocks 6; slots 6; " + KINDS;
    private static final String WORK =
        "write a 0 1; write b 0 2; write a 0 3; commit; write c 0 4; remove a; write d 1 5; write a 1 6;";

    private EdgesOfAnswers() {
    }

    /** A page that no FILE has: each as file, page. */
    private static int[][] noPages() {
        return new int[][] {{-1, 0}, {4, 0}, {0, -1}, {0, 2}, {1, 3}, {2, 1}, {3, 4}, {Integer.MIN_VALUE, 0},
            {Integer.MAX_VALUE, 0}, {0, Integer.MIN_VALUE}, {0, Integer.MAX_VALUE}, {1 << 30, 0}, {0, 1 << 30}};
    }

    // ---- what it is

    /** What it is: "An object is used for at most 512 calls after it has been made; what later calls answer is free." */
    static void anObjectAnswers512Calls() {
        FlashNodes x = new FlashNodes();
        String text = "blocks 6; slots 6; file a sync pages 4; collects erased < 20; ";
        for (int i = 0; i < text.length(); i++) {
            Edge.is("signs", x.feed(0, 0, text.charAt(i)), i + 1);
        }
        Edge.is("the STORE", x.store(), 0);
        FlashModel model = new FlashModel();
        model.store = FlashModel.Store.read(text);
        model.now = new FlashModel.State(model.store);
        for (int call = text.length() + 1; call < 512; call++) {
            int page = call * 7 % 4;
            Edge.is("call " + call, x.write(0, page, call % 256), model.now.write(0, page, call % 256));
        }
        for (int i = 0; i < 3000; i++) {
            x.write(0, i % 4, 1);
            x.collect();
            x.commit();
            x.feed(i, i, i);
        }
        Edge.is("nothing is thrown later", true, true);
    }

    // ---- SAYS, MAY, SPARE, PICK, GAIN, ROUNDS

    /** Term SAYS: "SAYS of a page of a FILE: its value, if it is MAPPED." */
    static void aPageSaysNothingUnlessMapped() {
        FlashNodes x = Edge.with(LARGE);
        Edge.is("not MAPPED", x.says(0, 0), -1);
        x.write(0, 0, 0);
        Edge.is("the least value", x.says(0, 0), 0);
        x.write(0, 0, 255);
        Edge.is("the greatest value", x.says(0, 0), 255);
        Edge.is("another page", x.says(0, 1), -1);
        x.open(0);
        x.remove(0);
        Edge.is("of an ORPHAN", x.says(0, 0), 255);
        x.close(0);
        Edge.is("REMOVED", x.says(0, 0), -1);
        x.write(0, 0, 7);
        Edge.cutOff(x);
        Edge.is("power off", x.says(0, 0), -1);
        x.mount();
        Edge.is("power on", x.says(0, 0), 7);
    }

    /** Promise 17: "SAYS; NONE: others, not MAPPED." */
    static void promise17OtherPages() {
        FlashNodes x = Edge.with(LARGE);
        for (int file = 0; file < 4; file++) {
            Edge.is("not MAPPED", x.says(file, 0), -1);
            x.write(file, 0, 9);
        }
        for (int[] no : noPages()) {
            Edge.is("file " + no[0] + " page " + no[1], x.says(no[0], no[1]), -1);
        }
        x.write(1, 1, 9);
        x.write(1, 2, 8);
        Edge.is("the last page", x.says(1, 2), 8);
        Edge.is("no STORE", new FlashNodes().says(0, 0), -1);
    }

    /** Term MAY: "MAY of those: whether it could be WRITTEN now, without a COLLECT." */
    static void mayIsWithoutACollect() {
        FlashNodes x = Edge.with("blocks 2; slots 2; " + ONE + "collects 1;");
        x.write(0, 0, 1);
        x.write(0, 0, 2);
        Edge.is("2 ERASED", x.may(0, 0), true);
        x.commit();
        Edge.is("1 ERASED", x.may(0, 0), false);
        Edge.is("nothing is done", x.count(3), 1);
        Edge.is("with a COLLECT it can be", x.write(0, 0, 3), 4);
        FlashNodes y = Edge.with(LARGE);
        Edge.is("a log one: the first", y.may(1, 0), true);
        Edge.is("a log one: no other", y.may(1, 1), false);
        y.write(1, 0, 1);
        Edge.is("a log one: not again", y.may(1, 0), false);
        Edge.is("a log one: the next", y.may(1, 1), true);
        y.open(1);
        y.remove(1);
        Edge.is("an ORPHAN", y.may(1, 1), false);
        y.close(1);
        Edge.is("no ORPHAN", y.may(1, 0), true);
    }

    /** Promise 18: "MAY; false: others, it can't be." */
    static void promise18OtherPages() {
        FlashNodes x = Edge.with(LARGE);
        for (int[] no : noPages()) {
            Edge.is("file " + no[0] + " page " + no[1], x.may(no[0], no[1]), false);
        }
        Edge.is("the last page", x.may(3, 3), true);
        Edge.is("no STORE", new FlashNodes().may(0, 0), false);
        Edge.cutOff(x);
        Edge.is("power off", x.may(0, 0), false);
        x.mount();
        Edge.is("power on", x.may(0, 0), true);
        int[] need = {2, 2, 3, 3};
        for (int slots = 1; slots <= 6; slots++) {
            FlashNodes y = Edge.with("blocks 1; slots " + slots + "; reserve 1;" + KINDS);
            for (int file = 0; file < 4; file++) {
                Edge.is("file " + file + " in " + slots, y.may(file, 0), slots >= need[file] + 1);
            }
        }
    }

    /** Promise 19: "SPARE." and Term SPARE: "how many SLOTS are ERASED beyond the PARTS and the reserve (0 at least)" */
    static void spareIsZeroAtLeast() {
        Edge.is("no STORE", new FlashNodes().spare(), 0);
        for (int slots = 1; slots <= 6; slots++) {
            for (int reserve = 0; reserve <= 8; reserve++) {
                FlashNodes x = Edge.with("blocks 1; slots " + slots + "; reserve " + reserve + ";");
                Edge.is(slots + " less 1 less " + reserve, x.spare(), slots < 1 + reserve ? 0 : slots - 1 - reserve);
            }
        }
        FlashNodes x = Edge.with("blocks 2; slots 4; reserve 1; file a plain pages 4; ");
        for (int page = 0; page < 4; page++) {
            x.write(0, page, 1);
        }
        Edge.is("two PARTS", x.spare(), 1);
        x.open(0);
        x.remove(0);
        Edge.is("of an ORPHAN none", x.count(3) * 10 + x.spare(), 31);
        x.commit();
        Edge.is("none", x.spare(), 0);
        x.commit();
        Edge.is("none at least", x.spare(), 0);
    }

    /** Promise 20: "PICK; NONE: COLLECT can't be." */
    static void promise20NothingToPick() {
        Edge.is("no STORE", new FlashNodes().pick(), -1);
        FlashNodes x = Edge.with("blocks 2; slots 3; file a plain pages 4;");
        Edge.is("nothing DIRTY", x.pick(), -1);
        x.write(0, 0, 1);
        x.write(0, 1, 1);
        x.write(0, 1, 2);
        Edge.is("the HEAD", x.pick(), -1);
        x.write(0, 2, 2);
        Edge.is("2 LIVE, 2 ERASED", x.pick(), 0);
        Edge.is("nothing is done", x.block(0, 3), 0);
        x.mark(0, false);
        x.commit();
        Edge.is("2 LIVE, 1 ERASED", x.pick(), -1);
        x.mark(0, true);
        Edge.cutOff(x);
        Edge.is("power off", x.pick(), -1);
        x.mark(0, true);
        Edge.is("as COLLECT takes it", x.pick(), x.collect());
        Edge.is("none is left", x.pick(), -1);
    }

    /** Promise 21: "GAIN; NONE: COLLECT can't be." and Term GAIN: "how many more SLOTS are ERASED by that, no CUT." */
    static void promise21NothingToGain() {
        Edge.is("no STORE", new FlashNodes().gain(), -1);
        FlashNodes x = Edge.with("blocks 2; slots 3; file a plain pages 4;");
        Edge.is("nothing DIRTY", x.gain(), -1);
        x.write(0, 0, 1);
        x.write(0, 1, 1);
        x.write(0, 1, 2);
        Edge.is("the HEAD", x.gain(), -1);
        x.write(0, 2, 2);
        Edge.is("the least", x.gain(), 1);
        x.mark(0, false);
        x.cut(1);
        Edge.is("no CUT", x.gain(), 1);
        Edge.is("the CUT stays", x.count(12), 1);
        x.commit();
        Edge.is("power off", x.gain(), -1);
        x.mark(0, true);
        x.commit();
        Edge.is("no room", x.gain(), -1);
        FlashNodes y = Edge.with("blocks 2; slots 6; " + ONE);
        for (int i = 0; i < 7; i++) {
            y.write(0, 0, i);
        }
        Edge.is("the most", y.gain(), 6);
        int erased = y.count(3);
        y.collect();
        Edge.is("so many", y.count(3) - erased, 6);
    }

    /** Term ROUNDS: "ROUNDS of a number (0 to 36): how many COLLECTS, one behind another, no CUT, it takes till so many SLOTS are ERASED" */
    static void roundsOfZeroTo36() {
        FlashNodes x = Edge.with("blocks 6; slots 6; file a plain pages 2;");
        Edge.is("0", x.rounds(0), 0);
        Edge.is("36", x.rounds(36), 0);
        Edge.is("-1", x.rounds(-1), -1);
        Edge.is("37", x.rounds(37), -1);
        x.write(0, 1, 1);
        for (int i = 0; i < 12; i++) {
            x.write(0, 0, i);
        }
        for (int turn = 0; turn < 2; turn++) {
            Edge.is("ERASED", x.count(3), 23);
            Edge.is("so many there are", x.rounds(23), 0);
            Edge.is("one more", x.rounds(24), 1);
            Edge.is("by one", x.rounds(29), 1);
            Edge.is("by two", x.rounds(30), 2);
            Edge.is("by two", x.rounds(34), 2);
            Edge.is("never", x.rounds(35), -1);
            Edge.is("never", x.rounds(36), -1);
            Edge.is("the CUT stays", x.count(12), turn);
            Edge.is("nothing is done", x.wear(), 0);
            x.cut(1);
        }
    }

    /** Term ROUNDS: "(with power off none can be: 0 if there are so many, else never)" */
    static void roundsWithPowerOff() {
        FlashNodes x = Edge.with("blocks 3; slots 2; " + ONE);
        for (int i = 0; i < 3; i++) {
            x.write(0, 0, i);
        }
        x.mark(0, false);
        Edge.is("with power on", x.rounds(4), 1);
        Edge.cutOff(x);
        Edge.is("there are so many", x.rounds(2), 0);
        Edge.is("there are more", x.rounds(0), 0);
        Edge.is("never", x.rounds(3), -1);
        x.mount();
        Edge.is("with power on", x.rounds(3) >= 1, true);
    }

    /** Promise 22: "ROUNDS; NONE: others, never." */
    static void promise22OtherNumbers() {
        FlashNodes x = Edge.with("blocks 2; slots 2;");
        for (int n = -3; n < 40; n++) {
            Edge.is("rounds " + n, x.rounds(n), n >= 0 && n <= 4 ? 0 : -1);
            Edge.is("no STORE", new FlashNodes().rounds(n), n == 0 ? 0 : -1);
        }
        for (int far : FAR) {
            Edge.is("far", x.rounds(far), -1);
        }
    }

    // ---- FOUND, AGREES, LOSES

    /** Promise 23: "FOUND." and Term FOUND: "how many pages a MOUNT would map now." */
    static void promise23NothingFound() {
        Edge.is("no STORE", new FlashNodes().found(), 0);
        FlashNodes x = Edge.with(LARGE);
        Edge.is("nothing", x.found(), 0);
        x.write(0, 0, 1);
        Edge.is("one", x.found(), 1);
        x.remove(0);
        Edge.is("none again", x.found(), 0);
        for (int page = 0; page < 4; page++) {
            x.write(3, page, 1);
        }
        Edge.is("all of the commit", x.found(), 4);
        x.open(3);
        x.remove(3);
        Edge.is("none of an ORPHAN", x.found() * 10 + x.count(10), 4);
    }

    /** Term FOUND: "FOUND, AGREES, LOSES with power off, too." */
    static void foundAgreesLosesWithPowerOff() {
        FlashNodes x = Edge.with(LARGE);
        x.mark(0, false);
        Edge.cutOff(x);
        Edge.is("nothing is there", x.found() * 10 + x.loses(), 0);
        Edge.is("nothing is there", x.agrees(), true);
        x.mark(0, true);
        x.write(0, 0, 1);
        x.write(3, 2, 1);
        Edge.cutOff(x);
        Edge.is("two are there", x.found(), 2);
        Edge.is("none is MAPPED", x.agrees(), false);
        Edge.is("none is MAPPED, none is lost", x.loses(), 0);
        x.mount();
        Edge.is("MOUNTED", x.agrees(), true);
        Edge.is("as found", x.count(10), 2);
    }

    /** Promise 24: "AGREES." and Term AGREES: "it would map the same pages to the same SEQS as are MAPPED now, but those of ORPHANS." */
    static void promise24AgreesButOrphans() {
        Edge.is("no STORE", new FlashNodes().agrees(), true);
        FlashNodes x = Edge.with(LARGE);
        Edge.is("nothing", x.agrees(), true);
        x.write(2, 0, 1);
        Edge.is("one", x.agrees(), true);
        x.open(2);
        x.remove(2);
        Edge.is("an ORPHAN alone", x.agrees(), true);
        x.write(0, 0, 1);
        x.commit();
        x.write(0, 0, 2);
        Edge.is("the same SEQS", x.agrees(), true);
        Edge.cutOff(x);
        Edge.is("none is MAPPED", x.agrees(), false);
    }

    /** Promise 25: "LOSES." and Term LOSES: "how many MAPPED pages (of ORPHANS, too) it would not map." */
    static void promise25LosesOrphans() {
        Edge.is("no STORE", new FlashNodes().loses(), 0);
        FlashNodes x = Edge.with(LARGE);
        Edge.is("nothing", x.loses(), 0);
        for (int page = 0; page < 4; page++) {
            x.write(3, page, 1);
        }
        x.write(0, 0, 1);
        Edge.is("none", x.loses(), 0);
        x.open(3);
        x.remove(3);
        Edge.is("all of an ORPHAN", x.loses(), 4);
        x.close(3);
        Edge.is("none", x.loses(), 0);
        Edge.cutOff(x);
        Edge.is("nothing is MAPPED", x.loses(), 0);
    }

    // ---- WEAR, OLDEST, HOT, COPIES, CHAIN

    /** Promise 26: "WEAR (0: no BLOCKS)." */
    static void promise26WearOfNothing() {
        Edge.is("no STORE", new FlashNodes().wear(), 0);
        Edge.is("no BLOCKS", Edge.with("slots 6;").wear(), 0);
        Edge.is("no SLOTS", Edge.with("blocks 6;").wear(), 0);
        FlashNodes x = Edge.with("blocks 1; slots 1;");
        Edge.is("one BLOCK", x.wear(), 0);
        x.commit();
        Edge.is("one BLOCK", x.collect() + x.wear(), -1);
    }

    /** Term WEAR: "WEAR: how many times more the BLOCK erased the most was than the one erased the fewest." */
    static void wearIsTheMostLessTheFewest() {
        FlashNodes x = Edge.with("blocks 4; slots 1; " + ONE);
        Edge.is("none", x.wear(), 0);
        x.write(0, 0, 1);
        x.write(0, 0, 2);
        x.collect();
        Edge.is("one", x.wear(), 1);
        x.write(0, 0, 3);
        x.collect();
        Edge.is("two of four", x.wear(), 1);
        FlashNodes y = Edge.with("blocks 3; slots 1; " + ONE);
        y.commit();
        y.commit();
        for (int i = 1; i <= 3; i++) {
            y.collect();
            Edge.is("round " + i, y.wear(), Math.max(Math.max(y.block(0, 3), y.block(1, 3)), y.block(2, 3))
                - Math.min(Math.min(y.block(0, 3), y.block(1, 3)), y.block(2, 3)));
            y.commit();
        }
        FlashNodes z = Edge.with("blocks 3; slots 2; file a plain pages 3;");
        z.write(0, 0, 1);
        z.write(0, 1, 1);
        for (int i = 0; i < 6; i++) {
            z.write(0, 2, i);
            z.commit();
            z.commit();
            z.collect();
        }
        Edge.is("BLOCK 0 is LIVE and never erased", z.block(0, 3), 0);
        Edge.is("the others wear", z.wear(), Math.max(z.block(1, 3), z.block(2, 3)));
        Edge.is("more than once", z.wear() > 1, true);
    }

    /** Promise 27: "OLDEST; NONE: none is LIVE." and Term OLDEST: "OLDEST: the least SEQ of a LIVE NODE." */
    static void promise27NoneIsLive() {
        Edge.is("no STORE", new FlashNodes().oldest(), -1);
        FlashNodes x = Edge.with(LARGE);
        Edge.is("nothing", x.oldest(), -1);
        x.cut(1);
        x.write(0, 0, 1);
        Edge.is("TORN alone", x.oldest(), -1);
        x.mount();
        x.write(0, 0, 1);
        Edge.is("DATA", x.oldest(), 1);
        x.mark(0, false);
        Edge.cutOff(x);
        Edge.is("DIRTY alone", x.oldest(), -1);
        x.mark(0, true);
        x.write(0, 0, 2);
        Edge.is("not the DIRTY one", x.oldest(), 2);
        x.remove(0);
        Edge.is("GONE", x.oldest(), 3);
        x.commit();
        Edge.is("INDEX", x.oldest(), 4);
        FlashNodes y = Edge.with("blocks 3; slots 3; file a plain pages 2; ");
        y.write(0, 0, 1);
        y.write(0, 1, 1);
        y.write(0, 1, 2);
        y.write(0, 1, 3);
        y.collect();
        Edge.is("the least SEQ, not the least SLOT", y.oldest(), 1);
        Edge.is("its copy lies behind", y.slot(4, 1) * 10 + y.slot(3, 1), 14);
    }

    /**
     * Promise 28: "HOT; NONE: no DATA is DIRTY." and Term HOT: "HOT: the FILE of which the most NODES of DATA are DIRTY;
     * of equal ones the first."
     */
    static void promise28NoDataIsDirty() {
        Edge.is("no STORE", new FlashNodes().hot(), -1);
        FlashNodes x = Edge.with(LARGE);
        Edge.is("nothing", x.hot(), -1);
        x.commit();
        x.commit();
        Edge.is("INDEX is DIRTY", x.hot(), -1);
        x.write(0, 0, 1);
        Edge.is("DATA is LIVE", x.hot(), -1);
        x.open(0);
        x.remove(0);
        x.commit();
        Edge.is("GONE is DIRTY", x.hot(), -1);
        x.close(0);
        Edge.is("one", x.hot(), 0);
        x.write(3, 0, 1);
        x.write(3, 0, 2);
        Edge.is("of equal ones the first", x.hot(), 0);
        x.write(3, 0, 3);
        Edge.is("the most", x.hot(), 3);
        x.write(2, 0, 1);
        x.write(2, 0, 1);
        Edge.is("more", x.hot(), 2);
        FlashNodes y = Edge.with(LARGE);
        y.write(3, 1, 1);
        y.mark(0, false);
        Edge.cutOff(y);
        Edge.is("with power off all", y.hot(), 3);
        y.mark(0, true);
        y.cut(1);
        y.write(3, 1, 2);
        y.mount();
        Edge.is("TORN is no DATA", y.hot(), -1);
    }

    /** Promise 29: "COPIES; NONE: others." and Term COPIES: "how many NODES of DATA of it there are." */
    static void promise29OtherPages() {
        FlashNodes x = Edge.with(LARGE);
        for (int[] no : noPages()) {
            Edge.is("file " + no[0] + " page " + no[1], x.copies(no[0], no[1]), -1);
        }
        Edge.is("no STORE", new FlashNodes().copies(0, 0), -1);
        Edge.is("none", x.copies(3, 3), 0);
        x.write(2, 0, 1);
        Edge.is("both of a twin one", x.copies(2, 0), 2);
        for (int i = 1; i < 30; i++) {
            x.write(0, 1, 1);
            Edge.is("DIRTY ones, too", x.copies(0, 1), i);
        }
        Edge.is("of that page alone", x.copies(0, 0), 0);
        x.remove(2);
        Edge.is("REMOVED ones, too", x.copies(2, 0), 2);
        Edge.cutOff(x);
        Edge.is("with power off, too", x.copies(0, 1), 29);
    }

    /** Promise 30: "CHAIN; NONE: others." and Term CHAIN: "of their SEQS how many there are, each once." */
    static void promise30EachSeqOnce() {
        FlashNodes x = Edge.with("blocks 3; slots 3; " + KINDS);
        for (int[] no : noPages()) {
            Edge.is("file " + no[0] + " page " + no[1], x.chain(no[0], no[1]), -1);
        }
        Edge.is("no STORE", new FlashNodes().chain(0, 0), -1);
        Edge.is("none", x.chain(0, 0), 0);
        x.write(0, 0, 1);
        x.write(0, 1, 1);
        x.write(0, 1, 2);
        x.write(1, 0, 3);
        x.cut(2);
        Edge.is("a COLLECT that is cut", x.collect(), -2);
        Edge.is("two NODES", x.copies(0, 0), 2);
        Edge.is("one SEQ", x.chain(0, 0), 1);
        Edge.is("two SEQS", x.copies(0, 1) * 10 + x.chain(0, 1), 22);
        FlashNodes y = Edge.with(LARGE);
        y.write(2, 0, 1);
        Edge.is("of a twin one each has its own", y.chain(2, 0), 2);
    }

    // ---- AFTER, ENDS, HALVES

    /** Term AFTER: "AFTER of a number (1 to 200), a page, a FILE: the WORK from the STORE as told, CUT at that PUT, then MOUNTED: what the page SAYS" */
    static void afterIsOneTo200() {
        FlashNodes x = Edge.with(LARGE, WORK);
        Edge.is("0", x.after(0, 0, 0), -2);
        Edge.is("201", x.after(201, 0, 0), -2);
        int[] a = {-1, 1, 1, 3, 3, 3, 3, -1, -1, -1, -1};
        int[] d = {-1, -1, -1, -1, -1, -1, -1, -1, 5, 5, 5};
        for (int put = 1; put <= 11; put++) {
            Edge.is("a 0 after " + put, x.after(put, 0, 0), a[put - 1]);
            Edge.is("d 1 after " + put, x.after(put, 3, 1), d[put - 1]);
            Edge.is("a 1 after " + put, x.after(put, 0, 1), put == 11 ? 6 : -1);
        }
        Edge.is("200", x.after(200, 0, 1), 6);
        x.write(0, 0, 77);
        Edge.cutOff(x);
        Edge.is("from the STORE as told", x.after(2, 0, 0), 1);
        Edge.is("from the STORE as told", x.after(1, 0, 0), -1);
    }

    /** Term AFTER: "(if it is not so often PUT: at the end of the WORK, MOUNTED)" */
    static void afterTheEndOfTheWork() {
        FlashNodes x = Edge.with(LARGE, "write a 0 1; write a 0 2;");
        Edge.is("the last PUT", x.after(2, 0, 0), 1);
        Edge.is("one behind it", x.after(3, 0, 0), 2);
        Edge.is("200", x.after(200, 0, 0), 2);
        Edge.work(x, "write a 0 1; open a; remove a;");
        Edge.is("MOUNTED no ORPHAN is there", x.after(3, 0, 0), -1);
        Edge.is("the last PUT", x.after(2, 0, 0), 1);
        Edge.work(x, "");
        Edge.is("no WORK", x.after(1, 0, 0), -1);
        Edge.work(x, "open a;");
        Edge.is("nothing is PUT", x.after(1, 0, 0), -1);
    }

    /** Promise 31: "AFTER; NONE: not MAPPED; -2: others." */
    static void promise31OtherPages() {
        FlashNodes x = Edge.with(LARGE, WORK);
        for (int[] no : noPages()) {
            Edge.is("file " + no[0] + " page " + no[1], x.after(1, no[0], no[1]), -2);
        }
        for (int far : FAR) {
            Edge.is("far", x.after(far, 0, 0), -2);
        }
        Edge.is("not MAPPED", x.after(1, 3, 3), -1);
        Edge.is("no STORE", new FlashNodes().after(1, 0, 0), -2);
        Edge.is("the least value", Edge.with(LARGE, "write a 0 0; commit;").after(2, 0, 0), 0);
    }

    /** Promise 32: "ENDS (0: nothing is PUT)." */
    static void promise32NothingIsPut() {
        Edge.is("no STORE", new FlashNodes().ends(), 0);
        FlashNodes x = Edge.with(LARGE);
        Edge.is("no WORK", x.ends(), 0);
        Edge.work(x, "open a; close a; remove a; collect; write b 1 1;");
        Edge.is("nothing is PUT", x.ends(), 0);
        Edge.work(x, "commit;");
        Edge.is("one PUT", x.ends(), 1);
        Edge.work(x, "write a 0 1;");
        Edge.is("the end of all is none", x.ends(), 1);
    }

    /** Term ENDS: "MAPS by values (which pages are MAPPED, what they SAY)" */
    static void endsAreMapsByValues() {
        FlashNodes x = Edge.with(LARGE, "write a 0 1; write a 0 1; write a 0 1; commit;");
        Edge.is("nothing, and a 0 is 1", x.ends(), 2);
        Edge.work(x, "write a 0 0; write a 1 0; commit;");
        Edge.is("a value of 0 is one", x.ends(), 3);
        Edge.work(x, "write a 0 1; remove a; write a 1 1; remove a; commit;");
        Edge.is("of two alike one", x.ends(), 3);
        Edge.work(x, "write a 0 1; write a 0 2; write a 0 1; write a 0 2; commit;");
        Edge.is("1 and 2 come twice", x.ends(), 3);
        Edge.work(x, WORK);
        Edge.is("many", x.ends(), 7);
    }

    /** Promise 33: "HALVES." and Term HALVES: "that MAP is neither that of a MOUNT ahead of the line in which it falls, nor that of one behind it." */
    static void promise33NoHalves() {
        Edge.is("no STORE", new FlashNodes().halves(), 0);
        FlashNodes x = Edge.with(LARGE);
        Edge.is("no WORK", x.halves(), 0);
        Edge.work(x, "open a; close a;");
        Edge.is("nothing is PUT", x.halves(), 0);
        Edge.work(x, "write a 0 1; write b 0 2; write d 0 3; commit; write a 0 4; remove a; write d 0 5;");
        Edge.is("ahead or behind", x.halves(), 0);
        Edge.work(x, "write c 0 1; write c 0 2; remove c; write c 0 3;");
        Edge.is("by values a twin one says the same by either NODE", x.halves(), 0);
        FlashNodes y = Edge.with("blocks 3; slots 3; file a twin pages 2; collects dirty;",
            "write a 0 1; write a 1 2; write a 0 3; write a 1 4; remove a; commit; write a 0 5; write a 0 6;");
        Edge.is("COLLECTS of a law", y.judged(3) > 0, true);
        Edge.is("COLLECTS of a law", y.halves(), 0);
    }

    // ---- SEEN, CUTS, LOOK

    /** Term SEEN: "and a page SAID a value then (NONE: it was not MAPPED), or did not; 8 at most." */
    static void eightAreSeenAtMost() {
        FlashNodes x = Edge.with(LARGE, WORK);
        for (int i = 0; i < 8; i++) {
            Edge.is("SEEN", x.count(15), i);
            Edge.is("one of eight", x.see(0, 0, 100 + i, false), true);
        }
        Edge.is("the ninth", x.see(0, 0, 3, true), false);
        Edge.is("8 there are", x.count(15), 8);
        Edge.is("the ninth is not SEEN", x.cuts(), 10);
        Edge.store(x, LARGE);
        Edge.is("none", x.count(15), 0);
        Edge.is("room again", x.see(0, 0, 3, true), true);
        FlashNodes y = Edge.with(LARGE, WORK);
        y.see(0, 0, -1, true);
        Edge.is("not MAPPED at 1, 8, 9, 10", y.cuts(), 4);
        FlashNodes z = Edge.with(LARGE, WORK);
        z.see(0, 0, -1, false);
        Edge.is("MAPPED at 2 to 7", z.cuts(), 6);
    }

    /** Promise 34: "SEEN (a value of NONE to 255): true; false: others, 8 there are." */
    static void promise34OtherThingsSeen() {
        FlashNodes x = Edge.with(LARGE);
        for (boolean is : new boolean[] {true, false}) {
            for (int[] no : noPages()) {
                Edge.is("file " + no[0] + " page " + no[1], x.see(no[0], no[1], 1, is), false);
            }
            Edge.is("-2", x.see(0, 0, -2, is), false);
            Edge.is("256", x.see(0, 0, 256, is), false);
            Edge.is("far", x.see(0, 0, Integer.MAX_VALUE, is), false);
            Edge.is("far", x.see(0, 0, Integer.MIN_VALUE, is), false);
        }
        Edge.is("none is SEEN", x.count(15), 0);
        Edge.is("NONE", x.see(0, 0, -1, true), true);
        Edge.is("0", x.see(0, 0, 0, true), true);
        Edge.is("255", x.see(3, 3, 255, false), true);
        Edge.is("three are SEEN", x.count(15), 3);
        Edge.is("no STORE", new FlashNodes().see(0, 0, 0, true), false);
    }

    /** Promise 35: "CUTS, how many." and Term CUTS: "CUTS: PUTS, how many, by which all SEEN is so." */
    static void promise35NoneAndAllCuts() {
        Edge.is("no STORE", new FlashNodes().cuts(), 0);
        FlashNodes x = Edge.with(LARGE);
        Edge.is("no WORK", x.cuts(), 0);
        Edge.work(x, "open a;");
        Edge.is("nothing is PUT", x.cuts(), 0);
        Edge.work(x, WORK);
        Edge.is("nothing SEEN: all", x.cuts(), 10);
        x.see(0, 0, 3, true);
        Edge.is("a 0 is 3", x.cuts(), 4);
        x.see(2, 0, 4, false);
        Edge.is("c 0 is not 4", x.cuts(), 2);
        x.see(0, 0, 3, true);
        Edge.is("the same again", x.cuts(), 2);
        x.see(0, 0, 3, false);
        Edge.is("none", x.cuts(), 0);
    }

    /** Promise 36: "LOOK, as 4 * the FILE + the page; NONE: none parts them." and Term LOOK: "if that is less than all; of equal ones the first." */
    static void promise36NoneParts() {
        Edge.is("no STORE", new FlashNodes().look(), -1);
        FlashNodes x = Edge.with("blocks 6; slots 6; file a plain pages 4; file b plain pages 4; file c plain pages 4; "
            + "file d plain pages 4; file e plain pages 4;");
        Edge.is("no WORK", x.look(), -1);
        Edge.work(x, "commit; commit;");
        Edge.is("all say the same", x.look(), -1);
        Edge.work(x, "write a 0 1;");
        Edge.is("one PUT", x.look(), -1);
        Edge.work(x, "write e 3 1; commit;");
        Edge.is("the last page", x.look(), 19);
        Edge.work(x, "write a 0 1; commit;");
        Edge.is("the first page", x.look(), 0);
        Edge.work(x, "write b 2 1; write a 3 1; commit;");
        Edge.is("of equal ones the first: 2 of 3 each", x.look(), 3);
        Edge.work(x, "write b 2 0; write b 2 1; commit; commit;");
        Edge.is("2 of 4 at most", x.look(), 6);
        x.see(1, 2, 1, true);
        Edge.is("two, both say 1", x.cuts() * 10 + x.look(), 19);
        x.see(1, 2, 1, false);
        Edge.is("none fits", x.cuts() * 10 + x.look(), -1);
    }

    /**
     * Term LOOK: "LOOK: the page (by FILES) of which the greatest number of these by which it SAYS the same (nothing) is
     * the least, if that is less than all"
     */
    static void lookTakesTheLeastOfTheGreatest() {
        FlashNodes x = Edge.with(LARGE, WORK);
        // Of 10 PUTS a 0 says nothing at 4, 1 at 2, 3 at 4: at most 4. b 0: 2 at 8. c 0: 4 at 5. d 1: nothing at 8.
        Edge.is("at most 4", x.look(), 0);
        x.see(0, 0, 3, true);
        Edge.is("c 0: nothing at 4 and 5, 4 at 6 and 7", x.look(), 8);
        x.see(2, 0, 4, true);
        Edge.is("6 and 7 are alike", x.cuts() * 10 + x.look(), 19);
        FlashNodes y = Edge.with(LARGE, WORK);
        y.see(0, 0, -1, true);
        Edge.is("1, 8, 9, 10: b 0 says 2 at three, d 1 nothing at two", y.cuts() * 100 + y.look(), 413);
        Edge.work(y, "write d 0 1; write a 1 1; write d 0 2;");
        Edge.is("a 1: nothing at 3 of 5; d 0: 1 at 3 of 5", y.cuts() * 10 + y.look(), 51);
        FlashNodes z = Edge.with(LARGE, "write b 0 1; commit; commit; commit;");
        Edge.is("nothing at one of four", z.look(), 4);
        z.see(1, 0, -1, false);
        Edge.is("three are alike", z.cuts() * 10 + z.look(), 29);
        z.see(1, 0, 0, false);
        Edge.is("none is less than all", z.look(), -1);
    }

    // ---- lives, DRAWS, ages

    /**
     * Promise 37: "The SLOT of the NODE of the i-th least SEQ (from 0) of those that are LIVE. NoSuchElementException:
     * there are not so many, i is less than 0."
     */
    static void promise37NotSoMany() {
        FlashNodes x = Edge.with(LARGE);
        Edge.is("no STORE", Edge.lives(new FlashNodes(), 0), Edge.NO_SUCH);
        Edge.is("none is LIVE", Edge.lives(x, 0), Edge.NO_SUCH);
        x.write(0, 0, 1);
        x.write(0, 0, 2);
        x.write(0, 1, 3);
        Edge.is("the least", Edge.lives(x, 0), 1);
        Edge.is("the greatest", Edge.lives(x, 1), 2);
        Edge.is("not so many", Edge.lives(x, 2), Edge.NO_SUCH);
        Edge.is("-1", Edge.lives(x, -1), Edge.NO_SUCH);
        for (int far : FAR) {
            Edge.is("far", Edge.lives(x, far), Edge.NO_SUCH);
        }
        Edge.cutOff(x);
        Edge.is("power off", Edge.lives(x, 0), Edge.NO_SUCH);
        FlashNodes y = Edge.with("blocks 1; slots 1;");
        y.commit();
        Edge.is("full with one", Edge.lives(y, 0), 0);
        Edge.is("full with one", Edge.lives(y, 1), Edge.NO_SUCH);
        FlashNodes z = Edge.with("blocks 6; slots 6; file a plain pages 4; file b plain pages 4; ");
        for (int i = 0; i < 8; i++) {
            z.write(i / 4, i % 4, i);
        }
        z.commit();
        for (int i = 0; i < 11; i++) {
            Edge.is("by SEQS", Edge.lives(z, i), i);
        }
        Edge.is("eleven", Edge.lives(z, 11), Edge.NO_SUCH);
        FlashNodes w = Edge.with("blocks 3; slots 3; file a plain pages 2; ");
        w.write(0, 0, 1);
        for (int i = 0; i < 3; i++) {
            w.write(0, 1, i);
        }
        w.collect();
        Edge.is("the least SEQ lies behind", Edge.lives(w, 0) * 10 + Edge.lives(w, 1), 43);
    }

    /** Ten DRAWS below m, in numbers without an end. */
    private static int[] draws(int seed, int[] below) {
        BigInteger g = BigInteger.valueOf(seed);
        int[] drawn = new int[below.length];
        for (int i = 0; i < below.length; i++) {
            g = g.multiply(BigInteger.valueOf(1103515245)).add(BigInteger.valueOf(12345)).mod(BigInteger.ONE.shiftLeft(31));
            drawn[i] = g.divide(BigInteger.valueOf(65536)).mod(BigInteger.valueOf(below[i])).intValue();
        }
        return drawn;
    }

    /**
     * Term DRAW: "A DRAW below m: g becomes (g * 1103515245 + 12345) modulo 2147483648 (g is the SEED at first); it is
     * g / 65536, cut, modulo m."
     */
    static void aDrawWrapsAt2147483648() {
        String files = "blocks 6; slots 6; file a plain pages 4; file b plain pages 4; file c plain pages 4; ";
        FlashNodes x = Edge.with(files);
        int[] seen = new int[8];
        for (int seed = 0; seed < 60; seed++) {
            int[] first = draws(seed * 169, new int[] {8, 3, 4, 256});
            seen[first[0]]++;
            boolean put = first[0] < 4 || first[0] == 6;
            Edge.is("could", x.ages(seed * 169, 1, 0), first[0] == 4 || first[0] == 7 ? 0 : 1);
            Edge.is("ERASED", x.ages(seed * 169, 1, 1), put ? 35 : 36);
            Edge.is("MAPPED", x.ages(seed * 169, 1, 2), first[0] < 4 ? 1 : 0);
        }
        for (int kind = 0; kind < 8; kind++) {
            Edge.is("kind " + kind + " was drawn", seen[kind] > 0, true);
        }
        FlashModel model = new FlashModel();
        model.store = FlashModel.Store.read(files);
        model.now = new FlashModel.State(model.store);
        for (int seed = 0; seed < 200; seed++) {
            int one = seed * 50;
            FlashNodes y = Edge.with(files);
            for (int what = 0; what < 3; what++) {
                Edge.is("99 acts", y.ages(one, 99, what), model.ages(one, 99, what));
            }
        }
    }

    /** Term LIVES: "LIVES by a SEED of so many (1 to 99) acts, from now on, no CUT (all is as ahead then; nothing with power off): each, if there are FILES" */
    static void livesAreOneTo99Acts() {
        FlashNodes x = Edge.with(LARGE);
        // By 0 the first act is a WRITE of page 0 of FILE 0.
        Edge.is("one act", x.ages(0, 1, 0) * 100 + x.ages(0, 1, 1), 135);
        Edge.is("99 acts", x.ages(0, 99, 0) > 1, true);
        Edge.is("100 acts", x.ages(0, 100, 0), -1);
        Edge.is("no act", x.ages(0, 0, 0), -1);
        x.write(0, 0, 1);
        x.open(1);
        x.cut(1);
        Edge.is("from now on, no CUT", x.ages(0, 1, 0) * 100 + x.ages(0, 1, 1), 134);
        Edge.is("no CUT", x.ages(0, 99, 0) > 1, true);
        Edge.countsAre(x, 6, 6, 4, 35, 1, 0, 1, 0, 1, 1, 1, 1, 1, 0, 0, 0, 0);
        Edge.is("all is as ahead", x.says(0, 0) * 10 + x.file(1, 3), 11);
        Edge.is("no FILES", Edge.with("blocks 2; slots 2;").ages(0, 99, 0), 0);
        Edge.is("no FILES", Edge.with("blocks 2; slots 2;").ages(0, 99, 1), 4);
        x.commit();
        for (int what = 0; what < 3; what++) {
            Edge.is("power off", x.ages(0, 1, what), -1);
        }
    }

    /**
     * Term LIVES: "a DRAW below 8: 0 to 3: a DRAW below FILES, one below 4, one below 256: that page is WRITTEN so, 4: a
     * DRAW below FILES: that one is REMOVED, 5: a DRAW below FILES: it is OPENED, or CLOSED, 6: COMMIT, 7: COLLECT (each
     * if it can be): how many could be"
     */
    static void whatCantBeIsNoActThatCould() {
        FlashNodes x = Edge.with("blocks 6; slots 6; file a plain pages 2; file b plain pages 3;");
        FlashNodes full = Edge.with("blocks 1; slots 1; file a plain pages 2; file b plain pages 3;");
        int refused = 0;
        for (int seed = 0; seed < 120; seed++) {
            int[] drawn = draws(seed * 83, new int[] {8, 2, 4, 256});
            boolean there = drawn[2] < 2 + drawn[1];
            boolean could = drawn[0] < 4 ? there : drawn[0] == 5 || drawn[0] == 6;
            Edge.is("a page of 2 or 3, of 4 drawn", x.ages(seed * 83, 1, 0), could ? 1 : 0);
            Edge.is("no room but for a part", full.ages(seed * 83, 1, 0), drawn[0] == 5 || drawn[0] == 6 ? 1 : 0);
            refused += drawn[0] < 4 && !there ? 1 : 0;
        }
        Edge.is("some pages were none", refused > 5, true);
        x.open(0);
        x.write(1, 2, 5);
        for (int seed = 0; seed < 120; seed++) {
            int[] drawn = draws(seed * 83, new int[] {8, 2, 4, 256});
            int could = drawn[0] == 4 ? drawn[1] : drawn[0] < 4 ? drawn[2] < 2 + drawn[1] ? 1 : 0 : drawn[0] < 7 ? 1 : 0;
            Edge.is("one FILE is OPEN, one has a page", x.ages(seed * 83, 1, 0), could);
        }
    }

    /** Promise 38: "LIVES by a SEED (0 to 9999), what 0, 1, 2: how many; NONE: others, the power is off." */
    static void promise38SeedsZeroTo9999() {
        FlashNodes x = Edge.with(LARGE);
        Edge.is("least", x.ages(0, 1, 0) >= 0, true);
        Edge.is("most", x.ages(9999, 99, 2) >= 0, true);
        int[][] others = {{-1, 1, 0}, {10000, 1, 0}, {0, 0, 0}, {0, 100, 0}, {0, -1, 0}, {0, 1, -1}, {0, 1, 3}};
        for (int[] other : others) {
            Edge.is("seed " + other[0] + " acts " + other[1] + " what " + other[2],
                x.ages(other[0], other[1], other[2]), -1);
        }
        for (int far : new int[] {Integer.MIN_VALUE, Integer.MAX_VALUE}) {
            Edge.is("far", x.ages(far, 1, 0), -1);
            Edge.is("far", x.ages(1, far, 0), -1);
            Edge.is("far", x.ages(1, 1, far), -1);
        }
        Edge.is("no STORE", new FlashNodes().ages(0, 1, 0), 0);
        Edge.is("no STORE", new FlashNodes().ages(0, 1, 3), -1);
        Edge.cutOff(x);
        Edge.is("power off", x.ages(0, 1, 0), -1);
        x.mount();
        Edge.is("power on", x.ages(0, 1, 0), 1);
    }

    // ---- MARKS

    /** Promise 39: "A MARK is laid (back: gone back to): true; false: none such, nothing is on it (back)." */
    static void promise39NoSuchMark() {
        FlashNodes x = Edge.with(LARGE);
        for (boolean back : new boolean[] {true, false}) {
            Edge.is("2", x.mark(2, back), false);
            Edge.is("-1", x.mark(-1, back), false);
            for (int far : FAR) {
                Edge.is("far", x.mark(far, back), false);
            }
        }
        Edge.is("nothing is on 0", x.mark(0, true), false);
        Edge.is("nothing is on 1", x.mark(1, true), false);
        x.write(0, 0, 1);
        Edge.is("1 is laid", x.mark(1, false), true);
        Edge.is("nothing is on 0", x.mark(0, true), false);
        Edge.is("nothing is done", x.says(0, 0), 1);
        x.write(0, 0, 2);
        Edge.is("laid over", x.mark(1, false), true);
        x.write(0, 0, 3);
        Edge.is("0 is laid", x.mark(0, false), true);
        Edge.is("back", x.mark(1, true), true);
        Edge.is("to the last laid", x.says(0, 0), 2);
        Edge.is("back once more", x.mark(1, true), true);
        Edge.is("the other", x.mark(0, true), true);
        Edge.is("the other", x.says(0, 0), 3);
        Edge.is("no STORE", new FlashNodes().mark(0, true), false);
        Edge.is("no STORE", new FlashNodes().mark(0, false), true);
    }

    /** Term MARKS: "MARKS 0 and 1 hold all but the texts (the STORE, the TAPE, the WORK)." */
    static void marksHoldAllButTheTexts() {
        FlashNodes x = Edge.with("blocks 3; slots 3; file a plain pages 2; file b plain pages 1;", "commit;");
        x.write(0, 0, 1);
        x.write(1, 0, 2);
        x.open(0);
        x.open(1);
        x.remove(0);
        x.commit();
        x.write(1, 0, 3);
        x.see(0, 0, 5, true);
        x.cut(4);
        x.mark(0, false);
        int[] due = new int[16];
        for (int what = 0; what < 16; what++) {
            due[what] = x.count(what);
        }
        x.close(0);
        x.collect();
        x.see(1, 0, 5, true);
        Edge.cutOff(x);
        x.mark(1, false);
        Edge.is("two lines", Edge.work(x, "commit; commit;"), 0);
        Edge.feed(x, "file");
        Edge.is("back", x.mark(0, true), true);
        due[14] = 2;
        Edge.countsAre(x, due);
        Edge.is("the TAPE", x.count(16), 4);
        Edge.is("OPEN, ORPHAN", x.file(0, 3) * 100 + x.file(0, 4) * 10 + x.file(1, 3), 111);
        Edge.is("erased", x.block(0, 3) + x.block(1, 3), 0);
        Edge.is("values", x.says(0, 0) * 10 + x.says(1, 0), 13);
        Edge.slotIs(x, 3, 3, 4, 0, 1, 1, 1);
        Edge.is("to the other", x.mark(1, true), true);
        Edge.is("power off, two SEEN, two lines", x.count(11) * 100 + x.count(15) * 10 + x.count(14), 22);
        Edge.is("BLOCK 0 was collected", x.block(0, 3), 1);
        Edge.is("the TAPE", x.count(16), 4);
    }

    // ---- count

    /**
     * Promise 40: "What 0: BLOCKS, 1: SLOTS of a BLOCK, 2: FILES, 3: ERASED, 4: LIVE, 5: DIRTY SLOTS, 6: the last SEQ, 7:
     * the BASE, 8: the JOURNAL, 9: PARTS, 10: MAPPED pages, 11: 1 power on, 12: PUTS until CUT (0: no CUT), 13: the HEAD
     * (NONE: none), 14: lines of the WORK, 15: SEEN, 16: signs on the TAPE. NONE for another what."
     */
    static void promise40NothingToCount() {
        FlashNodes x = Edge.with("blocks 2; slots 2; " + ONE);
        Edge.is("17", x.count(17), -1);
        for (int far : FAR) {
            Edge.is("far", x.count(far), -1);
        }
        Edge.countsAre(x, 2, 2, 1, 4, 0, 0, 0, 0, 0, 1, 0, 1, 0, -1, 0, 0, 0);
        x.cut(20);
        x.commit();
        Edge.countsAre(x, 2, 2, 1, 3, 1, 0, 1, 1, 0, 1, 0, 1, 19, 0, 0, 0, 0);
        x.write(0, 0, 1);
        x.commit();
        Edge.countsAre(x, 2, 2, 1, 1, 2, 1, 3, 3, 0, 1, 1, 1, 17, 1, 0, 0, 0);
        x.commit();
        Edge.countsAre(x, 2, 2, 1, 0, 2, 2, 4, 4, 0, 1, 1, 1, 16, 1, 0, 0, 0);
        Edge.countsAre(new FlashNodes(), 0, 0, 0, 0, 0, 0, 0, 0, 0, 1, 0, 1, 0, -1, 0, 0, 0);
    }

    // ---- not promised

    /** Not promised: "Nothing is promised beyond the answers and state changes described above, and nothing about an object after its 512th call." */
    static void nothingBeyondTheStateChanges() {
        FlashNodes x = Edge.with(LARGE, WORK);
        FlashNodes y = Edge.with("blocks 1; slots 1; file z plain pages 1;", "open z;");
        x.write(0, 0, 1);
        x.see(0, 0, 1, true);
        x.mark(0, false);
        x.cut(9);
        Edge.feed(x, "a");
        Edge.countsAre(y, 1, 1, 1, 1, 0, 0, 0, 0, 0, 1, 0, 1, 0, -1, 1, 0, 0);
        Edge.is("no MARK of another object", y.mark(0, true), false);
        int[] ahead = new int[17];
        for (int what = 0; what < 17; what++) {
            ahead[what] = x.count(what);
        }
        for (int file = -1; file < 5; file++) {
            for (int page = -1; page < 5; page++) {
                x.says(file, page);
                x.may(file, page);
                x.copies(file, page);
                x.chain(file, page);
                x.after(page, file, page);
                x.slot(file, page);
                x.block(file, page);
                x.file(file, page);
                x.judged(page);
                x.rounds(page);
                x.ages(page, 9, file);
            }
        }
        Edge.lives(x, 0);
        Edge.is("asked", x.spare() + x.pick() + x.gain() + x.found() + x.loses() + x.wear() + x.oldest() + x.hot()
            + x.ends() + x.halves() + x.cuts() + x.look() > 0 && x.agrees(), true);
        Edge.countsAre(x, ahead);
        Edge.is("what only asks leaves the MARK", x.mark(0, true), true);
    }
}
