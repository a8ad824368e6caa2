/** The edges that promises 5 to 16 name: what stands where, and what is done by hand. */
final class EdgesOfActs {
    private static final int[] FAR = {Integer.MIN_VALUE, -1000, -2, -1, 1000, Integer.MAX_VALUE};
    private static final String KINDS = "file a plain pages 2; file b log pages 3; file c twin pages 1; "
        + "file d sync pages 4; ";
    private static final String LARGE = "blocks 6; slots 6; " + KINDS;

    private EdgesOfActs() {
    }

    /**
     * Promise 5: "Of a SLOT, what 0: 0 ERASED, 1 DATA, 2 GONE, 3 INDEX, 4 TORN, 1: its SEQ, 2: the FILE (of INDEX the
     * part, from 0), 3: the page (of INDEX how many parts), 4: the value (of INDEX how many pages it has), 5: 1 LIVE"
     */
    static void promise5EachKindOfNode() {
        FlashNodes x = Edge.with(LARGE);
        Edge.slotIs(x, 0, 0, -1, -1, -1, -1, 0);
        x.write(0, 1, 0);
        x.write(1, 0, 255);
        Edge.slotIs(x, 0, 1, 1, 0, 1, 0, 1);
        Edge.slotIs(x, 1, 1, 2, 1, 0, 255, 1);
        x.commit();
        Edge.slotIs(x, 2, 3, 3, 0, 1, 2, 1);
        x.write(0, 0, 9);
        x.write(1, 1, 9);
        x.commit();
        Edge.slotIs(x, 5, 3, 6, 0, 2, 4, 1);
        Edge.slotIs(x, 6, 3, 7, 1, 2, 0, 1);
        Edge.slotIs(x, 2, 3, 3, 0, 1, 2, 0);
        x.remove(1);
        Edge.slotIs(x, 7, 2, 8, 1, -1, -1, 1);
        Edge.slotIs(x, 1, 1, 2, 1, 0, 255, 0);
        Edge.slotIs(x, 8, 0, -1, -1, -1, -1, 0);
    }

    /** Promise 5: "NONE: what it has none of" */
    static void promise5WhatASlotHasNoneOf() {
        FlashNodes x = Edge.with("blocks 2; slots 2; " + KINDS);
        x.write(0, 0, 5);
        x.remove(0);
        x.cut(1);
        x.commit();
        Edge.is("it is TORN", x.slot(2, 0), 4);
        for (int what = 1; what <= 4; what++) {
            Edge.is("DATA has it", x.slot(0, what) >= 0, true);
            Edge.is("GONE", x.slot(1, what), new int[] {0, 2, 0, -1, -1}[what]);
            Edge.is("TORN", x.slot(2, what), -1);
            Edge.is("ERASED", x.slot(3, what), -1);
        }
        x.mount();
        Edge.is("all of it is ERASED", x.commit() * 10 + x.collect(), 10);
        for (int what = 0; what <= 4; what++) {
            Edge.is("ERASED again", x.slot(0, what), what == 0 ? 0 : -1);
        }
    }

    /** Promise 5: "-2: others." */
    static void promise5OtherSlots() {
        FlashNodes x = Edge.with("blocks 2; slots 3;");
        for (int what = 0; what <= 5; what++) {
            Edge.is("the first", x.slot(0, what) > -2, true);
            Edge.is("the last", x.slot(5, what) > -2, true);
            Edge.is("behind it", x.slot(6, what), -2);
            Edge.is("ahead of the first", x.slot(-1, what), -2);
            Edge.is("no STORE", new FlashNodes().slot(0, what), -2);
            for (int far : FAR) {
                Edge.is("far", x.slot(far, what), -2);
            }
        }
        Edge.is("what 6", x.slot(0, 6), -2);
        for (int far : FAR) {
            Edge.is("what " + far, x.slot(0, far), -2);
        }
        Edge.is("a SLOT more", Edge.with("blocks 6; slots 6;").slot(35, 0), 0);
        Edge.is("36", Edge.with("blocks 6; slots 6;").slot(36, 0), -2);
        Edge.is("of a BLOCK without SLOTS", Edge.with("blocks 6;").slot(0, 0), -2);
        Edge.is("without BLOCKS", Edge.with("slots 6;").slot(0, 0), -2);
    }

    /** Promise 6: "Of a BLOCK, what 0: ERASED SLOTS, 1: LIVE, 2: DIRTY ones, 3: how many times it was erased, 4: 1 HEAD" */
    static void promise6EmptyAndFullBlocks() {
        FlashNodes x = Edge.with("blocks 2; slots 2; " + KINDS);
        Edge.is("empty", x.block(0, 0) * 10000 + x.block(0, 1) * 1000 + x.block(0, 2) * 100 + x.block(0, 3) * 10
            + x.block(0, 4), 20000);
        x.write(0, 0, 1);
        x.write(0, 0, 2);
        Edge.is("full", x.block(0, 0) * 10000 + x.block(0, 1) * 1000 + x.block(0, 2) * 100 + x.block(0, 3) * 10
            + x.block(0, 4), 1101);
        x.commit();
        Edge.is("not the HEAD", x.block(0, 4), 0);
        Edge.is("the HEAD", x.block(1, 4), 1);
        x.collect();
        Edge.is("erased", x.block(0, 0) * 10000 + x.block(0, 1) * 1000 + x.block(0, 2) * 100 + x.block(0, 3) * 10
            + x.block(0, 4), 20010);
        Edge.is("the other", x.block(1, 0) * 10 + x.block(1, 1), 2);
    }

    /** Promise 6: "NONE: others." */
    static void promise6OtherBlocks() {
        FlashNodes x = Edge.with("blocks 2; slots 2;");
        for (int what = 0; what <= 4; what++) {
            Edge.is("the last", x.block(1, what) >= 0, true);
            Edge.is("behind it", x.block(2, what), -1);
            Edge.is("ahead of the first", x.block(-1, what), -1);
            Edge.is("no STORE", new FlashNodes().block(0, what), -1);
            Edge.is("the sixth", Edge.with("blocks 6; slots 1;").block(5, what) >= 0, true);
            Edge.is("the seventh", Edge.with("blocks 6; slots 1;").block(6, what), -1);
            for (int far : FAR) {
                Edge.is("far", x.block(far, what), -1);
            }
        }
        Edge.is("what 5", x.block(0, 5), -1);
        for (int far : FAR) {
            Edge.is("what " + far, x.block(0, far), -1);
        }
    }

    /** Promise 7: "Of a FILE, what 0: KIND (0 plain, 1 log, 2 twin, 3 sync), 1: pages, 2: MAPPED ones, as bits, 3: 1 OPEN, 4: 1 an ORPHAN" */
    static void promise7NoneAndAllPagesAsBits() {
        FlashNodes x = Edge.with(LARGE);
        for (int file = 0; file < 4; file++) {
            Edge.is("KIND", x.file(file, 0), file);
            Edge.is("pages", x.file(file, 1), new int[] {2, 3, 1, 4}[file]);
            Edge.is("none", x.file(file, 2) + x.file(file, 3) + x.file(file, 4), 0);
        }
        int bits = 0;
        for (int page = 3; page >= 0; page--) {
            x.write(3, page, 0);
            bits |= 1 << page;
            Edge.is("bits", x.file(3, 2), bits);
        }
        x.open(3);
        Edge.is("OPEN", x.file(3, 3) * 10 + x.file(3, 4), 10);
        x.remove(3);
        Edge.is("an ORPHAN", x.file(3, 3) * 10 + x.file(3, 4), 11);
        Edge.is("bits of an ORPHAN", x.file(3, 2), 15);
    }

    /** Promise 7: "NONE: others." */
    static void promise7OtherFiles() {
        FlashNodes x = Edge.with("file a plain pages 1; file b plain pages 2;");
        for (int what = 0; what <= 4; what++) {
            Edge.is("the last", x.file(1, what) >= 0, true);
            Edge.is("behind it", x.file(2, what), -1);
            Edge.is("ahead of the first", x.file(-1, what), -1);
            Edge.is("no STORE", new FlashNodes().file(0, what), -1);
            for (int far : FAR) {
                Edge.is("far", x.file(far, what), -1);
            }
        }
        Edge.is("what 5", x.file(0, 5), -1);
        for (int far : FAR) {
            Edge.is("what " + far, x.file(0, far), -1);
        }
    }

    /** Promise 8: "WRITE (0 to 255): the SEQ to which the page is MAPPED" */
    static void promise8ValuesZeroTo255() {
        FlashNodes x = Edge.with(LARGE);
        Edge.is("least", x.write(0, 0, 0), 1);
        Edge.is("least", x.says(0, 0), 0);
        Edge.is("most", x.write(0, 0, 255), 2);
        Edge.is("most", x.says(0, 0), 255);
        Edge.is("too small", x.write(0, 0, -1), -1);
        Edge.is("too large", x.write(0, 0, 256), -1);
        for (int far : FAR) {
            Edge.is("far", x.write(0, 0, far), -1);
        }
        Edge.is("nothing is PUT", x.count(6), 2);
        Edge.is("of a twin one the last", x.write(2, 0, 1), 4);
        Edge.is("of a sync one that of DATA", x.write(3, 3, 1), 5);
        Edge.is("and not the last", x.count(6), 6);
    }

    /** Promise 8: "NONE: others, it can't be; -2: the power was CUT in it." */
    static void promise8RefusedAndCutWrites() {
        FlashNodes x = Edge.with(LARGE);
        int[][] others = {{-1, 0}, {4, 0}, {0, -1}, {0, 2}, {1, 1}, {1, 3}, {2, 1}, {3, 4}, {5, 5}};
        for (int[] other : others) {
            Edge.is("file " + other[0] + " page " + other[1], x.write(other[0], other[1], 1), -1);
        }
        for (int far : FAR) {
            Edge.is("far", x.write(far, 0, 1), -1);
            Edge.is("far", x.write(0, far, 1), -1);
        }
        Edge.is("nothing is PUT", x.count(3), 36);
        Edge.is("no STORE", new FlashNodes().write(0, 0, 0), -1);
        Edge.is("no SLOTS", Edge.with("blocks 6; " + KINDS).write(0, 0, 0), -1);
        Edge.is("no BLOCKS", Edge.with("slots 6; " + KINDS).write(0, 0, 0), -1);
        x.mark(0, false);
        int[] puts = {1, 1, 2, 2};
        for (int file = 0; file < 4; file++) {
            for (int put = 1; put <= puts[file]; put++) {
                x.mark(0, true);
                x.cut(put);
                Edge.is("cut in it", x.write(file, 0, 1), -2);
                Edge.is("power off", x.write(file, 0, 1), -1);
                x.mount();
                boolean there = put == 2;
                Edge.is("what a MOUNT maps", x.says(file, 0), there ? 1 : -1);
            }
            x.mark(0, true);
            x.cut(puts[file] + 1);
            Edge.is("not cut in it", x.write(file, 0, 1) > 0, true);
        }
    }

    /** Promise 9: "REMOVE: the SEQ of GONE; NONE: others, it can't be; -2: the power was CUT in it." */
    static void promise9RefusedAndCutRemoves() {
        FlashNodes x = Edge.with(LARGE);
        Edge.is("nothing MAPPED", x.remove(0), -1);
        Edge.is("file 4", x.remove(4), -1);
        for (int far : FAR) {
            Edge.is("far", x.remove(far), -1);
        }
        Edge.is("no STORE", new FlashNodes().remove(0), -1);
        x.write(0, 0, 1);
        Edge.is("the SEQ of GONE", x.remove(0), 2);
        Edge.is("it is GONE", x.slot(1, 0) * 10 + x.slot(1, 1), 22);
        x.write(0, 0, 1);
        x.cut(1);
        Edge.is("cut in it", x.remove(0), -2);
        Edge.is("power off", x.remove(0), -1);
        x.mount();
        Edge.is("it is still there", x.says(0, 0), 1);
        x.cut(2);
        Edge.is("not cut in it", x.remove(0), 4);
        FlashNodes y = Edge.with("blocks 1; slots 3; reserve 1; file a plain pages 1;");
        y.write(0, 0, 1);
        Edge.is("no room", y.remove(0), -1);
        Edge.is("it stays MAPPED", y.says(0, 0), 1);
    }

    /** Promise 10: "OPEN: true; false: others, it can't be." */
    static void promise10RefusedOpens() {
        FlashNodes x = Edge.with(LARGE);
        Edge.is("the first", x.open(0), true);
        Edge.is("the last", x.open(3), true);
        Edge.is("OPEN", x.open(3), false);
        Edge.is("file 4", x.open(4), false);
        for (int far : FAR) {
            Edge.is("far", x.open(far), false);
        }
        Edge.is("no STORE", new FlashNodes().open(0), false);
        Edge.cutOff(x);
        Edge.is("power off", x.open(1), false);
        Edge.is("power off", x.file(1, 3), 0);
        x.mount();
        Edge.is("power on", x.open(0), true);
    }

    /** Promise 11: "CLOSE, likewise." */
    static void promise11RefusedCloses() {
        FlashNodes x = Edge.with(LARGE);
        Edge.is("not OPEN", x.close(3), false);
        x.open(3);
        Edge.is("OPEN", x.close(3), true);
        Edge.is("not OPEN", x.close(3), false);
        x.open(0);
        Edge.is("file 4", x.open(4) || x.close(4), false);
        for (int far : FAR) {
            Edge.is("far", x.close(far), false);
        }
        Edge.is("no STORE", new FlashNodes().close(0), false);
        Edge.is("it stays OPEN", x.file(0, 3), 1);
        Edge.cutOff(x);
        Edge.is("power off", x.close(0), false);
        x.mount();
        Edge.is("no FILE is OPEN", x.close(0), false);
    }

    /** Promise 12: "COMMIT: how many parts; NONE: it can't be; -2: the power was CUT in it." */
    static void promise12RefusedAndCutCommits() {
        FlashNodes x = Edge.with("blocks 1; slots 6; file a plain pages 4;");
        Edge.is("the least", x.commit(), 1);
        Edge.is("no STORE", new FlashNodes().commit(), -1);
        for (int page = 0; page < 3; page++) {
            x.write(0, page, 1);
        }
        Edge.is("three pages", x.commit(), 1);
        Edge.is("one is left", x.count(3), 1);
        x.mark(0, false);
        Edge.is("the last SLOT", x.commit(), 1);
        Edge.is("full", x.commit(), -1);
        x.mark(0, true);
        x.cut(1);
        Edge.is("cut in it", x.commit(), -2);
        Edge.is("power off", x.commit(), -1);
        x.mount();
        Edge.is("full", x.commit(), -1);
        FlashNodes y = Edge.with("blocks 6; slots 6; file a plain pages 4;");
        for (int page = 0; page < 4; page++) {
            y.write(0, page, 1);
        }
        y.mark(0, false);
        for (int put = 1; put <= 3; put++) {
            y.mark(0, true);
            y.cut(put);
            Edge.is("cut at " + put, y.commit(), put < 3 ? -2 : 2);
            Edge.is("power off, or room", y.commit(), put < 3 ? -1 : -2);
        }
    }

    /** Promise 13: "COLLECT: the BLOCK; NONE: it can't be; -2: the power was CUT in it." */
    static void promise13RefusedAndCutCollects() {
        FlashNodes x = Edge.with("blocks 3; slots 2; file a plain pages 2;");
        Edge.is("no STORE", new FlashNodes().collect(), -1);
        Edge.is("nothing DIRTY", x.collect(), -1);
        x.write(0, 0, 1);
        x.write(0, 0, 2);
        Edge.is("the HEAD", x.collect(), -1);
        x.write(0, 1, 2);
        x.mark(0, false);
        Edge.is("the BLOCK", x.collect(), 0);
        x.mark(0, true);
        x.cut(1);
        Edge.is("cut in it", x.collect(), -2);
        Edge.is("power off", x.collect(), -1);
        x.mark(0, true);
        x.cut(2);
        Edge.is("one is PUT", x.collect(), 0);
        Edge.is("one is PUT", x.count(12), 1);
        x.mark(0, true);
        x.write(0, 0, 3);
        x.cut(1);
        Edge.is("none is PUT", x.collect(), 0);
        Edge.is("none is PUT", x.count(12), 1);
        Edge.is("none is DIRTY", x.collect(), -1);
        x.mount();
        x.write(0, 0, 4);
        Edge.is("another BLOCK", x.collect(), 1);
    }

    /** Promise 14: "CUT: true; false: others, the power is off." */
    static void promise14RefusedCuts() {
        FlashNodes x = Edge.with(LARGE);
        for (int n = -3; n <= 25; n++) {
            Edge.is("cut " + n, x.cut(n), n >= 1 && n <= 20);
            Edge.is("PUTS until CUT", x.count(12), n < 1 ? 0 : Math.min(n, 20));
        }
        for (int far : FAR) {
            Edge.is("far", x.cut(far), false);
        }
        Edge.cutOff(x);
        Edge.is("power off", x.cut(1), false);
        Edge.is("no CUT", x.count(12), 0);
        x.mount();
        Edge.is("power on", x.cut(20), true);
    }

    /** Promise 15: "MOUNT: how long the JOURNAL is." */
    static void promise15NoJournal() {
        Edge.is("no STORE", new FlashNodes().mount(), 0);
        FlashNodes x = Edge.with(LARGE);
        Edge.is("nothing", x.mount(), 0);
        x.write(2, 0, 1);
        Edge.is("both of a twin one", x.mount(), 2);
        x.write(2, 0, 2);
        x.remove(2);
        Edge.is("all that has SEQS", x.mount(), 5);
        Edge.is("again", x.mount(), 5);
        x.cut(1);
        x.write(0, 0, 1);
        Edge.is("TORN does not count", x.mount(), 5);
        x.commit();
        Edge.is("none above the BASE", x.mount(), 0);
    }

    /** Promise 16: "JUDGED, what 0: a line (NONE: none), 1, 2, 3: how many; -2: others." */
    static void promise16OtherWhats() {
        FlashNodes x = Edge.with("blocks 2; slots 2; file a plain pages 1;", "write a 0 1; open a; open a;");
        Edge.is("a line", x.judged(0), 2);
        Edge.is("PUT", x.judged(1), 1);
        Edge.is("ERASED", x.judged(2), 3);
        Edge.is("COLLECTED", x.judged(3), 0);
        Edge.is("what 4", x.judged(4), -2);
        Edge.is("what -1", x.judged(-1), -2);
        for (int far : FAR) {
            Edge.is("far", x.judged(far), -2);
        }
        Edge.is("no STORE", new FlashNodes().judged(4), -2);
        Edge.work(x, "");
        Edge.is("none", x.judged(0), -1);
        Edge.is("the last of 24 lines", Edge.work(x, "open a;" + "write a 0 1;".repeat(2) + "commit;" + "close a; open a;".repeat(9)
            + "close a; close a;"), 0);
        Edge.is("the last of 24 lines", x.judged(0), 23);
    }
}
