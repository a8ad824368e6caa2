/** The edges that the document names of SLOTS, NODES, PUT, MAP, LIVE, DIRTY, JOURNAL, PARTS and all that is done. */
final class EdgesOfNodes {
    private static final String ONE = "file a plain pages 1; ";
    private static final String FOUR = "file a plain pages 4; ";
    private static final String KINDS = "file a plain pages 4; file b log pages 3; file c twin pages 2; "
        + "file d sync pages 4; ";
    private static final String LARGE = "blocks 6; slots 6; " + KINDS;

    private EdgesOfNodes() {
    }

    // ---- SLOTS and NODES

    /** Term SLOTS: "SLOTS are numbered on through all BLOCKS." */
    static void slotsAreNumberedThroughAllBlocks() {
        FlashNodes x = Edge.with("blocks 3; slots 2; " + ONE);
        for (int i = 0; i < 5; i++) {
            x.commit();
        }
        Edge.is("the last one", x.commit(), 1);
        for (int slot = 0; slot < 6; slot++) {
            Edge.is("slot " + slot, x.slot(slot, 1), slot + 1);
        }
        Edge.is("none behind it", x.slot(6, 1), -2);
        Edge.is("none ahead of the first", x.slot(-1, 1), -2);
        Edge.is("the LIVE one lies in the last BLOCK", x.block(2, 1), 1);
    }

    /** Term NODES: "INDEX (a part of a commit: up to 4 pages, each with the SEQ of its DATA)" */
    static void aPartHasUpToFourPages() {
        FlashNodes x = Edge.with("blocks 6; slots 6; " + FOUR + "file b plain pages 4;");
        int[][] due = {{0}, {1}, {2}, {3}, {4, 0}, {4, 1}, {4, 2}, {4, 3}, {4, 4, 0}};
        for (int pages = 0; pages <= 8; pages++) {
            if (pages > 0) {
                x.write((pages - 1) / 4, (pages - 1) % 4, pages);
            }
            x.mark(0, false);
            Edge.is("parts", x.commit(), due[pages].length);
            int first = pages;
            for (int part = 0; part < due[pages].length; part++) {
                Edge.is("part " + part + " of " + pages, x.slot(first + part, 4), due[pages][part]);
            }
            x.mark(0, true);
        }
        x.commit();
        x.cut(1);
        x.write(0, 0, 99);
        x.mount();
        Edge.is("each with its SEQ", x.count(10), 8);
        Edge.is("the first", x.says(0, 0), 1);
        Edge.is("the last", x.says(1, 3), 8);
    }

    /** Term NODES: "TORN (without a SEQ any more)" */
    static void aTornSlotHasNoSeq() {
        FlashNodes x = Edge.with("blocks 2; slots 2; " + ONE);
        x.cut(1);
        Edge.is("cut", x.write(0, 0, 7), -2);
        Edge.slotIs(x, 0, 4, -1, -1, -1, -1, 0);
        Edge.is("no copy of the page", x.copies(0, 0), 0);
        x.mount();
        Edge.is("the greatest there is", x.count(6), 0);
        Edge.is("the next one", x.write(0, 0, 8), 1);
        Edge.slotIs(x, 1, 1, 1, 0, 0, 8, 1);
    }

    /** Term NODES: "Each other NODE has a SEQ; a new one the next number (from 1)." */
    static void theFirstSeqIsOne() {
        FlashNodes x = Edge.with(LARGE);
        Edge.is("none yet", x.count(6), 0);
        Edge.is("DATA", x.write(0, 0, 1), 1);
        Edge.is("GONE", x.remove(0), 2);
        x.commit();
        Edge.is("INDEX", x.slot(2, 1), 3);
        Edge.is("the next", x.write(0, 0, 1), 4);
        FlashNodes y = Edge.with("blocks 1; slots 1;");
        y.commit();
        Edge.is("INDEX first", y.slot(0, 1), 1);
    }

    // ---- PUT

    /** Term PUT: "a NODE goes into the first ERASED SLOT of the HEAD, a BLOCK" */
    static void aNodeGoesIntoTheFirstErasedSlot() {
        FlashNodes x = Edge.with("blocks 2; slots 3; " + ONE);
        for (int slot = 0; slot < 3; slot++) {
            Edge.is("ERASED", x.slot(slot, 0), 0);
            x.commit();
            Edge.is("filled", x.slot(slot, 0), 3);
            Edge.is("the next one is not", x.slot(slot + 1, 0), 0);
            Edge.is("the HEAD", x.count(13), 0);
        }
    }

    /** Term PUT: "if it has none, or there is no HEAD, a BLOCK all of which is ERASED is the HEAD first" */
    static void aFullHeadGivesWay() {
        FlashNodes x = Edge.with("blocks 3; slots 2; " + ONE);
        Edge.is("no HEAD", x.count(13), -1);
        x.commit();
        Edge.is("there was none", x.count(13), 0);
        x.commit();
        Edge.is("the full one stays till the next PUT", x.count(13), 0);
        x.commit();
        Edge.is("it had none", x.count(13), 1);
        x.commit();
        x.mount();
        Edge.is("no HEAD", x.count(13), -1);
        x.commit();
        Edge.is("there was none", x.count(13), 2);
        Edge.is("its first SLOT", x.slot(4, 1), 5);
        FlashNodes y = Edge.with("blocks 2; slots 3; " + ONE);
        y.commit();
        y.mount();
        y.commit();
        Edge.is("the HEAD of a MOUNT is filled on", y.slot(1, 1), 2);
    }

    /** Term PUT: "the one erased the fewest times; of equal ones the first." */
    static void theHeadIsTheOneErasedTheFewestTimes() {
        FlashNodes x = Edge.with("blocks 4; slots 1; " + ONE);
        x.write(0, 0, 1);
        Edge.is("of equal ones the first", x.count(13), 0);
        x.write(0, 0, 2);
        Edge.is("the next", x.count(13), 1);
        Edge.is("collected", x.collect(), 0);
        x.write(0, 0, 3);
        Edge.is("not the one erased once", x.count(13), 2);
        Edge.is("collected", x.collect(), 1);
        x.write(0, 0, 4);
        Edge.is("the last one never erased", x.count(13), 3);
        x.write(0, 0, 5);
        Edge.is("0 and 1 were erased once", x.count(13), 0);
        x.collect();
        x.write(0, 0, 6);
        Edge.is("1 and 2 were erased once", x.count(13), 1);
    }

    /** Term PUT: "If the power is CUT at it, the SLOT is TORN" */
    static void theSlotOfACutIsTorn() {
        for (int put = 1; put <= 4; put++) {
            FlashNodes x = Edge.with(LARGE);
            x.cut(put);
            for (int i = 1; i < put; i++) {
                x.commit();
                Edge.is("not yet", x.count(11), 1);
            }
            Edge.is("cut", x.commit(), -2);
            Edge.is("TORN", x.slot(put - 1, 0), 4);
            Edge.is("none behind it", x.slot(put, 0), 0);
            Edge.is("the power is off", x.count(11), 0);
            Edge.is("no CUT any more", x.count(12), 0);
        }
    }

    /** Term PUT: "(a new NODE has used up its number then, till a MOUNT)" */
    static void aTornNewNodeHasUsedUpItsNumber() {
        FlashNodes x = Edge.with(LARGE);
        x.write(0, 0, 1);
        x.cut(1);
        x.write(0, 0, 2);
        Edge.is("used up", x.count(6), 2);
        x.mount();
        Edge.is("till a MOUNT", x.count(6), 1);
        Edge.is("used again", x.write(0, 0, 3), 2);
        x.cut(1);
        x.remove(0);
        Edge.is("of GONE", x.count(6), 3);
        x.mount();
        x.cut(1);
        x.commit();
        Edge.is("of INDEX", x.count(6), 3);
        FlashNodes y = Edge.with("blocks 3; slots 2; " + FOUR);
        y.write(0, 0, 1);
        y.write(0, 1, 1);
        y.write(0, 1, 2);
        y.cut(1);
        Edge.is("a COLLECT is cut", y.collect(), -2);
        Edge.is("its NODE is not a new one", y.count(6), 3);
    }

    /** Term PUT: "the rest of what was to be done is not" */
    static void theRestIsNotDone() {
        FlashNodes x = Edge.with(LARGE);
        x.cut(1);
        Edge.is("a twin one", x.write(2, 0, 1), -2);
        Edge.is("has no second NODE", x.count(3), 35);
        x.mount();
        x.cut(1);
        Edge.is("a sync one", x.write(3, 0, 1), -2);
        Edge.is("has no commit", x.count(3), 34);
        x.mount();
        for (int page = 0; page < 4; page++) {
            x.write(0, page, page);
        }
        x.cut(1);
        Edge.is("a commit of two parts", x.commit(), -2);
        Edge.is("has no second one", x.count(3), 29);
        FlashNodes y = Edge.with("blocks 3; slots 3; " + FOUR);
        y.write(0, 0, 1);
        y.write(0, 1, 1);
        y.write(0, 2, 1);
        y.write(0, 2, 2);
        y.cut(1);
        Edge.is("a COLLECT", y.collect(), -2);
        Edge.is("has no second NODE", y.count(3), 4);
        Edge.is("erases nothing", y.block(0, 3) * 10 + y.block(0, 0), 0);
        y.mount();
        y.open(0);
        y.cut(1);
        Edge.is("a REMOVE", y.remove(0), -2);
        y.mount();
        Edge.is("unmaps nothing", y.file(0, 2), 7);
        Edge.is("what comes behind it is done", y.remove(0) > 0, true);
    }

    /** Term PUT: "and the power is off" and "no page is MAPPED then, no FILE is OPEN, none an ORPHAN." */
    static void aCutTakesPagesOpenFilesAndOrphans() {
        FlashNodes x = Edge.with(LARGE);
        x.write(0, 0, 1);
        x.write(1, 0, 1);
        x.open(0);
        x.open(1);
        x.remove(0);
        Edge.is("an ORPHAN", x.file(0, 4), 1);
        Edge.cutOff(x);
        for (int file = 0; file < 4; file++) {
            Edge.is("MAPPED, OPEN, ORPHAN", x.file(file, 2) + x.file(file, 3) + x.file(file, 4), 0);
        }
        Edge.is("MAPPED", x.count(10), 0);
        Edge.is("says", x.says(1, 0), -1);
        Edge.is("power", x.count(11), 0);
    }

    // ---- MAP, LIVE, DIRTY, JOURNAL, PARTS

    /** Term LIVE: "A NODE is LIVE: DATA whose SEQ is in the MAP" */
    static void dataIsLiveWhileItIsMapped() {
        FlashNodes x = Edge.with(LARGE);
        x.write(0, 0, 1);
        x.write(2, 0, 1);
        x.write(0, 0, 2);
        Edge.is("written over", x.slot(0, 5), 0);
        Edge.is("the first of a twin one", x.slot(1, 5), 0);
        Edge.is("the last of a twin one", x.slot(2, 5), 1);
        Edge.is("MAPPED", x.slot(3, 5), 1);
        x.open(0);
        x.remove(0);
        Edge.is("of an ORPHAN", x.slot(3, 5), 1);
        x.close(0);
        Edge.is("not MAPPED", x.slot(3, 5), 0);
        Edge.cutOff(x);
        Edge.is("nothing is MAPPED", x.slot(2, 5), 0);
    }

    /** Term LIVE: "a GONE that is in the JOURNAL; INDEX of the last whole commit" */
    static void goneAndIndexAreLiveTillTheNextCommit() {
        FlashNodes x = Edge.with(LARGE);
        x.write(0, 0, 1);
        x.remove(0);
        Edge.is("GONE in the JOURNAL", x.slot(1, 5), 1);
        x.commit();
        Edge.is("GONE below the BASE", x.slot(1, 5), 0);
        Edge.is("INDEX", x.slot(2, 5), 1);
        for (int page = 0; page < 4; page++) {
            x.write(0, page, 1);
        }
        x.commit();
        Edge.is("of the commit ahead", x.slot(2, 5), 0);
        Edge.is("the first part", x.slot(7, 5), 1);
        Edge.is("the second part", x.slot(8, 5), 1);
        x.cut(2);
        Edge.is("a commit that is not whole", x.commit(), -2);
        Edge.is("its part", x.slot(9, 0) * 10 + x.slot(9, 5), 30);
        Edge.is("the last whole one", x.slot(7, 5) + x.slot(8, 5), 2);
        x.mount();
        Edge.is("the last whole one", x.slot(7, 5) + x.slot(8, 5) + x.slot(9, 5), 2);
    }

    /** Three BLOCKS of three; a COLLECT of BLOCK 1 into BLOCK 0 that is CUT at its second PUT, and a MOUNT. */
    private static FlashNodes cutCollect() {
        FlashNodes x = Edge.with("blocks 3; slots 3; " + FOUR);
        int[] pages = {0, 0, 0, 1, 2, 1};
        for (int i = 0; i < 6; i++) {
            x.write(0, pages[i], i + 1);
        }
        Edge.is("a BLOCK", x.collect(), 0);
        x.write(0, 3, 7);
        x.write(0, 3, 8);
        x.cut(2);
        Edge.is("a COLLECT that is cut", x.collect(), -2);
        x.mount();
        return x;
    }

    /** Term LIVE: "of NODES with one SEQ only the one in the least SLOT." */
    static void ofOneSeqTheLeastSlotIsLive() {
        FlashNodes x = cutCollect();
        Edge.slotIs(x, 0, 1, 5, 0, 2, 5, 1);
        Edge.slotIs(x, 4, 1, 5, 0, 2, 5, 0);
        Edge.slotIs(x, 5, 1, 6, 0, 1, 6, 1);
        Edge.slotIs(x, 1, 4, -1, -1, -1, -1, 0);
        Edge.is("LIVE", x.count(4), 4);
        FlashNodes y = Edge.with("blocks 3; slots 3; " + FOUR);
        y.write(0, 0, 1);
        y.write(0, 1, 1);
        y.write(0, 1, 2);
        y.commit();
        y.cut(2);
        Edge.is("a COLLECT that is cut", y.collect(), -2);
        y.mount();
        Edge.is("the copy lies higher", y.slot(0, 5) * 10 + y.slot(4, 5), 10);
    }

    /** Term LIVE: "All others that are not ERASED are DIRTY." */
    static void allOthersAreDirty() {
        FlashNodes x = Edge.with("blocks 2; slots 3; " + ONE);
        Edge.is("all ERASED", x.count(5), 0);
        x.commit();
        Edge.is("INDEX", x.count(5), 0);
        x.write(0, 0, 1);
        x.write(0, 0, 2);
        Edge.is("DATA", x.count(5), 1);
        Edge.is("of the BLOCK", x.block(0, 2), 1);
        Edge.cutOff(x);
        Edge.is("TORN, and all DATA", x.count(5), 3);
        x.mount();
        Edge.is("TORN", x.count(5), 2);
        Edge.is("of the BLOCK", x.block(1, 2), 1);
    }

    /** Term JOURNAL: "JOURNAL: DATA and GONE with a SEQ above the BASE, the greatest SEQ of the last whole commit (0: there is none)" */
    static void theJournalIsAboveTheBase() {
        FlashNodes x = Edge.with(LARGE);
        Edge.is("no commit", x.count(7) * 10 + x.count(8), 0);
        x.write(0, 0, 1);
        Edge.is("above 0", x.count(7) * 10 + x.count(8), 1);
        for (int page = 1; page < 4; page++) {
            x.write(0, page, 1);
        }
        Edge.is("two parts", x.commit(), 2);
        Edge.is("the greatest SEQ", x.count(7), 6);
        Edge.is("none is above it", x.count(8), 0);
        x.write(0, 0, 1);
        x.remove(0);
        Edge.is("DATA and GONE", x.count(8), 2);
        x.cut(1);
        x.commit();
        Edge.is("not a broken one", x.count(7), 6);
        Edge.is("with power off", x.count(8), 2);
        x.mount();
        x.commit();
        Edge.is("one part", x.count(7), 9);
        Edge.is("none is above it", x.count(8), 0);
    }

    /** Term JOURNAL: "as long as these have SEQS, each once." */
    static void theJournalHasEachSeqOnce() {
        FlashNodes x = cutCollect();
        Edge.is("SEQS 3 to 8, 5 twice", x.count(8), 6);
        Edge.is("a MOUNT", x.mount(), 6);
        Edge.is("NODES of them", x.copies(0, 0) + x.copies(0, 1) + x.copies(0, 2) + x.copies(0, 3), 7);
    }

    /** Term PARTS: "PARTS: how many parts a commit now has: MAPPED pages but those of ORPHANS, divided by 4, cut, and 1." */
    static void partsAreAQuarterCutAndOne() {
        StringBuilder five = new StringBuilder("blocks 6; slots 6; ");
        for (char c = 'a'; c <= 'e'; c++) {
            five.append("file ").append(c).append(" plain pages 4; ");
        }
        FlashNodes x = Edge.with(five.toString());
        Edge.is("none", x.count(9), 1);
        for (int i = 0; i < 20; i++) {
            x.write(i / 4, i % 4, i);
            Edge.is("pages " + (i + 1), x.count(9), (i + 1) / 4 + 1);
        }
        Edge.is("the most", x.count(9), 6);
        x.open(4);
        x.remove(4);
        Edge.is("of an ORPHAN none", x.count(10) * 10 + x.count(9), 205);
        Edge.is("a commit", x.commit(), 5);
        Edge.cutOff(x);
        Edge.is("with power off", x.count(9), 1);
    }

    // ---- what can be, and what comes ahead

    /** Term NODES: "What follows can be with power on alone." */
    static void withPowerOffNothingCanBe() {
        FlashNodes x = Edge.with("blocks 4; slots 2; " + KINDS + "collects 1;");
        x.write(0, 0, 1);
        x.write(0, 0, 2);
        x.write(0, 0, 3);
        Edge.cutOff(x);
        int erased = x.count(3);
        for (int file = 0; file < 4; file++) {
            Edge.is("write", x.write(file, 0, 1), -1);
            Edge.is("remove", x.remove(file), -1);
            Edge.is("open", x.open(file), false);
            Edge.is("close", x.close(file), false);
        }
        Edge.is("commit", x.commit(), -1);
        Edge.is("collect", x.collect(), -1);
        Edge.is("cut", x.cut(1), false);
        Edge.is("nothing is done", x.count(3), erased);
        x.mount();
        Edge.is("with power on", x.write(0, 0, 1) > 0, true);
    }

    /** Term COLLECT: "If E of collects is not 0, as all is ahead of a WRITE or REMOVE that can be but for the room, a COLLECT comes first, if it can be" */
    static void aLawThatIsNotZeroCollects() {
        for (String law : new String[] {"1", "0 - 1", "9999", "dirty = 2", "journal = 3", "erased = 3", "live = 1"}) {
            FlashNodes x = Edge.with("blocks 3; slots 2; " + ONE + "collects " + law + ";");
            for (int i = 0; i < 3; i++) {
                x.write(0, 0, i);
            }
            x.mark(0, false);
            Edge.is("a WRITE", x.write(0, 0, 9), 4);
            Edge.is(law, x.block(0, 3), 1);
            x.mark(0, true);
            Edge.is("a REMOVE", x.remove(0), 4);
            Edge.is(law, x.block(0, 3), 1);
        }
        for (String law : new String[] {"0", "dirty = 3", "journal = 4", "erased = 2"}) {
            FlashNodes x = Edge.with("blocks 3; slots 2; " + ONE + "collects " + law + ";");
            for (int i = 0; i < 3; i++) {
                x.write(0, 0, i);
            }
            Edge.is("a REMOVE, as all is ahead of it", x.remove(0), 4);
            Edge.is(law, x.block(0, 3), 0);
        }
        FlashNodes x = Edge.with("blocks 3; slots 2; " + ONE + "collects 1;");
        Edge.is("none can be", x.write(0, 0, 1), 1);
        Edge.is("none can be", x.count(3), 5);
        Edge.is("none can be", x.remove(0), 2);
    }

    /** Term COLLECT: "a WRITE or REMOVE that can be but for the room" */
    static void whatCantBeCollectsNothing() {
        FlashNodes x = Edge.with("blocks 6; slots 2; file a plain pages 1; file b log pages 2; file c plain pages 1; "
            + "collects erased < 8;");
        x.write(1, 0, 1);
        x.write(0, 0, 1);
        x.write(0, 0, 2);
        x.open(0);
        x.remove(0);
        x.commit();
        x.commit();
        Edge.is("the law is so", x.count(3), 6);
        Edge.is("there is what to collect", x.pick(), 0);
        Edge.is("an ORPHAN", x.write(0, 0, 1), -1);
        Edge.is("an ORPHAN", x.remove(0), -1);
        Edge.is("no page", x.write(2, 1, 1), -1);
        Edge.is("no page", x.write(2, -1, 1), -1);
        Edge.is("no FILE", x.write(3, 0, 1), -1);
        Edge.is("no FILE", x.remove(3), -1);
        Edge.is("no FILE", x.remove(-1), -1);
        Edge.is("no value", x.write(2, 0, 256), -1);
        Edge.is("no value", x.write(2, 0, -1), -1);
        Edge.is("not the first of a log one", x.write(1, 0, 1), -1);
        Edge.is("nothing is MAPPED", x.remove(2), -1);
        Edge.is("OPEN", x.open(2), true);
        Edge.is("CLOSE", x.close(2), true);
        Edge.is("COMMIT", x.commit(), 1);
        for (int block = 0; block < 6; block++) {
            Edge.is("not collected", x.block(block, 3), 0);
        }
        Edge.is("this one can be", x.write(2, 0, 1) > 0, true);
        Edge.is("collected", x.wear(), 1);
    }

    /** Term COLLECT: "(it is done, whether there is room then or not" */
    static void aCollectIsDoneWithoutRoomToo() {
        FlashNodes x = Edge.with("blocks 2; slots 3; reserve 3; " + ONE + "collects dirty;");
        x.write(0, 0, 1);
        x.write(0, 0, 2);
        x.commit();
        x.commit();
        x.mark(0, false);
        Edge.is("2 ERASED, room is 5", x.write(0, 0, 3), -1);
        Edge.is("it is done", x.block(0, 3), 1);
        x.mark(0, true);
        Edge.is("of a REMOVE", x.remove(0), -1);
        Edge.is("it is done", x.block(0, 3), 1);
        FlashNodes y = Edge.with("blocks 2; slots 3; reserve 1; " + ONE + "collects dirty;");
        y.write(0, 0, 1);
        y.write(0, 0, 2);
        y.commit();
        y.commit();
        Edge.is("2 ERASED, room is 3", y.count(3), 2);
        Edge.is("there is room then", y.write(0, 0, 3), 5);
    }

    /** Term COLLECT: "if the power is CUT in it, it is in that WRITE or REMOVE)." */
    static void aCutInACollectIsInThatWrite() {
        for (int put = 1; put <= 2; put++) {
            FlashNodes x = Edge.with("blocks 3; slots 3; " + FOUR + "collects journal = 4;");
            x.write(0, 0, 1);
            x.write(0, 1, 1);
            x.write(0, 1, 2);
            x.write(0, 2, 2);
            x.mark(0, false);
            x.cut(put);
            Edge.is("a WRITE", x.write(0, 3, 4), -2);
            Edge.is("in its COLLECT", x.count(6), 4);
            Edge.is("in its COLLECT", x.slot(3 + put, 0), 4);
            Edge.is("not erased", x.block(0, 3), 0);
            x.mark(0, true);
            x.cut(put);
            Edge.is("a REMOVE", x.remove(0), -2);
            Edge.is("in its COLLECT", x.count(6), 4);
            Edge.is("power", x.count(11), 0);
        }
        FlashNodes x = Edge.with("blocks 3; slots 3; reserve 8; " + ONE + "collects 1;");
        x.commit();
        x.commit();
        x.commit();
        x.commit();
        x.cut(1);
        Edge.is("no room, no PUT", x.write(0, 0, 1), -1);
        Edge.is("the COLLECT PUT nothing", x.count(11) * 10 + x.block(0, 3), 11);
    }

    // ---- WRITE, REMOVE, OPEN, CLOSE

    /** Term WRITE: "WRITE a page of a FILE, not an ORPHAN: of a log one just the first page that is not MAPPED." */
    static void aLogTakesTheFirstPageThatIsNotMapped() {
        FlashNodes x = Edge.with(LARGE);
        Edge.is("not the second", x.write(1, 1, 1), -1);
        Edge.is("not the third", x.write(1, 2, 1), -1);
        Edge.is("the first", x.write(1, 0, 1), 1);
        Edge.is("not again", x.write(1, 0, 1), -1);
        Edge.is("not the third", x.write(1, 2, 1), -1);
        Edge.is("the second", x.write(1, 1, 1), 2);
        Edge.is("the third", x.write(1, 2, 1), 3);
        for (int page = -1; page < 5; page++) {
            Edge.is("full", x.write(1, page, 1), -1);
        }
        x.remove(1);
        Edge.is("not the second", x.write(1, 1, 1), -1);
        Edge.is("the first again", x.write(1, 0, 1), 5);
        FlashNodes y = Edge.with("blocks 6; slots 6; file a log pages 4;");
        for (int page = 0; page < 4; page++) {
            Edge.is("one of four", y.write(0, page, 1), page + 1);
        }
        Edge.is("full", y.write(0, 4, 1), -1);
    }

    /** Term WRITE: "not an ORPHAN" */
    static void anOrphanIsNotWritten() {
        FlashNodes x = Edge.with(LARGE);
        for (int file = 0; file < 4; file++) {
            x.write(file, 0, 1);
            x.open(file);
            Edge.is("OPEN, no ORPHAN", x.write(file, file == 1 ? 1 : 0, 2) > 0, true);
            x.remove(file);
            for (int page = 0; page < 3; page++) {
                Edge.is("an ORPHAN", x.write(file, page, 1), -1);
            }
            x.close(file);
            Edge.is("no ORPHAN any more", x.write(file, 0, 1) > 0, true);
        }
    }

    /**
     * Term WRITE: "A NODE of DATA is PUT (of a twin one two, one behind the other, each with a SEQ of its own), the page
     * is MAPPED to it (to the last one); of a sync one a COMMIT comes then."
     */
    static void aTwinPutsTwoASyncCommits() {
        FlashNodes x = Edge.with(LARGE);
        Edge.is("plain", x.write(0, 0, 1), 1);
        Edge.is("plain", x.count(3), 35);
        Edge.is("log", x.write(1, 0, 1), 2);
        Edge.is("log", x.count(3), 34);
        Edge.is("twin", x.write(2, 1, 9), 4);
        Edge.slotIs(x, 2, 1, 3, 2, 1, 9, 0);
        Edge.slotIs(x, 3, 1, 4, 2, 1, 9, 1);
        Edge.is("twin", x.count(3), 32);
        Edge.is("no commit", x.count(7), 0);
        Edge.is("sync", x.write(3, 0, 5), 5);
        Edge.is("its commit", x.count(7), 7);
        Edge.is("of the pages with this one", x.slot(5, 4) * 10 + x.slot(6, 4), 40);
        Edge.is("sync", x.count(3), 29);
    }

    /** Term REMOVE: "REMOVE a FILE of which any page is MAPPED, not an ORPHAN: GONE is PUT" */
    static void nothingMappedIsNotRemoved() {
        FlashNodes x = Edge.with(LARGE);
        for (int file = 0; file < 4; file++) {
            Edge.is("nothing MAPPED", x.remove(file), -1);
        }
        x.write(0, 3, 1);
        Edge.is("the last page alone", x.remove(0), 2);
        Edge.is("nothing MAPPED any more", x.remove(0), -1);
        x.write(0, 0, 1);
        x.open(0);
        Edge.is("OPEN", x.remove(0), 4);
        Edge.is("an ORPHAN", x.remove(0), -1);
        Edge.is("no NODE more", x.count(6), 4);
    }

    /**
     * Term REMOVE: "no page of it is MAPPED then, or, if it is OPEN, it is an ORPHAN: its pages stay MAPPED until CLOSE."
     */
    static void anOpenFileStaysMappedUntilClose() {
        FlashNodes x = Edge.with(LARGE);
        x.write(0, 0, 1);
        x.write(0, 2, 2);
        x.mark(0, false);
        x.remove(0);
        Edge.is("not OPEN", x.file(0, 2) + x.file(0, 4), 0);
        x.mark(0, true);
        x.open(0);
        x.remove(0);
        Edge.is("OPEN", x.file(0, 2) * 10 + x.file(0, 4), 51);
        Edge.is("stays", x.says(0, 0) * 10 + x.says(0, 2), 12);
        x.commit();
        Edge.is("stays behind a COMMIT", x.file(0, 2), 5);
        x.close(0);
        Edge.is("until CLOSE", x.file(0, 2) + x.file(0, 4) + x.file(0, 3), 0);
        x.write(0, 0, 1);
        x.open(0);
        x.close(0);
        Edge.is("no ORPHAN stays MAPPED", x.file(0, 2), 1);
    }

    private static int roomLeft(String file, int slots, int reserve) {
        FlashNodes x = Edge.with("blocks 1; slots " + slots + "; reserve " + reserve + "; " + file);
        Edge.is("may be as it can be", x.may(0, 0), x.write(0, 0, 1) > 0);
        return x.count(6) > 0 ? 1 : 0;
    }

    /** Term WRITE: "Room: as many SLOTS have to be ERASED as it PUTS (of a sync WRITE the PARTS, too), and the PARTS, and the reserve" */
    static void roomIsWhatItPutsThePartsAndTheReserve() {
        String[] kinds = {"plain", "log", "twin", "sync"};
        int[] need = {2, 2, 3, 3};
        for (int kind = 0; kind < 4; kind++) {
            for (int reserve = 0; reserve < 4; reserve++) {
                String file = "file a " + kinds[kind] + " pages 1;";
                for (int slots = 1; slots <= 6; slots++) {
                    Edge.is(kinds[kind] + " in " + slots + " with " + reserve, roomLeft(file, slots, reserve),
                        slots >= need[kind] + reserve ? 1 : 0);
                }
            }
        }
        for (int reserve = 0; reserve < 3; reserve++) {
            FlashNodes x = Edge.with("blocks 1; slots 5; reserve " + reserve + "; file a plain pages 2;");
            x.write(0, 0, 1);
            x.commit();
            x.commit();
            Edge.is("a REMOVE with 2 ERASED", x.remove(0), reserve == 0 ? 4 : -1);
        }
    }

    /** Term WRITE: "PARTS as they are behind it (the page MAPPED; of what is REMOVED none)." */
    static void roomHasThePartsAsTheyAreBehindIt() {
        for (int commits = 0; commits < 2; commits++) {
            FlashNodes x = Edge.with("blocks 1; slots 6; " + FOUR + "file b sync pages 1;");
            for (int page = 0; page < 3 - commits; page++) {
                x.write(0, page, 1);
            }
            for (int i = 0; i < 2 * commits; i++) {
                x.commit();
            }
            // 3 ERASED with 3 pages: a fourth one takes 1 and 2 parts; 2 ERASED with 2 pages: a third one 1 and 1.
            Edge.is("one page more", x.may(0, 3), true);
            Edge.is("one page more and its commit", x.may(1, 0), false);
            Edge.is("a page that is there", x.may(0, 0), true);
        }
        FlashNodes x = Edge.with("blocks 1; slots 6; reserve 1; " + FOUR);
        for (int page = 0; page < 3; page++) {
            x.write(0, page, 1);
        }
        Edge.is("the fourth page makes two parts", x.write(0, 3, 1), -1);
        Edge.is("a page that is there makes none", x.write(0, 0, 1), 4);
        FlashNodes y = Edge.with("blocks 1; slots 6; " + FOUR);
        for (int page = 0; page < 4; page++) {
            y.write(0, page, 1);
        }
        Edge.is("two parts now", y.count(9) * 10 + y.count(3), 22);
        Edge.is("no room for one of them again", y.may(0, 0), false);
        Edge.is("REMOVED there is one", y.remove(0), 5);
        FlashNodes z = Edge.with("blocks 2; slots 4; file a sync pages 4; file b plain pages 3;");
        for (int page = 0; page < 3; page++) {
            z.write(1, page, 1);
        }
        Edge.is("of a sync one its 2 parts twice", z.count(3), 5);
        Edge.is("of a sync one its 2 parts twice", z.write(0, 0, 1), 4);
        Edge.is("left", z.count(3), 2);
    }

    /** Term OPEN: "OPEN, CLOSE a FILE that is not OPEN, is OPEN." */
    static void openWhatIsNotCloseWhatIs() {
        FlashNodes x = Edge.with(LARGE);
        for (int file = 0; file < 4; file++) {
            Edge.is("not OPEN", x.close(file), false);
            Edge.is("not OPEN", x.open(file), true);
            Edge.is("OPEN", x.open(file), false);
            Edge.is("OPEN", x.file(file, 3), 1);
        }
        x.write(0, 0, 1);
        x.remove(0);
        Edge.is("an ORPHAN is OPEN", x.open(0), false);
        Edge.is("an ORPHAN is OPEN", x.close(0), true);
        Edge.is("not OPEN", x.close(0), false);
        Edge.is("none is full", Edge.with("file a log pages 1;").open(0), true);
    }

    // ---- COMMIT

    /** Term COMMIT: "4 to a part (the last one has what is left, none, too), if as many SLOTS are ERASED." */
    static void aCommitFillsTheLastSlots() {
        FlashNodes x = Edge.with("blocks 1; slots 6; reserve 2; file a plain pages 3;");
        Edge.is("no page", x.commit(), 1);
        Edge.is("none is left", x.slot(0, 4), 0);
        Edge.is("the reserve is not asked for", x.commit() + x.commit() + x.commit() + x.commit() + x.commit(), 5);
        Edge.is("full", x.count(3), 0);
        Edge.is("full", x.commit(), -1);
        FlashNodes y = Edge.with("blocks 2; slots 4; " + FOUR);
        for (int page = 0; page < 4; page++) {
            y.write(0, page, 1);
        }
        Edge.is("two parts", y.commit(), 2);
        Edge.is("two SLOTS", y.count(3), 2);
        y.mark(0, false);
        Edge.is("two parts in two SLOTS", y.commit(), 2);
        y.mark(0, true);
        Edge.is("one of them is filled", y.cut(1) ? y.commit() : 0, -2);
        y.mount();
        Edge.is("two parts in one SLOT", y.count(3) * 10 + y.count(9), 12);
        Edge.is("two parts in one SLOT", y.commit(), -1);
        Edge.is("no SLOT", new FlashNodes().commit(), -1);
    }

    /** Term COMMIT: "MAPPED pages but those of ORPHANS, by FILES and pages" */
    static void aCommitHasNoPagesOfOrphans() {
        FlashNodes x = Edge.with(LARGE);
        x.write(3, 0, 4);
        x.write(0, 3, 3);
        x.write(0, 1, 2);
        x.write(1, 0, 1);
        x.write(1, 1, 1);
        x.open(1);
        x.remove(1);
        Edge.is("MAPPED", x.count(10), 5);
        Edge.is("one part", x.commit(), 1);
        Edge.is("of three pages", x.slot(x.count(6) - 1, 4), 3);
        Edge.is("agrees", x.agrees(), true);
        x.mount();
        Edge.is("just these", x.file(0, 2) * 100 + x.file(1, 2) * 10 + x.file(3, 2), 1001);
        Edge.is("by pages", x.says(0, 1) * 100 + x.says(0, 3) * 10 + x.says(3, 0), 234);
    }

    /** Term COMMIT: "Its parts have SEQS one behind another; it is whole if all of them are there." */
    static void aBrokenCommitIsNone() {
        FlashNodes x = Edge.with(LARGE);
        for (int page = 0; page < 4; page++) {
            x.write(0, page, page);
        }
        x.mark(0, false);
        Edge.is("whole", x.commit(), 2);
        Edge.is("one behind another", x.slot(4, 1) * 10 + x.slot(5, 1), 56);
        Edge.is("the BASE", x.count(7), 6);
        for (int put = 1; put <= 2; put++) {
            x.mark(0, true);
            x.cut(put);
            Edge.is("broken", x.commit(), -2);
            Edge.is("no BASE", x.count(7), 0);
            Edge.is("all in the JOURNAL", x.mount(), 4);
            Edge.is("no BASE", x.count(7), 0);
            Edge.is("all is there", x.file(0, 2), 15);
            Edge.is("what is broken is DIRTY", x.slot(4, 5), 0);
            Edge.is("the next one is whole", x.commit(), 2);
            Edge.is("its BASE", x.count(7), 5 + put);
            Edge.is("what was broken is DIRTY", x.slot(4, 5), 0);
        }
    }

    // ---- COLLECT

    /** Term COLLECT: "COLLECT: of the BLOCKS, but the HEAD, the one with the most DIRTY SLOTS, one at least" */
    static void theHeadAndWhatHasNoneDirtyAreNotCollected() {
        FlashNodes x = Edge.with("blocks 3; slots 3; " + FOUR);
        Edge.is("nothing", x.collect(), -1);
        x.write(0, 0, 1);
        x.write(0, 0, 2);
        x.write(0, 0, 3);
        Edge.is("the HEAD", x.block(0, 4) * 10 + x.block(0, 2), 12);
        Edge.is("the HEAD", x.collect(), -1);
        x.write(0, 1, 4);
        Edge.is("not the HEAD any more", x.collect(), 0);
        x.write(0, 2, 5);
        Edge.is("the next BLOCK", x.write(0, 3, 5), 6);
        Edge.is("none is DIRTY", x.block(1, 2), 0);
        Edge.is("none is DIRTY", x.collect(), -1);
        x.write(0, 1, 6);
        Edge.is("one at least", x.block(1, 2), 1);
        Edge.is("one at least", x.collect(), 1);
        FlashNodes y = Edge.with("blocks 4; slots 2; " + FOUR);
        int[] pages = {0, 1, 0, 0, 0};
        for (int page : pages) {
            y.write(0, page, 1);
        }
        Edge.is("the most", y.block(0, 2) * 10 + y.block(1, 2), 12);
        Edge.is("the most", y.collect(), 1);
        Edge.is("the next", y.collect(), 0);
    }

    /** Term COLLECT: "of equal ones the one erased the fewest times, then the first" */
    static void ofEqualOnesTheOneErasedTheFewestTimes() {
        FlashNodes x = Edge.with("blocks 6; slots 1; " + ONE);
        for (int i = 0; i < 3; i++) {
            x.write(0, 0, i);
        }
        Edge.is("of 0 and 1 the first", x.collect(), 0);
        Edge.is("then the next", x.collect(), 1);
        for (int i = 0; i < 4; i++) {
            x.write(0, 0, i);
        }
        Edge.is("the HEAD", x.count(13), 0);
        Edge.is("of 2 to 5 the first", x.collect(), 2);
        Edge.is("of 3 to 5 the first", x.collect(), 3);
        x.write(0, 0, 9);
        Edge.is("0, 4 and 5 are equal", x.block(0, 2) + x.block(4, 2) + x.block(5, 2), 3);
        Edge.is("0 was erased once", x.block(0, 3) * 100 + x.block(4, 3) * 10 + x.block(5, 3), 100);
        Edge.is("not the first, but the one erased the fewest times", x.collect(), 4);
        Edge.is("nor now", x.collect(), 5);
        Edge.is("at last", x.collect(), 0);
    }

    /**
     * Term COLLECT: "its LIVE NODES are PUT by their SLOTS, with the SEQ that they have, if as many SLOTS are ERASED
     * outside of it; then all of it is ERASED."
     */
    static void aCollectNeedsAsManySlotsAsAreLive() {
        FlashNodes x = Edge.with("blocks 2; slots 3; " + FOUR);
        x.write(0, 0, 1);
        x.write(0, 1, 1);
        x.write(0, 1, 2);
        x.write(0, 2, 3);
        Edge.is("2 LIVE, 2 ERASED", x.block(0, 1) * 10 + x.count(3), 22);
        x.mark(0, false);
        Edge.is("it can be", x.collect(), 0);
        Edge.is("by their SLOTS, with their SEQS", x.slot(4, 1) * 10 + x.slot(5, 1), 13);
        Edge.is("all of it is ERASED", x.block(0, 0), 3);
        Edge.is("erased once", x.block(0, 3), 1);
        Edge.is("no number is used up", x.count(6), 4);
        x.mark(0, true);
        x.commit();
        Edge.is("2 LIVE, 1 ERASED", x.block(0, 1) * 10 + x.count(3), 21);
        Edge.is("it can't be", x.collect(), -1);
        FlashNodes y = Edge.with("blocks 2; slots 2; " + ONE);
        for (int i = 0; i < 3; i++) {
            y.write(0, 0, i);
        }
        y.commit();
        Edge.is("none LIVE, none ERASED", y.block(0, 1) * 10 + y.count(3), 0);
        Edge.is("it can be", y.collect(), 0);
        Edge.is("none is PUT", y.count(3), 2);
    }

    // ---- CUT, MOUNT

    /** Term CUT: "CUT at the n-th PUT from now on (1 to 20; in place of another CUT)" */
    static void aCutIsOneToTwenty() {
        FlashNodes x = Edge.with(LARGE);
        for (int n : new int[] {Integer.MIN_VALUE, -1, 0, 21, 22, Integer.MAX_VALUE}) {
            Edge.is("cut " + n, x.cut(n), false);
            Edge.is("no CUT", x.count(12), 0);
        }
        Edge.is("most", x.cut(20), true);
        Edge.is("others stay away", x.cut(21), false);
        Edge.is("others leave it", x.count(12), 20);
        for (int i = 1; i < 20; i++) {
            Edge.is("not yet", x.commit(), 1);
            Edge.is("PUTS until CUT", x.count(12), 20 - i);
        }
        Edge.is("the 20th", x.commit(), -2);
        FlashNodes y = Edge.with(LARGE);
        y.cut(1);
        Edge.is("in place of another", y.cut(2), true);
        Edge.is("not yet", y.commit(), 1);
        Edge.is("in place of another", y.cut(1), true);
        Edge.is("least", y.commit(), -2);
    }

    /** Term CUT: "each NODE counts, those of a COLLECT, of a COMMIT, both of a twin one." */
    static void eachNodeCounts() {
        FlashNodes x = Edge.with("blocks 4; slots 3; file a plain pages 4; file b twin pages 1;");
        x.cut(20);
        x.write(1, 0, 1);
        Edge.is("both of a twin one", x.count(12), 18);
        x.write(0, 0, 1);
        x.write(0, 1, 1);
        x.write(0, 2, 1);
        x.commit();
        Edge.is("of a COMMIT of two parts", x.count(12), 13);
        x.collect();
        Edge.is("two LIVE ones of a COLLECT", x.count(12), 11);
        x.open(0);
        x.close(0);
        x.pick();
        x.rounds(10);
        x.judged(0);
        Edge.is("nothing is PUT", x.count(12), 11);
        x.remove(0);
        Edge.is("GONE", x.count(12), 10);
    }

    /** Term MOUNT: "MOUNT (with power on, too; no CUT then): power is on; no FILE is OPEN, none an ORPHAN" */
    static void aMountWithPowerOnToo() {
        FlashNodes x = Edge.with(LARGE);
        x.write(0, 0, 1);
        x.write(1, 0, 2);
        x.open(0);
        x.open(1);
        x.remove(0);
        x.cut(3);
        Edge.is("the JOURNAL", x.mount(), 3);
        Edge.is("no CUT", x.count(12), 0);
        Edge.is("power", x.count(11), 1);
        Edge.is("none OPEN", x.file(0, 3) + x.file(1, 3), 0);
        Edge.is("no ORPHAN", x.file(0, 4) * 10 + x.file(0, 2), 0);
        Edge.is("what is MAPPED", x.says(1, 0), 2);
        Edge.cutOff(x);
        Edge.is("with power off", x.mount(), 3);
        Edge.is("power", x.count(11), 1);
        Edge.is("what is MAPPED", x.says(1, 0), 2);
        Edge.is("nothing at all", new FlashNodes().mount(), 0);
    }

    /**
     * Term MOUNT: "of the last commit (by their SEQ) that is whole the pages whose DATA is there are MAPPED, then the
     * NODES of the JOURNAL by their SEQ: DATA maps its page, GONE unmaps all pages of its FILE"
     */
    static void aMountGoesByTheSeqs() {
        FlashNodes x = Edge.with(LARGE);
        x.write(0, 0, 1);
        x.write(0, 1, 2);
        x.write(1, 0, 3);
        x.commit();
        x.mount();
        Edge.is("the commit alone", x.says(0, 0) * 100 + x.says(0, 1) * 10 + x.says(1, 0), 123);
        x.write(0, 0, 4);
        x.remove(0);
        x.write(0, 2, 5);
        x.write(0, 2, 6);
        x.mount();
        Edge.is("DATA, GONE, DATA, DATA", x.file(0, 2), 4);
        Edge.is("the other FILE", x.says(1, 0), 3);
        Edge.is("the last behind GONE", x.says(0, 2), 6);
        FlashNodes y = Edge.with("blocks 3; slots 3; " + FOUR);
        y.write(0, 0, 1);
        y.commit();
        y.write(0, 0, 2);
        y.write(0, 0, 3);
        Edge.is("the DATA of the commit is erased", y.collect(), 0);
        y.mount();
        Edge.is("the last of the JOURNAL", y.says(0, 0), 3);
        y.remove(0);
        y.mount();
        Edge.is("nothing", y.count(10), 0);
        FlashNodes z = Edge.with("blocks 4; slots 2; " + FOUR);
        z.write(0, 0, 1);
        z.write(0, 0, 2);
        z.remove(0);
        z.write(0, 0, 3);
        z.write(0, 0, 4);
        z.write(0, 1, 5);
        z.commit();
        z.commit();
        z.mount();
        Edge.is("of two commits the last", z.says(0, 0) * 10 + z.says(0, 1), 45);
    }

    /** Term MOUNT: "the next SEQ is behind the greatest there is" */
    static void theNextSeqIsBehindTheGreatest() {
        FlashNodes x = Edge.with(LARGE);
        x.mount();
        Edge.is("there is none", x.write(0, 0, 1), 1);
        x.write(0, 0, 2);
        x.commit();
        x.mount();
        Edge.is("INDEX", x.count(6), 3);
        x.cut(2);
        x.write(2, 0, 1);
        Edge.is("torn", x.count(6), 5);
        x.mount();
        Edge.is("behind the first of the two", x.count(6), 4);
        Edge.is("behind the first of the two", x.write(0, 0, 3), 5);
        FlashNodes y = Edge.with("blocks 4; slots 1; " + ONE);
        y.write(0, 0, 1);
        y.write(0, 0, 2);
        y.cut(1);
        y.write(0, 0, 3);
        y.mount();
        Edge.is("LIVE", y.count(6), 2);
        FlashNodes z = Edge.with("blocks 3; slots 1;");
        z.cut(1);
        z.commit();
        z.mount();
        Edge.is("TORN alone", z.count(6), 0);
    }

    /** Term MOUNT: "the HEAD is the BLOCK of which some SLOTS are ERASED and some are not, if there is one, else there is none." */
    static void theHeadOfAMountIsTheOneBegun() {
        FlashNodes x = Edge.with("blocks 3; slots 3; " + ONE);
        x.mount();
        Edge.is("all ERASED", x.count(13), -1);
        for (int i = 1; i <= 9; i++) {
            x.commit();
            x.mark(0, false);
            x.mount();
            Edge.is("filled " + i, x.count(13), i % 3 == 0 ? -1 : i / 3);
            x.mark(0, true);
            Edge.is("without a MOUNT", x.count(13), (i - 1) / 3);
        }
        FlashNodes y = Edge.with("blocks 2; slots 1; " + ONE);
        y.cut(1);
        y.commit();
        Edge.is("with power off", y.count(13), 0);
        y.mount();
        Edge.is("full with one", y.count(13), -1);
        Edge.is("none is the HEAD: it can be collected", y.collect(), 0);
    }

    // ---- JUDGED

    /**
     * Term JUDGED: "JUDGED: the WORK from the STORE as told: the first line (from 0) that can't be (those are left out);
     * how many NODES are PUT; how many SLOTS are ERASED at last; how often it COLLECTED."
     */
    static void judgedFromTheStoreAsTold() {
        FlashNodes x = Edge.with("blocks 2; slots 3; file a plain pages 2;",
            "close a; write a 0 1; write a 0 2; write a 0 3; write a 1 4; collect; collect; open a;");
        Edge.is("the first line", x.judged(0), 0);
        Edge.is("PUTS", x.judged(1), 5);
        Edge.is("ERASED", x.judged(2), 4);
        Edge.is("COLLECTED", x.judged(3), 1);
        x.commit();
        x.cut(1);
        x.commit();
        Edge.is("as told, whatever stands now", x.judged(1) * 10 + x.judged(2), 54);
        Edge.is("its own power is on", x.judged(0) * 10 + x.judged(3), 1);
        Edge.work(x, "open a; close a; close a;");
        Edge.is("the last line", x.judged(0), 2);
        Edge.is("no PUT", x.judged(1), 0);
        Edge.is("all ERASED", x.judged(2), 6);
        Edge.work(x, "open a; close a;");
        Edge.is("no such line", x.judged(0), -1);
        Edge.is("no WORK", new FlashNodes().judged(0), -1);
        Edge.is("no WORK", new FlashNodes().judged(2), 0);
        FlashNodes y = Edge.with("blocks 3; slots 3; reserve 3; file a plain pages 2; collects dirty;",
            "write a 0 1; write a 0 2; write a 1 2; write a 1 3; write a 1 4; write a 1 5; write a 1 6; write a 1 7;");
        y.cut(1);
        Edge.is("COLLECTS of a law count", y.judged(3) > 1, true);
    }
}
