import java.util.NoSuchElementException;
import java.util.function.Supplier;

/** Each promise of the document by hand: ordinary inputs, the edges that it names, wrong inputs. */
public final class FlashNodesPromises {
    private static final String SMALL = "blocks 3; slots 4; file a plain pages 2; file b log pages 3; ";
    private static final String KINDS = "blocks 6; slots 6; file a plain pages 2; file b log pages 3; "
        + "file c twin pages 1; file d sync pages 4; ";

    private static int passed = 0;
    private static int failed = 0;

    private static void is(int promise, String what, long got, long want) {
        if (got == want) {
            passed++;
        } else {
            failed++;
            System.out.println("promise " + promise + ": " + what + " is " + got + ", due is " + want);
        }
    }

    private static void is(int promise, String what, boolean got, boolean want) {
        is(promise, what, got ? 1 : 0, want ? 1 : 0);
    }

    private static void feed(FlashNodes x, String text) {
        for (int i = 0; i < text.length(); i += 24) {
            long[] v = new long[3];
            for (int j = 0; j < 24; j++) {
                v[j / 8] = v[j / 8] << 8 | (i + j < text.length() ? text.charAt(i + j) : 0);
            }
            x.feed(v[0], v[1], v[2]);
        }
    }

    private static int store(FlashNodes x, String text) {
        feed(x, text);
        return x.store();
    }

    private static int work(FlashNodes x, String text) {
        feed(x, text);
        return x.work();
    }

    private static FlashNodes with(String text) {
        FlashNodes x = new FlashNodes();
        int fault = store(x, text);
        if (fault != 0) {
            throw new IllegalStateException("fault " + fault + " in " + text);
        }
        return x;
    }

    private static FlashNodes with(String text, String work) {
        FlashNodes x = with(text);
        int fault = work(x, work);
        if (fault != 0) {
            throw new IllegalStateException("fault " + fault + " in " + work);
        }
        return x;
    }

    private static int lives(FlashNodes x, int i) {
        try {
            return x.lives(i);
        } catch (NoSuchElementException e) {
            return -9;
        }
    }

    private static void promise1() {
        FlashNodes x = new FlashNodes();
        is(1, "NONE", FlashNodes.NONE, -1);
        int[] due = {0, 0, 0, 0, 0, 0, 0, 0, 0, 1, 0, 1, 0, -1, 0, 0, 0};
        for (int i = 0; i < due.length; i++) {
            is(1, "count " + i, x.count(i), due[i]);
        }
        is(1, "slot", x.slot(0, 0), -2);
        is(1, "block", x.block(0, 0), -1);
        is(1, "file", x.file(0, 0), -1);
    }

    private static void promise2() {
        FlashNodes x = new FlashNodes();
        is(2, "nothing", x.feed(0, 0, 0), 0);
        is(2, "highest first", x.feed(0x20207A7A00000000L, 0, 0x3B00000000000000L), 5);
        is(2, "place of zz", x.store(), 1 + 16 * 2);
        is(2, "edges left out", x.feed(0x1F7F80FF090B0DL, 0, 0), 0);
        is(2, "edges taken", x.feed(0x0A207E, 0, 0), 3);
        is(2, "taken away", x.store(), 1 + 16 * 2);
        for (int i = 1; i <= 41; i++) {
            is(2, "feed " + i, x.feed(0x2020202020202020L, 0x2020202020202020L, 0x2020202020202020L), 24 * i);
        }
        is(2, "up to 1000", x.feed(0x2020202020202020L, 0x2020202020202020L, 0x3B3B3B3B3B3B3B3BL), 1000);
        is(2, "full", x.feed(-1L, 0x3B, 0x3B), 1000);
        is(2, "beyond is left out", x.store(), 0);
        is(2, "empty then", x.count(16), 0);
    }

    private static void promise3() {
        String[] right = {"", " \n ", "blocks 6;slots 6;reserve 8;", "reserve 0;", "collects 1;",
            "collects not not not not 1;", "collects((((1))));", "collects (((not 1)));",
            "collects 1<2 and 3=4 or 5+6-7*8;", "collects 9999*erased+live-dirty*journal<1;",
            "file live plain pages 1;file erased log pages 4;file dirty twin pages 2;file journal sync pages 3;",
            "file abcdefgh plain pages 1;file a log pages 1;file b log pages 1;file c log pages 1;file d log pages 1;",
            "collects 1and 1or 1;", "blocks 0006;", "collects (1<2)=(3<4);"};
        for (String text : right) {
            is(3, text, store(new FlashNodes(), text), 0);
        }
        Object[][] wrong = {
            {"blocks 0;", 4, 7}, {"blocks 7;", 4, 7}, {"blocks", 1, 6}, {"blocks ;", 1, 7}, {"blocks 1", 1, 8},
            {"blocks 1 1;", 1, 9}, {"blocks 12345;", 1, 7}, {"blocks a;", 1, 7}, {"Blocks 1;", 1, 0},
            {"slots 0;", 4, 6}, {"slots 7;", 4, 6}, {"reserve 9;", 4, 8}, {"reserve -1;", 1, 8},
            {"blocks 1;blocks 1;", 3, 9}, {"slots 1;slots x", 3, 8}, {"reserve 1; reserve", 3, 11},
            {"collects 1;collects ;", 3, 11}, {"pages 1;", 1, 0}, {"write a 0 0;", 1, 0}, {";", 1, 0}, {"5;", 1, 0},
            {"file", 1, 4}, {"file a", 1, 6}, {"file a plain", 1, 12}, {"file a plain pages", 1, 18},
            {"file a plain pages 1", 1, 20}, {"file a plain pages 0;", 4, 19}, {"file a plain pages 5;", 4, 19},
            {"file a pages 1;", 1, 7}, {"file a plain 1;", 1, 13}, {"file 1 plain pages 1;", 1, 5},
            {"file abcdefghi plain pages 1;", 1, 5}, {"file a disc pages 1;", 1, 7},
            {"file a1 plain pages 1;", 1, 6}, {"file a log pages 1;file a log pages 1;", 3, 24},
            {"collects ;", 1, 9}, {"collects 1 2;", 1, 11}, {"collects a;", 1, 9}, {"collects (1;", 1, 11},
            {"collects 1);", 1, 10}, {"collects ();", 1, 10}, {"collects 1 <;", 1, 12}, {"collects 1<2<3;", 1, 12},
            {"collects 1=2<3;", 1, 12}, {"collects 1+;", 1, 11}, {"collects *1;", 1, 9}, {"collects -1;", 1, 9},
            {"collects 1 and;", 1, 14}, {"collects not;", 1, 12}, {"collects not and;", 1, 13},
            {"collects not not not not not 1;", 5, 29}, {"collects not not not not not not 1;", 5, 29},
            {"collects (((((1)))));", 5, 14}, {"collects ((((((1))))));", 5, 14}, {"collects (((not(1))));", 5, 16},
            {"collects ((((live and not not 1))));", 5, 26}, {"collects not not not not not ;", 1, 29},
            {"collects not not not not not file", 1, 29}, {"collects #", 1, 9}, {"collects 10000;", 1, 9},
            {"blocks 1; ~", 1, 10}, {"collects 1 ", 1, 11}};
        for (Object[] row : wrong) {
            int due = (Integer) row[1] + 16 * (Integer) row[2];
            is(3, (String) row[0], store(new FlashNodes(), (String) row[0]), due);
        }
        for (String name : FlashModel.TAKEN) {
            is(3, "file " + name, store(new FlashNodes(), "file " + name + " plain pages 1;"), 1 + 16 * 5);
        }
        String files = "";
        for (char c = 'a'; c < 'f'; c++) {
            files += "file " + c + " log pages 1;";
        }
        is(3, "sixth", store(new FlashNodes(), files + "file a"), 5 + 16 * files.length());
        is(3, "not a sixth", store(new FlashNodes(), files + "foul"), 1 + 16 * files.length());
        promise3Stays();
    }

    private static void promise3Stays() {
        FlashNodes x = with(SMALL, "commit;");
        x.write(0, 1, 9);
        x.mark(0, false);
        x.see(0, 0, 1, true);
        x.cut(5);
        is(3, "a fault", store(x, "blocks 1; slots 1; file z plain pages 1"), 1 + 16 * 39);
        is(3, "blocks stay", x.count(0), 3);
        is(3, "pages stay", x.says(0, 1), 9);
        is(3, "work stays", x.count(14), 1);
        is(3, "names stay", work(x, "write z 0 0;"), 2 + 16 * 6);
        is(3, "seen stays", x.count(15), 1);
        is(3, "cut stays", x.count(12), 5);
        is(3, "mark stays", x.mark(0, true), true);
        x.open(0);
        x.cut(1);
        x.commit();
        is(3, "power off", x.count(11), 0);
        is(3, "a store", store(x, "blocks 2; slots 3; file z plain pages 1;"), 0);
        int[] due = {2, 3, 1, 6, 0, 0, 0, 0, 0, 1, 0, 1, 0, -1, 0, 0, 0};
        for (int i = 0; i < due.length; i++) {
            is(3, "count " + i, x.count(i), due[i]);
        }
        is(3, "mark is gone", x.mark(0, true), false);
        is(3, "not open", x.file(0, 3), 0);
        is(3, "empty", store(x, ""), 0);
        is(3, "nothing", x.count(0) + x.count(1) + x.count(2), 0);
    }

    private static void promise4() {
        FlashNodes x = with(SMALL + "file live twin pages 4;");
        String[] right = {"", "write a 0 0;", "write b 3 255;write a 1 0;remove a;open b;close live;commit;collect;",
            "write live 3 0255 ;"};
        int[] lines = {0, 1, 7, 1};
        for (int i = 0; i < right.length; i++) {
            is(4, right[i], work(x, right[i]), 0);
            is(4, "lines", x.count(14), lines[i]);
        }
        Object[][] wrong = {{"write z 0 0;", 2, 6}, {"remove z;", 2, 7}, {"open z;", 2, 5}, {"close z;", 2, 6},
            {"write open 0 0;", 1, 6}, {"remove not;", 1, 7}, {"remove plain;", 1, 7}, {"open 1;", 1, 5},
            {"write a 4 0;", 4, 8}, {"write a 0 256;", 4, 10}, {"write a 0;", 1, 9}, {"write a;", 1, 7},
            {"write a 0 0", 1, 11}, {"write a 0 00000;", 1, 10}, {"commit a;", 1, 7}, {"collect 1;", 1, 8},
            {"commit", 1, 6}, {"collects 1;", 1, 0}, {"blocks 1;", 1, 0}, {"a;", 1, 0}, {";", 1, 0}, {"commit;;", 1, 7},
            {"write erased 0 0;", 2, 6}, {"removeab a;", 1, 0}, {"mount;", 1, 0}};
        for (Object[] row : wrong) {
            int due = (Integer) row[1] + 16 * (Integer) row[2];
            is(4, (String) row[0], work(x, (String) row[0]), due);
            is(4, "stays", x.count(14), 1);
            is(4, "tape", x.count(16), 0);
        }
        String most = "commit;".repeat(24);
        is(4, "24 lines", work(x, most), 0);
        is(4, "24 lines", x.count(14), 24);
        is(4, "a 25th", work(x, most + "open"), 5 + 16 * 168);
        is(4, "no 25th", work(x, most + "reserve"), 1 + 16 * 168);
        x.see(0, 0, 0, true);
        is(4, "another", work(x, "commit;"), 0);
        is(4, "seen stays", x.count(15), 1);
        is(4, "nothing told", work(new FlashNodes(), "write a 0 0;"), 2 + 16 * 6);
        is(4, "without a store", work(new FlashNodes(), "commit;collect;"), 0);
    }

    private static void slotIs(FlashNodes x, int slot, int... due) {
        for (int what = 0; what < due.length; what++) {
            is(5, "slot " + slot + " what " + what, x.slot(slot, what), due[what]);
        }
    }

    private static void promise5() {
        FlashNodes x = with(KINDS);
        slotIs(x, 0, 0, -1, -1, -1, -1, 0);
        x.write(0, 1, 200);
        x.write(2, 0, 255);
        x.remove(0);
        x.write(1, 0, 1);
        x.commit();
        slotIs(x, 0, 1, 1, 0, 1, 200, 0);
        slotIs(x, 1, 1, 2, 2, 0, 255, 0);
        slotIs(x, 2, 1, 3, 2, 0, 255, 1);
        slotIs(x, 3, 2, 4, 0, -1, -1, 0);
        slotIs(x, 4, 1, 5, 1, 0, 1, 1);
        slotIs(x, 5, 3, 6, 0, 1, 2, 1);
        x.remove(1);
        slotIs(x, 6, 2, 7, 1, -1, -1, 1);
        x.write(3, 0, 1);
        x.write(3, 1, 1);
        x.write(3, 2, 1);
        slotIs(x, 12, 3, 13, 0, 2, 4, 1);
        slotIs(x, 13, 3, 14, 1, 2, 0, 1);
        slotIs(x, 10, 3, 11, 0, 1, 3, 0);
        x.cut(1);
        x.write(0, 0, 0);
        slotIs(x, 14, 4, -1, -1, -1, -1, 0);
        slotIs(x, 12, 3, 13, 0, 2, 4, 1);
        slotIs(x, 2, 1, 3, 2, 0, 255, 0);
        is(5, "below", x.slot(-1, 0), -2);
        is(5, "last", x.slot(35, 0), 0);
        is(5, "above", x.slot(36, 0), -2);
        is(5, "what -1", x.slot(0, -1), -2);
        is(5, "what 6", x.slot(0, 6), -2);
        is(5, "least int", x.slot(Integer.MIN_VALUE, Integer.MAX_VALUE), -2);
        promise5SameSeq();
    }

    /** A COLLECT that is CUT leaves NODES with one SEQ: the one in the least SLOT is LIVE. */
    private static void promise5SameSeq() {
        FlashNodes x = with("blocks 3; slots 3; file a plain pages 4;");
        x.write(0, 0, 5);
        x.write(0, 1, 6);
        x.write(0, 1, 7);
        x.write(0, 2, 8);
        x.cut(2);
        is(13, "collect is cut", x.collect(), -2);
        x.mount();
        slotIs(x, 0, 1, 1, 0, 0, 5, 1);
        slotIs(x, 4, 1, 1, 0, 0, 5, 0);
        slotIs(x, 2, 1, 3, 0, 1, 7, 1);
        slotIs(x, 5, 4, -1, -1, -1, -1, 0);
        is(29, "copies", x.copies(0, 0), 2);
        is(30, "chain", x.chain(0, 0), 1);
        is(40, "journal counts a SEQ once", x.count(8), 4);
        is(5, "block 1 is all dirty but one", x.block(1, 2), 2);
        is(20, "the head has gone full", x.pick(), 1);
        is(13, "collect", x.collect(), 1);
        slotIs(x, 6, 1, 4, 0, 2, 8, 1);
    }

    private static void promise6() {
        FlashNodes x = with("blocks 2; slots 3; file a plain pages 2;");
        is(6, "erased", x.block(0, 0), 3);
        is(6, "no head", x.block(0, 4), 0);
        x.write(0, 0, 1);
        x.write(0, 0, 2);
        is(6, "erased", x.block(0, 0), 1);
        is(6, "live", x.block(0, 1), 1);
        is(6, "dirty", x.block(0, 2), 1);
        is(6, "times", x.block(0, 3), 0);
        is(6, "head", x.block(0, 4), 1);
        is(6, "other", x.block(1, 4), 0);
        x.write(0, 0, 3);
        x.write(0, 1, 3);
        x.collect();
        is(6, "times", x.block(0, 3), 1);
        is(6, "erased", x.block(0, 0), 3);
        is(6, "live", x.block(1, 1), 2);
        is(6, "what 5", x.block(0, 5), -1);
        is(6, "what -1", x.block(0, -1), -1);
        is(6, "block 2", x.block(2, 0), -1);
        is(6, "block -1", x.block(-1, 0), -1);
    }

    private static void promise7() {
        FlashNodes x = with(KINDS);
        for (int f = 0; f < 4; f++) {
            is(7, "kind", x.file(f, 0), f);
            is(7, "pages", x.file(f, 1), new int[] {2, 3, 1, 4}[f]);
        }
        x.write(0, 1, 0);
        x.write(3, 0, 0);
        x.write(3, 3, 0);
        is(7, "mapped", x.file(0, 2), 2);
        is(7, "mapped", x.file(3, 2), 9);
        is(7, "mapped", x.file(1, 2), 0);
        is(7, "closed", x.file(0, 3), 0);
        x.open(0);
        is(7, "open", x.file(0, 3), 1);
        is(7, "no orphan", x.file(0, 4), 0);
        x.remove(0);
        is(7, "orphan", x.file(0, 4), 1);
        is(7, "still mapped", x.file(0, 2), 2);
        is(7, "still open", x.file(0, 3), 1);
        x.close(0);
        is(7, "gone", x.file(0, 2) + x.file(0, 3) + x.file(0, 4), 0);
        is(7, "what 5", x.file(0, 5), -1);
        is(7, "what -1", x.file(0, -1), -1);
        is(7, "file 4", x.file(4, 0), -1);
        is(7, "file -1", x.file(-1, 0), -1);
    }

    private static void promise8() {
        FlashNodes x = with(KINDS);
        is(8, "plain", x.write(0, 1, 255), 1);
        is(8, "log ahead", x.write(1, 1, 1), -1);
        is(8, "log", x.write(1, 0, 1), 2);
        is(8, "log again", x.write(1, 0, 1), -1);
        is(8, "log next", x.write(1, 1, 1), 3);
        is(8, "twin", x.write(2, 0, 7), 5);
        is(8, "sync", x.write(3, 0, 7), 6);
        is(8, "its commit", x.count(7), 8);
        is(8, "parts", x.slot(6, 3) * 10 + x.slot(6, 4), 24);
        is(8, "last part", x.slot(7, 2) * 10 + x.slot(7, 4), 11);
        int[][] wrong = {{0, 0, -1}, {0, 0, 256}, {0, 2, 0}, {0, -1, 0}, {4, 0, 0}, {-1, 0, 0}, {2, 1, 0}, {1, 3, 0}};
        for (int[] w : wrong) {
            is(8, "others", x.write(w[0], w[1], w[2]), -1);
        }
        is(8, "log last", x.write(1, 2, 1), 9);
        is(8, "log full", x.write(1, 2, 1), -1);
        x.open(0);
        x.remove(0);
        is(8, "orphan", x.write(0, 0, 1), -1);
        x.close(0);
        is(8, "again", x.write(0, 0, 1), 11);
        x.cut(2);
        is(8, "cut in a twin one", x.write(2, 0, 9), -2);
        is(8, "power off", x.write(0, 0, 1), -1);
        x.mount();
        is(8, "the first one counts", x.says(2, 0), 9);
        is(8, "number again", x.write(0, 0, 1), 13);
        x.cut(2);
        is(8, "cut in the commit", x.write(3, 1, 3), -2);
        x.mount();
        is(8, "sync is there", x.says(3, 1), 3);
        promise8Room();
        promise8Collects();
    }

    private static void promise8Room() {
        FlashNodes x = with("blocks 1; slots 5; reserve 1; file a plain pages 1;");
        is(8, "room for 3", x.write(0, 0, 1), 1);
        is(8, "room for 3", x.write(0, 0, 1), 2);
        is(8, "room for 3", x.write(0, 0, 1), 3);
        is(8, "no room", x.write(0, 0, 1), -1);
        x = with("blocks 1; slots 4; reserve 1; file a twin pages 1;");
        is(8, "twin takes two", x.write(0, 0, 1), 2);
        is(8, "no room", x.write(0, 0, 1), -1);
        x = with("blocks 1; slots 3; file a twin pages 1;");
        is(8, "twin", x.write(0, 0, 1), 2);
        x = with("blocks 1; slots 2; file a sync pages 1;");
        is(8, "sync takes three", x.write(0, 0, 1), -1);
        x = with("blocks 1; slots 3; file a sync pages 1;");
        is(8, "sync takes three", x.write(0, 0, 1), 1);
        x = with("blocks 1; slots 6; file a plain pages 4;");
        x.write(0, 0, 0);
        x.write(0, 1, 0);
        x.write(0, 2, 0);
        is(8, "the fourth page takes two parts", x.write(0, 3, 0), 4);
        x = with("blocks 1; slots 6; reserve 1; file a plain pages 4;");
        x.write(0, 0, 0);
        x.write(0, 1, 0);
        x.write(0, 2, 0);
        is(8, "the fourth page takes two parts", x.write(0, 3, 0), -1);
        is(8, "a page that is there takes none", x.write(0, 2, 0), 4);
    }

    private static void promise8Collects() {
        FlashNodes x = with("blocks 2; slots 2; file a plain pages 1; collects 2 < dirty or erased < 2;");
        x.write(0, 0, 1);
        x.write(0, 0, 2);
        is(8, "none wanted", x.write(0, 0, 3), 3);
        is(8, "one erased: collects", x.write(0, 0, 4), 4);
        is(8, "block 0", x.block(0, 3), 1);
        x = with("blocks 2; slots 2; reserve 4; file a plain pages 1; collects 1;");
        is(8, "no room", x.write(0, 0, 1), -1);
        x = with("blocks 3; slots 2; reserve 1; file a plain pages 1; collects journal = 4;");
        for (int i = 1; i <= 4; i++) {
            x.write(0, 0, i);
        }
        is(8, "no room", x.may(0, 0), false);
        is(8, "wrong value, no collect", x.write(0, 0, 256), -1);
        is(8, "no page, no collect", x.write(0, 1, 0), -1);
        is(8, "not collected", x.count(3), 2);
        x.cut(1);
        is(8, "the collect has nothing to put", x.write(0, 0, 5), -2);
        is(8, "collected ahead", x.block(0, 3), 1);
        x = with("blocks 3; slots 2; reserve 4; file a plain pages 1; file b plain pages 1; collects live;");
        is(8, "no room at last", x.write(0, 0, 1), 1);
        is(8, "nothing dirty", x.write(1, 0, 1), -1);
        x = with("blocks 2; slots 3; file a plain pages 2; collects dirty = 2 and journal < 4;");
        x.write(0, 0, 1);
        x.write(0, 1, 1);
        x.write(0, 1, 2);
        x.write(0, 1, 3);
        is(8, "journal is 4: no collect", x.write(0, 1, 4), 5);
        is(8, "not collected", x.block(0, 3), 0);
        x = with("blocks 3; slots 3; reserve 2; file a plain pages 2; collects journal = 4;");
        x.write(0, 0, 1);
        x.write(0, 1, 1);
        x.write(0, 1, 2);
        x.write(0, 1, 3);
        x.cut(1);
        is(8, "cut in the collect", x.write(0, 1, 4), -2);
        is(8, "no number is used up", x.count(6), 4);
        is(8, "not erased", x.block(0, 3), 0);
        is(8, "torn", x.slot(4, 0), 4);
        promise8NoRoom();
        promise8Laws();
    }

    /** A COLLECT is done, whether there is room then or not. */
    private static void promise8NoRoom() {
        FlashNodes x = with("blocks 2; slots 3; reserve 2; file a plain pages 2; collects dirty;");
        x.write(0, 0, 1);
        x.write(0, 0, 2);
        x.commit();
        x.commit();
        is(8, "head is 1", x.count(13), 1);
        is(8, "erased", x.count(3), 2);
        is(8, "no room", x.write(0, 0, 3), 5);
        is(8, "collected once", x.block(0, 3), 1);
        x = with("blocks 2; slots 3; reserve 3; file a plain pages 2; collects dirty;");
        x.write(0, 0, 1);
        x.write(0, 0, 2);
        x.commit();
        x.commit();
        x.commit();
        is(8, "no room", x.may(0, 0), false);
        is(8, "no room", x.write(0, 0, 3), -1);
        is(8, "but collected", x.block(0, 3), 1);
        is(8, "erased", x.count(3), 3);
    }

    /** With 3 ERASED, 1 LIVE, 2 DIRTY, a JOURNAL of 3 a COLLECT comes first, or not. */
    private static void promise8Laws() {
        String[] so = {"erased = 3", "live = 1", "dirty = 2", "journal = 3", "2 - erased", "2 - erased < 0",
            "erased + live = 4", "erased * dirty = 6", "1 + 2 * 3 = 7", "2 * 3 + 1 = 7", "(1 + 2) * 3 = 9",
            "7 - 2 - 3 = 2", "7 - 2 + 3 = 8", "2 * 3 * 4 = 24", "not 0", "not not 7 = 1", "not 0 + 1 = 2",
            "not not not (0 < 0)", "0 and 0 or 1", "0 or 1 and 5", "(2 and 4) = 1", "(2 or 0) = 1",
            "(1 < 2) = 1", "0 - 1 < 0", "8192 * 8192 * 32 < 0", "8192 * 8192 * 32 - 1", "9999", "not (1 < 1)",
            "dirty = 2 and journal = 3 and live", "((((erased))))", "not (0 and 1)", "not (0 or 0)"};
        String[] not = {"0", "erased - 3", "not 5", "not 3 * 2", "1 or 0 and 0", "0 and 1 or 1 and 0", "2 and 4 = 1",
            "1 < 1", "2 < 1", "1 = 2", "8192 * 8192 * 64", "8192 * 8192 * 32 - 1 < 0", "1 and 0", "0 and 1", "0 or 0",
            "erased < journal", "live * (dirty - 2)", "2 * (1 - 1)", "1 - (1)", "not not 0", "dirty = 2 and live = 2"};
        for (int i = 0; i < so.length + not.length; i++) {
            String law = i < so.length ? so[i] : not[i - so.length];
            FlashNodes x = with("blocks 3; slots 2; file a plain pages 1; collects " + law + ";");
            for (int j = 1; j <= 4; j++) {
                x.write(0, 0, j);
            }
            is(8, law, x.block(0, 3), i < so.length ? 1 : 0);
        }
        FlashNodes x = with("blocks 3; slots 2; file a plain pages 1; collects 1;");
        store(x, "blocks 3; slots 2; file a plain pages 1;");
        for (int j = 1; j <= 4; j++) {
            x.write(0, 0, j);
        }
        is(8, "without collects", x.block(0, 3), 0);
    }

    private static void promise9() {
        FlashNodes x = with(KINDS);
        is(9, "nothing mapped", x.remove(0), -1);
        x.write(0, 0, 1);
        x.write(0, 1, 1);
        x.write(2, 0, 1);
        is(9, "removed", x.remove(0), 5);
        is(9, "unmapped", x.file(0, 2), 0);
        is(9, "gone", x.slot(4, 0), 2);
        is(9, "again", x.remove(0), -1);
        x.open(2);
        is(9, "open", x.remove(2), 6);
        is(9, "an orphan", x.file(2, 4), 1);
        is(9, "an orphan again", x.remove(2), -1);
        is(9, "file 4", x.remove(4), -1);
        is(9, "file -1", x.remove(-1), -1);
        x.write(1, 0, 3);
        x.cut(1);
        is(9, "cut", x.remove(1), -2);
        is(9, "power off", x.remove(1), -1);
        is(9, "number used up", x.count(6), 8);
        x.mount();
        is(9, "still there", x.says(1, 0), 3);
        is(9, "number again", x.remove(1), 8);
        x = with("blocks 1; slots 6; file a plain pages 4;");
        for (int p = 0; p < 4; p++) {
            x.write(0, p, 1);
        }
        is(9, "room: of what is removed no parts", x.remove(0), 5);
        x = with("blocks 1; slots 6; reserve 1; file a plain pages 3;");
        for (int p = 0; p < 3; p++) {
            x.write(0, p, 1);
        }
        is(9, "room", x.remove(0), 4);
        x = with("blocks 1; slots 5; reserve 1; file a plain pages 3;");
        for (int p = 0; p < 3; p++) {
            x.write(0, p, 1);
        }
        is(9, "no room", x.remove(0), -1);
        x = with("blocks 3; slots 2; reserve 1; file a plain pages 1; collects journal = 4;");
        for (int i = 1; i <= 4; i++) {
            x.write(0, 0, i);
        }
        is(9, "collects ahead", x.remove(0), 5);
        is(9, "collected", x.block(0, 3), 1);
        x = with("blocks 3; slots 3; reserve 2; file a plain pages 2; collects journal = 4;");
        x.write(0, 0, 1);
        x.write(0, 1, 1);
        x.write(0, 1, 2);
        x.write(0, 1, 3);
        x.cut(1);
        is(9, "cut in the collect", x.remove(0), -2);
        is(9, "no number is used up", x.count(6), 4);
    }

    private static void promise10() {
        FlashNodes x = with(SMALL);
        is(10, "open", x.open(0), true);
        is(10, "again", x.open(0), false);
        is(10, "other", x.open(1), true);
        is(10, "file 2", x.open(2), false);
        is(10, "file -1", x.open(-1), false);
        x.close(0);
        is(10, "once more", x.open(0), true);
        x.write(0, 0, 1);
        x.remove(0);
        is(10, "orphan", x.open(0), false);
        x.cut(1);
        x.commit();
        is(10, "power off", x.open(0), false);
        is(10, "none is open", x.file(0, 3) + x.file(1, 3), 0);
        x.mount();
        is(10, "power on", x.open(1), true);
        x.mount();
        is(15, "mount closes", x.file(1, 3), 0);
    }

    private static void promise11() {
        FlashNodes x = with(SMALL);
        is(11, "not open", x.close(0), false);
        x.open(0);
        is(11, "close", x.close(0), true);
        is(11, "again", x.close(0), false);
        is(11, "file 2", x.close(2), false);
        is(11, "file -1", x.close(-1), false);
        x.write(0, 0, 1);
        x.open(0);
        x.close(0);
        is(11, "stays mapped", x.says(0, 0), 1);
        x.open(0);
        x.remove(0);
        is(11, "says", x.says(0, 0), 1);
        is(11, "close", x.close(0), true);
        is(11, "not mapped", x.says(0, 0), -1);
        x.open(1);
        x.cut(1);
        x.commit();
        is(11, "power off", x.close(1), false);
    }

    private static void promise12() {
        FlashNodes x = with("blocks 4; slots 4; file a plain pages 4; file b plain pages 4;");
        is(12, "nothing", x.commit(), 1);
        is(12, "a part of no pages", x.slot(0, 4), 0);
        for (int p = 0; p < 4; p++) {
            x.write(0, p, p);
        }
        is(12, "four pages", x.commit(), 2);
        is(12, "first", x.slot(5, 2) * 100 + x.slot(5, 3) * 10 + x.slot(5, 4), 24);
        is(12, "second", x.slot(6, 2) * 100 + x.slot(6, 3) * 10 + x.slot(6, 4), 120);
        is(12, "base", x.count(7), 7);
        is(12, "the old one is dirty", x.slot(0, 5), 0);
        x.write(1, 0, 9);
        x.open(0);
        x.remove(0);
        is(12, "none of orphans", x.commit(), 1);
        is(12, "one page", x.slot(9, 4), 1);
        x.cut(1);
        is(12, "cut", x.commit(), -2);
        is(12, "off", x.commit(), -1);
        x.mount();
        is(12, "b is there", x.says(1, 0), 9);
        is(12, "a is not", x.file(0, 2), 0);
        promise12Torn();
        x = with("blocks 1; slots 3; reserve 2; file a plain pages 1;");
        is(12, "no reserve is kept", x.commit() + x.commit() + x.commit(), 3);
        is(12, "full", x.commit(), -1);
        is(12, "no blocks", new FlashNodes().commit(), -1);
    }

    private static void promise12Torn() {
        FlashNodes x = with("blocks 4; slots 4; file a plain pages 4;");
        x.write(0, 0, 1);
        x.commit();
        for (int p = 0; p < 4; p++) {
            x.write(0, p, p + 10);
        }
        x.cut(2);
        is(12, "cut at the second part", x.commit(), -2);
        is(12, "base stays", x.count(7), 2);
        is(12, "a broken one is dirty", x.slot(6, 0) * 10 + x.slot(6, 5), 30);
        is(12, "the old one is live", x.slot(1, 5), 1);
        is(12, "journal", x.mount(), 4);
        is(12, "mapped", x.file(0, 2), 15);
        is(12, "next number", x.count(6), 7);
        x.remove(0);
        is(12, "whole", x.commit(), 1);
        is(12, "base", x.count(7), 9);
        is(12, "the broken one stays dirty", x.slot(6, 5), 0);
        is(12, "nothing found", x.mount() + x.found(), 0);
    }

    private static void promise13() {
        FlashNodes x = with("blocks 3; slots 3; file a plain pages 3;");
        is(13, "nothing", x.collect(), -1);
        x.write(0, 0, 1);
        x.write(0, 0, 2);
        x.write(0, 0, 3);
        is(13, "the head", x.collect(), -1);
        x.write(0, 1, 4);
        is(13, "block", x.collect(), 0);
        is(13, "copied", x.slot(4, 1) * 1000 + x.slot(4, 4), 3003);
        is(13, "erased", x.count(3), 7);
        is(13, "number stays", x.count(6), 4);
        is(13, "none left", x.collect(), -1);
        x.write(0, 1, 5);
        x.write(0, 2, 6);
        is(13, "the one erased fewest is head", x.count(13), 2);
        x.cut(1);
        is(13, "cut", x.collect(), -2);
        is(13, "nothing is erased", x.block(1, 3), 0);
        is(13, "off", x.collect(), -1);
        x.mount();
        is(13, "mapped still", x.file(0, 2), 7);
        x = with("blocks 2; slots 3; file a plain pages 4;");
        x.write(0, 0, 1);
        x.write(0, 1, 1);
        x.write(0, 1, 2);
        x.write(0, 2, 2);
        x.commit();
        x.commit();
        is(13, "no room for the live ones", x.collect(), -1);
        is(13, "no blocks", new FlashNodes().collect(), -1);
        promise13Choice();
    }

    private static void promise13Choice() {
        FlashNodes x = with("blocks 4; slots 2; file a plain pages 2;");
        x.write(0, 0, 1);
        x.write(0, 1, 1);
        x.write(0, 0, 2);
        x.write(0, 0, 3);
        x.write(0, 0, 4);
        is(13, "the most dirty", x.pick(), 1);
        is(13, "collect", x.collect(), 1);
        is(13, "the next", x.collect(), 0);
        x.write(0, 0, 5);
        x.write(0, 1, 5);
        x.write(0, 0, 6);
        is(13, "of equal ones the one erased fewest", x.pick(), 2);
        x = with("blocks 3; slots 2; file a plain pages 2;");
        x.write(0, 0, 1);
        x.write(0, 1, 1);
        x.write(0, 0, 2);
        x.write(0, 1, 2);
        x.mount();
        is(13, "after a mount a full block is no head", x.count(13), -1);
        is(13, "collect", x.collect(), 0);
        is(13, "none", x.collect(), -1);
        x.write(0, 0, 3);
        is(13, "head is the one erased fewest", x.count(13), 2);
    }

    private static void promise14() {
        FlashNodes x = with(SMALL);
        is(14, "0", x.cut(0), false);
        is(14, "21", x.cut(21), false);
        is(14, "-1", x.cut(-1), false);
        is(14, "none", x.count(12), 0);
        is(14, "20", x.cut(20), true);
        is(14, "20", x.count(12), 20);
        is(14, "in its place", x.cut(3), true);
        x.write(0, 0, 1);
        is(14, "less", x.count(12), 2);
        x.commit();
        is(14, "less", x.count(12), 1);
        x.open(0);
        is(14, "no put", x.count(12), 1);
        x.remove(0);
        is(14, "off", x.count(11), 0);
        is(14, "no cut", x.count(12), 0);
        is(14, "off", x.cut(1), false);
        is(14, "nothing mapped", x.count(10), 0);
        is(14, "none open", x.file(0, 3), 0);
        x.mount();
        is(14, "on", x.cut(1), true);
        is(14, "a store takes it", store(x, SMALL) + x.count(12), 0);
        is(14, "nothing told", new FlashNodes().cut(1), true);
        x = with("blocks 3; slots 3; file a plain pages 2;");
        x.write(0, 0, 1);
        x.write(0, 1, 1);
        x.write(0, 1, 2);
        x.write(0, 1, 3);
        x.cut(3);
        x.collect();
        is(14, "copies count", x.count(12), 2);
    }

    private static void promise15() {
        FlashNodes x = with(KINDS);
        is(15, "nothing", x.mount(), 0);
        x.write(0, 0, 1);
        x.write(0, 0, 2);
        x.write(2, 0, 3);
        is(15, "each number", x.mount(), 4);
        x.commit();
        is(15, "none above the base", x.mount(), 0);
        is(15, "mapped", x.says(0, 0) * 10 + x.says(2, 0), 23);
        x.write(0, 1, 9);
        x.remove(0);
        x.write(0, 0, 8);
        is(15, "data, gone, data", x.mount(), 3);
        is(15, "the last stands", x.says(0, 0), 8);
        is(15, "gone", x.says(0, 1), -1);
        x.open(0);
        x.remove(0);
        x.cut(4);
        is(15, "power on", x.mount(), 4);
        is(15, "no cut", x.count(12), 0);
        is(15, "not open, no orphan", x.file(0, 3) + x.file(0, 4) + x.file(0, 2), 0);
        x.cut(1);
        x.write(0, 0, 1);
        is(15, "number used up", x.count(6), 10);
        is(15, "power off", x.mount(), 4);
        is(15, "on", x.count(11), 1);
        is(15, "behind the greatest", x.count(6), 9);
        is(15, "head", x.count(13), 1);
        x.write(1, 0, 1);
        x.write(1, 1, 1);
        is(15, "full head", x.count(13), 1);
        x.mount();
        is(15, "none begun", x.count(13), -1);
        is(15, "no blocks", new FlashNodes().mount(), 0);
    }

    private static void promise16() {
        FlashNodes x = with("blocks 3; slots 2; file a plain pages 1; file b twin pages 1; collects dirty = 2;",
            "write a 0 1; write a 0 2; write a 0 3; write a 0 4; open a; remove b; write b 0 9;");
        is(16, "line", x.judged(0), 5);
        is(16, "puts", x.judged(1), 6);
        is(16, "erased", x.judged(2), 2);
        is(16, "collected", x.judged(3), 1);
        is(16, "what 4", x.judged(4), -2);
        is(16, "what -1", x.judged(-1), -2);
        is(16, "nothing is done", x.count(6), 0);
        x.cut(1);
        x.commit();
        is(16, "as told, with power off", x.judged(1), 6);
        work(x, "write a 0 1; collect; collect;");
        is(16, "another work", x.judged(0) * 10 + x.judged(1), 11);
        work(x, "commit; open a; close a;");
        is(16, "all can be", x.judged(0), -1);
        store(x, SMALL);
        is(16, "no work", x.judged(0), -1);
        is(16, "no work", x.judged(1) + x.judged(3), 0);
        is(16, "no work", x.judged(2), 12);
        x = with("blocks 3; slots 2; reserve 4; file a plain pages 1; collects 1;",
            "commit; commit; commit; write a 0 1; collect;");
        is(16, "a write that can't be may have collected", x.judged(0) * 100 + x.judged(1) * 10 + x.judged(3), 331);
    }

    private static void promise17() {
        FlashNodes x = with(SMALL);
        is(17, "not mapped", x.says(0, 0), -1);
        x.write(0, 0, 0);
        x.write(0, 1, 255);
        is(17, "0", x.says(0, 0), 0);
        is(17, "255", x.says(0, 1), 255);
        x.write(0, 1, 7);
        is(17, "7", x.says(0, 1), 7);
        is(17, "page 2", x.says(0, 2), -1);
        is(17, "page -1", x.says(0, -1), -1);
        is(17, "file 2", x.says(2, 0), -1);
        is(17, "file -1", x.says(-1, 0), -1);
        x.cut(1);
        x.commit();
        is(17, "power off", x.says(0, 0), -1);
    }

    private static void promise18() {
        FlashNodes x = with("blocks 2; slots 3; file a plain pages 1; file b log pages 2; file c twin pages 1; "
            + "file d sync pages 1; collects 1;");
        is(18, "plain", x.may(0, 0), true);
        is(18, "log 0", x.may(1, 0), true);
        is(18, "log 1", x.may(1, 1), false);
        is(18, "page 1", x.may(0, 1), false);
        is(18, "page -1", x.may(0, -1), false);
        is(18, "file 4", x.may(4, 0), false);
        is(18, "file -1", x.may(-1, 0), false);
        x.write(0, 0, 1);
        x.write(0, 0, 2);
        x.write(0, 0, 3);
        is(18, "3 erased: twin", x.may(2, 0), true);
        is(18, "3 erased: sync", x.may(3, 0), true);
        x.commit();
        is(18, "2 erased: plain", x.may(0, 0), true);
        is(18, "2 erased: twin", x.may(2, 0), false);
        is(18, "2 erased: sync", x.may(3, 0), false);
        x.commit();
        is(18, "1 erased, though a collect would do", x.may(0, 0), false);
        is(18, "with a collect", x.write(0, 0, 4), 6);
        x = with(SMALL);
        x.write(0, 0, 1);
        x.open(0);
        x.remove(0);
        is(18, "orphan", x.may(0, 0), false);
        x.cut(1);
        x.commit();
        is(18, "off", x.may(1, 0), false);
    }

    private static void promise19() {
        FlashNodes x = with("blocks 2; slots 4; reserve 3; file a plain pages 4;");
        is(19, "spare", x.spare(), 4);
        x.write(0, 0, 1);
        x.write(0, 1, 1);
        x.write(0, 2, 1);
        is(19, "spare", x.spare(), 1);
        x.commit();
        is(19, "spare", x.spare(), 0);
        x.commit();
        is(19, "0 at least", x.spare(), 0);
        x = with("blocks 2; slots 6; file a plain pages 4;");
        for (int p = 0; p < 4; p++) {
            x.write(0, p, 1);
        }
        is(19, "two parts", x.spare(), 6);
        is(19, "nothing told", new FlashNodes().spare(), 0);
    }

    private static void promise20() {
        FlashNodes x = with("blocks 3; slots 3; file a plain pages 3;");
        is(20, "nothing", x.pick(), -1);
        x.write(0, 0, 1);
        x.write(0, 0, 2);
        x.write(0, 0, 3);
        is(20, "not the head", x.pick(), -1);
        x.write(0, 1, 3);
        is(20, "block 0", x.pick(), 0);
        is(20, "nothing is done", x.block(0, 3), 0);
        x.mark(0, false);
        x.cut(1);
        x.commit();
        is(20, "power off", x.pick(), -1);
        x.mark(0, true);
        is(20, "on", x.pick(), 0);
        x = with("blocks 2; slots 3; file a plain pages 4;");
        x.write(0, 0, 1);
        x.write(0, 1, 1);
        x.write(0, 1, 2);
        x.write(0, 2, 2);
        is(20, "room", x.pick(), 0);
        x.commit();
        is(20, "no room", x.pick(), -1);
    }

    private static void promise21() {
        FlashNodes x = with("blocks 3; slots 3; file a plain pages 3;");
        is(21, "nothing", x.gain(), -1);
        x.write(0, 0, 1);
        x.write(0, 0, 2);
        x.write(0, 0, 3);
        x.write(0, 1, 3);
        is(21, "two", x.gain(), 2);
        x.cut(1);
        is(21, "no cut", x.gain(), 2);
        is(22, "no cut", x.rounds(7), 1);
        is(21, "cut stays", x.count(12), 1);
        x.commit();
        is(21, "power off", x.gain(), -1);
    }

    private static void promise22() {
        FlashNodes x = with("blocks 4; slots 3; file a plain pages 3;");
        is(22, "all", x.rounds(12), 0);
        is(22, "more", x.rounds(13), -1);
        is(22, "-1", x.rounds(-1), -1);
        is(22, "37", x.rounds(37), -1);
        is(22, "36", x.rounds(36), -1);
        for (int i = 0; i < 7; i++) {
            x.write(0, 0, i);
        }
        is(22, "now", x.rounds(5), 0);
        is(22, "one", x.rounds(6), 1);
        is(22, "one", x.rounds(8), 1);
        is(22, "two", x.rounds(11), 2);
        is(22, "never", x.rounds(12), -1);
        x.cut(1);
        x.open(0);
        x.remove(0);
        is(22, "off", x.rounds(4), 0);
        is(22, "off", x.rounds(5), -1);
        x.mount();
        is(22, "on", x.rounds(4), 0);
        x.cut(1);
        is(22, "no cut", x.rounds(10), 2);
        is(22, "nothing is done", x.count(3), 4);
        is(22, "nothing told", new FlashNodes().rounds(0), 0);
    }

    private static void promise23() {
        FlashNodes x = with(SMALL);
        is(23, "none", x.found(), 0);
        x.write(0, 0, 1);
        x.write(1, 0, 1);
        is(23, "journal", x.found(), 2);
        x.commit();
        is(23, "index", x.found(), 2);
        x.write(0, 1, 1);
        is(23, "both", x.found(), 3);
        x.open(0);
        x.remove(0);
        is(23, "orphans are not", x.found(), 1);
        x.cut(1);
        x.commit();
        is(23, "off", x.found(), 1);
    }

    private static void promise24() {
        FlashNodes x = with(SMALL);
        is(24, "none", x.agrees(), true);
        x.write(0, 0, 1);
        x.write(1, 0, 1);
        x.commit();
        x.write(1, 1, 1);
        is(24, "all", x.agrees(), true);
        x.open(0);
        x.remove(0);
        is(24, "but orphans", x.agrees(), true);
        x.cut(1);
        x.commit();
        is(24, "off", x.agrees(), false);
        x.mount();
        is(24, "mounted", x.agrees(), true);
        x = with(SMALL);
        x.cut(1);
        x.commit();
        is(24, "off, nothing there", x.agrees(), true);
    }

    private static void promise25() {
        FlashNodes x = with(SMALL);
        is(25, "none", x.loses(), 0);
        x.write(0, 0, 1);
        x.write(0, 1, 1);
        x.write(1, 0, 1);
        is(25, "none", x.loses(), 0);
        x.open(0);
        x.remove(0);
        is(25, "orphans", x.loses(), 2);
        x.commit();
        is(25, "orphans", x.loses(), 2);
        x.cut(1);
        x.commit();
        is(25, "off: nothing is mapped", x.loses(), 0);
    }

    private static void promise26() {
        is(26, "no blocks", new FlashNodes().wear(), 0);
        FlashNodes x = with("blocks 3; slots 2; file a plain pages 1; collects 0 < dirty;");
        is(26, "none", x.wear(), 0);
        for (int i = 0; i < 5; i++) {
            x.write(0, 0, i);
        }
        is(26, "one", x.wear(), 1);
        x.collect();
        is(26, "all but the head", x.block(0, 3) * 100 + x.block(1, 3) * 10 + x.block(2, 3), 110);
        x.write(0, 0, 8);
        x.write(0, 0, 8);
        x.write(0, 0, 8);
        is(26, "all", x.block(2, 3), 1);
        is(26, "no difference", x.wear(), 0);
    }

    private static void promise27() {
        FlashNodes x = with(SMALL);
        is(27, "none", x.oldest(), -1);
        x.write(0, 0, 1);
        x.write(0, 1, 1);
        is(27, "first", x.oldest(), 1);
        x.write(0, 0, 2);
        is(27, "second", x.oldest(), 2);
        x.commit();
        x.remove(0);
        is(27, "index", x.oldest(), 4);
        x.cut(1);
        x.write(0, 0, 0);
        is(27, "off", x.oldest(), 4);
    }

    private static void promise28() {
        FlashNodes x = with(KINDS);
        is(28, "none", x.hot(), -1);
        x.write(0, 0, 1);
        is(28, "none dirty", x.hot(), -1);
        x.write(2, 0, 1);
        is(28, "twin", x.hot(), 2);
        x.write(0, 0, 1);
        is(28, "of equal ones the first", x.hot(), 0);
        x.write(2, 0, 1);
        is(28, "twin", x.hot(), 2);
        x.commit();
        x.commit();
        x.commit();
        x.commit();
        is(28, "data alone", x.hot(), 2);
        x.cut(1);
        x.commit();
        is(28, "off", x.hot(), 2);
    }

    private static void promise29() {
        FlashNodes x = with(KINDS);
        is(29, "none", x.copies(0, 0), 0);
        x.write(2, 0, 1);
        x.write(0, 0, 1);
        x.write(2, 0, 1);
        is(29, "twin", x.copies(2, 0), 4);
        is(29, "plain", x.copies(0, 0), 1);
        is(29, "other page", x.copies(0, 1), 0);
        x.remove(2);
        is(29, "removed", x.copies(2, 0), 4);
        is(29, "page 2", x.copies(0, 2), -1);
        is(29, "page -1", x.copies(0, -1), -1);
        is(29, "file 4", x.copies(4, 0), -1);
        is(29, "file -1", x.copies(-1, 0), -1);
    }

    private static void promise30() {
        FlashNodes x = with(KINDS);
        is(30, "none", x.chain(0, 0), 0);
        x.write(2, 0, 1);
        is(30, "twin", x.chain(2, 0), 2);
        x.write(0, 0, 1);
        x.write(0, 0, 1);
        is(30, "two", x.chain(0, 0), 2);
        is(30, "page 2", x.chain(0, 2), -1);
        is(30, "page -1", x.chain(0, -1), -1);
        is(30, "file 4", x.chain(4, 0), -1);
        is(30, "file -1", x.chain(-1, 0), -1);
    }

    private static final String LONG_WORK =
        "write a 0 1; write b 0 2; write a 0 3; commit; write c 0 4; remove a; write d 1 5; write a 1 6;";

    private static void promise31() {
        FlashNodes x = with(KINDS, LONG_WORK);
        is(31, "ahead of all", x.after(1, 0, 0), -1);
        is(31, "a is 1", x.after(2, 0, 0), 1);
        is(31, "b is not yet", x.after(2, 1, 0), -1);
        is(31, "a is 1", x.after(3, 0, 0), 1);
        is(31, "a is 3", x.after(4, 0, 0), 3);
        is(31, "c is not yet", x.after(5, 2, 0), -1);
        is(31, "c by its first one", x.after(6, 2, 0), 4);
        is(31, "a is 3", x.after(7, 0, 0), 3);
        is(31, "a is gone", x.after(8, 0, 0), -1);
        is(31, "d by the journal", x.after(9, 3, 1), 5);
        is(31, "all puts", x.judged(1), 10);
        is(31, "a 1 is not", x.after(10, 0, 1), -1);
        is(31, "the end", x.after(11, 0, 1), 6);
        is(31, "the end", x.after(200, 3, 1), 5);
        int[][] wrong = {{0, 0, 0}, {201, 0, 0}, {-1, 0, 0}, {1, 4, 0}, {1, -1, 0}, {1, 0, 2}, {1, 0, -1}};
        for (int[] w : wrong) {
            is(31, "others", x.after(w[0], w[1], w[2]), -2);
        }
        is(31, "no work", with(SMALL).after(1, 0, 0), -1);
        x.write(0, 0, 77);
        is(31, "from the store as told", x.after(1, 0, 0), -1);
        x = with(SMALL, "write a 0 1; open a; remove a;");
        is(31, "the end, mounted", x.after(3, 0, 0), -1);
    }

    private static void promise32() {
        is(32, "nothing", new FlashNodes().ends(), 0);
        FlashNodes x = with(KINDS, LONG_WORK);
        is(32, "ends", x.ends(), 7);
        work(x, "open a; close a;");
        is(32, "nothing is put", x.ends(), 0);
        work(x, "commit; commit; commit;");
        is(32, "one", x.ends(), 1);
        work(x, "write a 0 1; write a 0 1; write a 0 1;");
        is(32, "by values", x.ends(), 2);
        work(x, "write a 0 1; write a 0 0; remove a; commit;");
        is(32, "nothing twice", x.ends(), 3);
    }

    private static void promise33() {
        is(33, "nothing", new FlashNodes().halves(), 0);
        is(33, "none", with(KINDS, LONG_WORK).halves(), 0);
        is(33, "a twin one says the same ahead of its second put",
            with(KINDS, "write c 0 1; write c 0 2; remove c; write c 0 3;").halves(), 0);
        is(33, "collects", with("blocks 3; slots 2; file a twin pages 1; file b sync pages 1; collects dirty;",
            "write a 0 1; write b 0 2; write a 0 3; remove a; write b 0 1;").halves(), 0);
    }

    private static void promise34() {
        FlashNodes x = with(SMALL);
        is(34, "file 2", x.see(2, 0, 0, true), false);
        is(34, "file -1", x.see(-1, 0, 0, true), false);
        is(34, "page 2", x.see(0, 2, 0, true), false);
        is(34, "page -1", x.see(0, -1, 0, true), false);
        is(34, "value 256", x.see(0, 0, 256, true), false);
        is(34, "value -2", x.see(0, 0, -2, false), false);
        is(34, "none seen", x.count(15), 0);
        for (int i = 0; i < 8; i++) {
            is(34, "seen", x.see(i % 2, 1, i == 0 ? -1 : 255, i > 3), true);
        }
        is(34, "8 there are", x.see(0, 0, 0, true), false);
        is(34, "8", x.count(15), 8);
    }

    private static void promise35() {
        FlashNodes x = with(KINDS, LONG_WORK);
        is(35, "nothing seen", x.cuts(), 10);
        x.mark(0, false);
        x.see(0, 0, 3, true);
        is(35, "a is 3", x.cuts(), 4);
        x.see(2, 0, -1, false);
        is(35, "c is there", x.cuts(), 2);
        x.see(2, 0, 5, true);
        is(35, "never", x.cuts(), 0);
        x.mark(0, true);
        x.see(0, 0, -1, true);
        is(35, "a is not there", x.cuts(), 4);
        x.see(3, 1, 5, false);
        is(35, "d is not 5", x.cuts(), 2);
        is(35, "no work", with(SMALL).cuts(), 0);
    }

    private static void promise36() {
        FlashNodes x = with(KINDS, LONG_WORK);
        // Of 10 PUTS a 0 says nothing at 4, 1 at 2, 3 at 4: at most 4. b 0: 2 at 8. c 0: 4 at 5. d 1: nothing at 8.
        is(36, "a 0", x.look(), 0);
        x.see(0, 0, 3, true);
        // PUTS 4 to 7: c 0 says nothing at 4 and 5, then 4.
        is(36, "c 0", x.look(), 8);
        x.see(2, 0, 4, true);
        is(36, "none parts them", x.look(), -1);
        x.see(2, 0, 4, false);
        is(36, "none is left", x.look(), -1);
        x = with("blocks 6; slots 6; file a plain pages 2; file b plain pages 2;", "write a 0 1; write b 1 1; commit;");
        is(36, "of equal ones the first", x.look(), 0);
        x = with("blocks 6; slots 6; file a plain pages 2; file b plain pages 2;",
            "write a 0 1; write b 1 1; commit; commit; write a 1 1; commit; commit; commit;");
        is(36, "page 1 of a", x.look(), 1);
        x = with("blocks 6; slots 6; file a plain pages 2; file b plain pages 2;",
            "write a 0 1; commit; write b 1 1; commit; commit; write a 1 1;");
        is(36, "page 1 of b", x.look(), 5);
        is(36, "no work", with(SMALL).look(), -1);
    }

    private static void promise37() {
        FlashNodes x = with("blocks 3; slots 3; file a plain pages 3;");
        is(37, "none", lives(x, 0), -9);
        x.mark(0, false);
        x.write(0, 0, 1);
        is(37, "slot 0", lives(x, 0), 0);
        x.mark(0, true);
        x.write(0, 0, 1);
        x.write(0, 0, 2);
        x.write(0, 1, 3);
        x.write(0, 2, 4);
        is(37, "least", lives(x, 0), 1);
        is(37, "second", lives(x, 1), 2);
        is(37, "third", lives(x, 2), 3);
        is(37, "no more", lives(x, 3), -9);
        is(37, "-1", lives(x, -1), -9);
        is(37, "least int", lives(x, Integer.MIN_VALUE), -9);
        is(37, "greatest int", lives(x, Integer.MAX_VALUE), -9);
        x.collect();
        is(37, "by seqs, not by slots", lives(x, 0) * 100 + lives(x, 1) * 10 + lives(x, 2), 453);
    }

    private static void promise38() {
        FlashNodes x = with(SMALL);
        // 1103527590 / 65536 = 16838, of that modulo 8 is 6: a commit.
        is(38, "one act", x.ages(1, 1, 0), 1);
        is(38, "erased", x.ages(1, 1, 1), 11);
        is(38, "mapped", x.ages(1, 1, 2), 0);
        is(38, "nothing is done", x.count(3), 12);
        // By 0 the next g are 12345, 1406932606, 654583775, 1449466924: 0 of 8, FILE 0, page 0, value 101.
        is(38, "one write", x.ages(0, 1, 0), 1);
        is(38, "erased", x.ages(0, 1, 1), 11);
        is(38, "mapped", x.ages(0, 1, 2), 1);
        int[][] wrong = {{-1, 1, 0}, {10000, 1, 0}, {1, 0, 0}, {1, 100, 0}, {1, 1, -1}, {1, 1, 3}};
        for (int[] w : wrong) {
            is(38, "others", x.ages(w[0], w[1], w[2]), -1);
        }
        is(38, "no files", with("blocks 2; slots 5;").ages(5, 99, 0), 0);
        is(38, "no files", with("blocks 2; slots 5;").ages(5, 99, 1), 10);
        is(38, "nothing told", new FlashNodes().ages(9999, 99, 2), 0);
        x.cut(1);
        is(38, "no cut", x.ages(1, 1, 0), 1);
        is(38, "no cut", x.ages(1, 1, 1), 11);
        is(38, "as is ahead", x.count(12), 1);
        x.commit();
        is(38, "off", x.ages(1, 1, 0), -1);
        FlashModel model = new FlashModel();
        x = with(KINDS + "collects 2 < dirty;");
        for (int i = 0; i < 3; i++) {
            x.write(i, 0, i);
        }
        model.store = FlashModel.Store.read(KINDS + "collects 2 < dirty;");
        model.now = new FlashModel.State(model.store);
        for (int i = 0; i < 3; i++) {
            model.now.write(i, 0, i);
        }
        for (int seed = 0; seed < 40; seed++) {
            for (int what = 0; what < 3; what++) {
                is(38, "by the model", x.ages(seed * 250, 99 - seed, what), model.ages(seed * 250, 99 - seed, what));
            }
        }
    }

    private static void promise39() {
        FlashNodes x = with(SMALL, "commit;");
        is(39, "2", x.mark(2, false), false);
        is(39, "-1", x.mark(-1, true), false);
        is(39, "nothing on it", x.mark(0, true), false);
        x.write(0, 0, 1);
        x.open(0);
        x.remove(0);
        x.write(1, 0, 5);
        x.commit();
        x.see(0, 0, 1, true);
        x.cut(7);
        is(39, "laid", x.mark(0, false), true);
        is(39, "the other", x.mark(1, true), false);
        x.close(0);
        x.collect();
        x.write(1, 1, 9);
        x.see(0, 0, 2, true);
        x.cut(1);
        x.commit();
        feed(x, "file");
        is(39, "laid with power off", x.mark(1, false), true);
        is(39, "back", x.mark(0, true), true);
        int[] due = {3, 4, 2, 8, 3, 1, 4, 4, 0, 1, 2, 1, 7, 0, 1, 1, 4};
        for (int i = 0; i < due.length; i++) {
            is(39, "count " + i, x.count(i), due[i]);
        }
        is(39, "orphan", x.file(0, 4), 1);
        is(39, "says", x.says(0, 0) * 10 + x.says(1, 0), 15);
        is(39, "lost", x.says(1, 1), -1);
        is(39, "to the other", x.mark(1, true), true);
        is(39, "power off", x.count(11), 0);
        is(39, "seen", x.count(15), 2);
        is(39, "back once more", x.mark(0, true), true);
        is(39, "the tape is not on it", work(x, "open a; open b;"), 1);
        is(39, "work", work(x, "open a; open b;"), 0);
        is(39, "back", x.mark(0, true), true);
        is(39, "the texts are not on it", x.count(14), 2);
        store(x, SMALL);
        is(39, "gone", x.mark(0, true), false);
        is(39, "nothing told", new FlashNodes().mark(1, false), true);
        promise39Whole();
    }

    /** What stands on a MARK stays as it was, whatever is done over it. */
    private static void promise39Whole() {
        FlashNodes x = with("blocks 3; slots 3; file a plain pages 2;", "write a 0 1; write a 1 2; commit; remove a;");
        x.mark(1, false);
        x.see(0, 0, 1, true);
        x.see(0, 1, -1, true);
        is(39, "cuts", x.cuts(), 1);
        x.write(0, 0, 7);
        x.write(0, 1, 8);
        x.commit();
        x.write(0, 1, 9);
        x.mark(0, false);
        x.mark(1, true);
        is(39, "none seen", x.count(15), 0);
        x.see(0, 1, 2, false);
        x.see(0, 1, -1, false);
        is(39, "cuts", x.cuts(), 0);
        x.write(0, 0, 30);
        x.write(0, 0, 31);
        x.write(0, 0, 32);
        x.write(0, 0, 33);
        x.collect();
        x.mark(0, true);
        is(39, "cuts", x.cuts(), 1);
        is(39, "says", x.says(0, 0) * 10 + x.says(0, 1), 79);
        is(39, "never erased", x.wear(), 0);
        is(39, "index", x.slot(2, 5) * 100 + x.slot(2, 4) * 10 + x.found(), 122);
        is(39, "seqs", x.oldest() * 10 + x.count(6), 14);
        is(39, "mounted", x.mount(), 1);
        is(39, "says", x.says(0, 0) * 10 + x.says(0, 1), 79);
    }

    private static void promise40() {
        FlashNodes x = with(KINDS, "commit; collect;");
        x.write(0, 0, 1);
        x.write(0, 0, 2);
        x.commit();
        x.write(1, 0, 3);
        x.write(2, 0, 3);
        x.remove(0);
        x.cut(9);
        x.see(0, 0, 0, false);
        feed(x, "abc");
        int[] due = {6, 6, 4, 29, 4, 3, 7, 3, 4, 1, 2, 1, 9, 1, 2, 1, 3};
        for (int i = 0; i < due.length; i++) {
            is(40, "count " + i, x.count(i), due[i]);
        }
        is(40, "17", x.count(17), -1);
        is(40, "-1", x.count(-1), -1);
        x.cut(1);
        x.commit();
        int[] off = {6, 6, 4, 28, 2, 6, 8, 3, 4, 1, 0, 0, 0, 1, 2, 1, 3};
        for (int i = 0; i < off.length; i++) {
            is(40, "off, count " + i, x.count(i), off[i]);
        }
    }

    /** Nothing but what the document names is ever thrown, whatever is asked; and nothing that only asks changes a thing. */
    private static void extremes(Supplier<FlashNodes> made) {
        int[] all = {Integer.MIN_VALUE, Integer.MIN_VALUE + 1, -256, -2, -1, 0, 1, 2, 3, 4, 5, 6, 8, 20, 35, 36, 37, 255,
            256, 1000, 9999, 10000, 65536, Integer.MAX_VALUE - 1, Integer.MAX_VALUE};
        for (int a : all) {
            for (int b : all) {
                askAll(made.get(), a, b, all);
                doAll(made.get(), a, b, all);
            }
        }
    }

    private static int state(FlashNodes x) {
        return x.count(6) * 1000 + x.count(3) * 10 + x.count(11);
    }

    private static void askAll(FlashNodes x, int a, int b, int[] all) {
        int ahead = state(x);
        x.judged(a);
        x.rounds(a);
        x.count(a);
        lives(x, a);
        x.slot(a, b);
        x.block(a, b);
        x.file(a, b);
        x.says(a, b);
        x.may(a, b);
        x.copies(a, b);
        x.chain(a, b);
        for (int c : all) {
            x.after(a, b, c);
            if (a < 0 || b < 2) {
                x.ages(a, b, c);
            }
        }
        is(0, "what only asks changes nothing", state(x), ahead);
    }

    private static void doAll(FlashNodes x, int a, int b, int[] all) {
        if (b == all[0]) {
            x.feed(Long.MIN_VALUE, Long.MAX_VALUE, -1L);
            x.store();
            x.work();
        }
        x.mark(a, false);
        x.mark(a, true);
        x.open(a);
        x.close(b);
        x.remove(b);
        x.cut(a);
        for (int c : all) {
            x.write(a, b, c);
            x.see(a, b, c, (a ^ b ^ c) % 2 == 0);
        }
        x.commit();
        x.collect();
        x.mount();
        is(0, "it is still there", x.count(11), 1);
    }

    private static FlashNodes written() {
        FlashNodes x = with(KINDS + "collects dirty;", LONG_WORK);
        for (int i = 0; i < 40; i++) {
            x.write(i % 4, i % 3, i);
        }
        return x;
    }

    private static FlashNodes powerless() {
        FlashNodes x = with(KINDS, LONG_WORK);
        x.write(0, 0, 1);
        x.cut(1);
        x.write(0, 0, 1);
        return x;
    }

    private static void extremes() {
        extremes(FlashNodes::new);
        extremes(() -> with(KINDS, LONG_WORK));
        extremes(() -> with("blocks 6;", "commit; collect;"));
        extremes(() -> with("slots 6; file a log pages 4;", "write a 3 3;"));
        extremes(() -> with("blocks 1; slots 1; file a sync pages 4; collects 1;",
            "write a 0 3; commit; commit; collect;"));
        extremes(FlashNodesPromises::written);
        extremes(FlashNodesPromises::powerless);
    }

    public static void main(String[] args) {
        promise1();
        promise2();
        promise3();
        promise4();
        promise5();
        promise6();
        promise7();
        promise8();
        promise9();
        promise10();
        promise11();
        promise12();
        promise13();
        promise14();
        promise15();
        promise16();
        promise17();
        promise18();
        promise19();
        promise20();
        promise21();
        promise22();
        promise23();
        promise24();
        promise25();
        promise26();
        promise27();
        promise28();
        promise29();
        promise30();
        promise31();
        promise32();
        promise33();
        promise34();
        promise35();
        promise36();
        promise37();
        promise38();
        promise39();
        promise40();
        extremes();
        System.out.println(passed + " passed, " + failed + " failed");
        if (failed != 0) {
            System.exit(1);
        }
    }
}
