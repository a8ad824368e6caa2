/** The edges that the document names of the TAPE, its TOKENS, a STORE, a WORK and their FAULTS. */
final class EdgesOfTexts {
    private static final String TWO = "file a plain pages 1; file b log pages 1; ";
    private static final String BLANKS = " ".repeat(1000);

    private EdgesOfTexts() {
    }

    // ---- the TAPE

    /** Term TAPE: "The TAPE has at most 1,000 signs" */
    static void tapeIsFullWithAThousandSigns() {
        FlashNodes x = new FlashNodes();
        Edge.feed(x, BLANKS.substring(0, 984));
        Edge.is("signs", x.count(16), 984);
        Edge.feed(x, BLANKS.substring(0, 15));
        Edge.is("one is free", x.count(16), 999);
        Edge.is("the last one", x.feed(0, 0, ';'), 1000);
        Edge.is("none is free", x.feed(0, 0, 'a'), 1000);
        Edge.is("none is free", x.count(16), 1000);
        Edge.is("the last one stands at 999", x.store(), 1 + 16 * 999);
        Edge.feed(x, BLANKS);
        Edge.feed(x, "a");
        Edge.is("what is beyond is not there", x.store(), 0);
    }

    /** Term TAPE: "1,000 signs, 10 and 32 .. 126" */
    static void tapeTakesTenAndThirtyTwoTo126() {
        for (int sign = 0; sign < 256; sign++) {
            FlashNodes x = new FlashNodes();
            boolean taken = sign == 10 || sign > 31 && sign < 127;
            Edge.is("sign " + sign, x.feed(0, 0, sign), taken ? 1 : 0);
            Edge.is("sign " + sign + " alone", x.count(16), taken ? 1 : 0);
        }
    }

    /** Term TAPE: "what reads it takes it: it is empty then." */
    static void tapeIsEmptyWhenItWasRead() {
        FlashNodes x = new FlashNodes();
        Edge.is("right", Edge.store(x, "blocks 1;"), 0);
        Edge.is("after a STORE", x.count(16), 0);
        Edge.is("wrong", Edge.store(x, "blocks"), 1 + 16 * 6);
        Edge.is("after a FAULT of a STORE", x.count(16), 0);
        Edge.is("right", Edge.work(x, "commit;"), 0);
        Edge.is("after a WORK", x.count(16), 0);
        Edge.is("wrong", Edge.work(x, "commit"), 1 + 16 * 6);
        Edge.is("after a FAULT of a WORK", x.count(16), 0);
        Edge.is("the next one starts at 0", x.feed(0, 0, 'a'), 1);
        Edge.is("the place of the next one", x.store(), 1);
    }

    // ---- TOKENS

    /** Term TOKENS: "TOKENS, each as long as can be, blanks (10, 32) between where one likes" */
    static void blanksStandBetweenTokensOrNot() {
        Edge.storeRight("blocks1;slots1;reserve0;collects1and 1;file a log pages1;");
        Edge.storeRight(" \n blocks \n\n 1 \n ; \n");
        Edge.storeRight("file\na\nplain\npages\n1\n;\n");
        Edge.storeRight("collects 1234 + 12 * 345;");
        Edge.storeFault(1, "|blo cks 1;");
        Edge.storeFault(1, "|blocksslots 1;");
        Edge.storeFault(1, "collects 1 |1;");
        Edge.storeFault(1, "collects 1 |2and 1;");
        Edge.storeFault(1, "file aplain |pages 1;");
    }

    /** Term TOKENS: "WORDS (letters a .. z, 8 at most)" */
    static void aWordHasEightLettersAtMost() {
        Edge.storeRight("file abcdefgh plain pages 1;");
        Edge.storeFault(1, "file |abcdefghi plain pages 1;");
        Edge.storeFault(1, "|collectss 1;");
        Edge.storeFault(1, "|abcdefghijklmnopqrstuvwxyz");
        FlashNodes x = Edge.with("file zzzzzzzz plain pages 1;");
        Edge.is("a NAME of 8", Edge.work(x, "open zzzzzzzz;"), 0);
        Edge.workFault(x, 1, "open |zzzzzzzzz;");
    }

    /** Term TOKENS: "WORDS (letters a .. z" */
    static void aWordHasLettersFromAToZ() {
        Edge.storeRight("file a plain pages 1; file z plain pages 1; file az plain pages 1;");
        for (char c : new char[] {'a' - 1, 'z' + 1, 'A' - 1, 'A', 'Z', 'Z' + 1, '0', '9', '_'}) {
            Edge.storeFault(1, "file |" + c + " plain pages 1;");
            Edge.storeFault(1, "file a|" + c + " plain pages 1;");
        }
    }

    /** Term TOKENS: "NUMBERS (1 to 4 digits" */
    static void aNumberHasFourDigitsAtMost() {
        Edge.storeRight("collects 9999;");
        Edge.storeRight("collects 0;");
        Edge.storeRight("blocks 0006; slots 006; reserve 08;");
        Edge.storeFault(1, "collects |10000;");
        Edge.storeFault(1, "blocks |00006;");
        Edge.storeFault(1, "collects |99999999999999999999;");
        for (char c = '0'; c <= '9'; c++) {
            Edge.storeRight("collects " + c + ";");
        }
        Edge.storeFault(1, "collects |/;");
        Edge.storeFault(1, "collects |:;");
    }

    /** Term TOKENS: "a letter may stand right behind" */
    static void aLetterMayStandRightBehindANumber() {
        Edge.storeRight("collects 1and 1or 9999and 2;");
        Edge.storeFault(1, "collects 1|a;");
        FlashNodes x = Edge.with(TWO);
        Edge.is("a letter behind", Edge.work(x, "write a 0 1;"), 0);
        Edge.workFault(x, 1, "write a 0 1|a;");
    }

    /** Term TOKENS: "the signs ( ) < = + - * ;  All else (a longer WORD or NUMBER, too, at its first sign) is none." */
    static void allElseIsNoToken() {
        for (char c = 33; c < 127; c++) {
            if ("<=+-*".indexOf(c) >= 0) {
                Edge.storeRight("collects 1 " + c + " 1;");
            } else if (c == ';') {
                Edge.storeFault(1, "collects 1 ; |1;");
            } else if (c != '|') {
                Edge.storeFault(1, "collects 1 |" + c + " 1;");
            }
        }
        Edge.is("124", Edge.store(new FlashNodes(), "collects 1 | 1;"), 1 + 16 * 11);
        Edge.storeRight("collects (1);");
        Edge.storeFault(1, "collects (1|];");
        Edge.storeFault(1, "collects |[1);");
        Edge.storeFault(1, "collects 1 < |>;");
        Edge.storeFault(1, "blocks 1|,");
    }

    // ---- a STORE

    /** Term STORE: "STORE: any number of   blocks N ;   slots N ;   reserve N ;" */
    static void aStoreOfNothingIsOne() {
        FlashNodes x = new FlashNodes();
        for (String text : new String[] {"", " ", "\n", BLANKS}) {
            Edge.is("some", Edge.store(x, "blocks 2; slots 3; reserve 4; " + TWO), 0);
            Edge.is("some", Edge.work(x, "commit;"), 0);
            for (int i = 0; i < 2; i++) {
                Edge.is("nothing", Edge.store(x, text), 0);
                Edge.countsAre(x, 0, 0, 0, 0, 0, 0, 0, 0, 0, 1, 0, 1, 0, -1, 0, 0, 0);
            }
        }
        Edge.storeFault(1, "|;");
        Edge.storeRight("slots 1;");
        Edge.storeRight("collects 1; reserve 1; slots 1; blocks 1;");
    }

    /** Term STORE: "blocks 1 to 6 (0)" */
    static void blocksAreOneToSix() {
        Edge.storeFault(4, "blocks |0;");
        Edge.storeFault(4, "blocks |7;");
        Edge.storeFault(4, "blocks |9999;");
        Edge.storeFault(1, "blocks |-1;");
        Edge.is("least", Edge.with("blocks 1;").count(0), 1);
        Edge.is("most", Edge.with("blocks 6;").count(0), 6);
        FlashNodes none = Edge.with("slots 6;");
        Edge.is("without", none.count(0), 0);
        Edge.is("without", none.count(1), 6);
        Edge.is("without", none.count(3), 0);
        Edge.is("without", none.slot(0, 0), -2);
    }

    /** Term STORE: "each of slots 1 to 6 (0)" */
    static void slotsAreOneToSix() {
        Edge.storeFault(4, "slots |0;");
        Edge.storeFault(4, "slots |7;");
        Edge.storeFault(1, "slots |-1;");
        Edge.is("least", Edge.with("blocks 6; slots 1;").count(3), 6);
        Edge.is("most", Edge.with("blocks 6; slots 6;").count(3), 36);
        FlashNodes none = Edge.with("blocks 6;");
        Edge.is("without", none.count(1), 0);
        Edge.is("without", none.count(3), 0);
        Edge.is("without", none.block(5, 0), 0);
        Edge.is("without", none.commit(), -1);
        Edge.is("without", none.collect(), -1);
        Edge.is("without", none.mount(), 0);
        Edge.is("without", none.count(13), -1);
    }

    /** Term STORE: "reserve 0 to 8 (0)" */
    static void reserveIsZeroToEight() {
        Edge.storeFault(4, "reserve |9;");
        Edge.storeFault(1, "reserve |-1;");
        Edge.is("least", Edge.with("blocks 6; slots 6; reserve 0;").spare(), 35);
        Edge.is("most", Edge.with("blocks 6; slots 6; reserve 8;").spare(), 27);
        FlashNodes x = new FlashNodes();
        for (int turn = 0; turn < 3; turn++) {
            Edge.is("without", Edge.store(x, "blocks 6; slots 6;"), 0);
            Edge.is("without", x.spare(), 35);
            Edge.is("with", Edge.store(x, "blocks 6; slots 6; reserve 8;"), 0);
            Edge.is("with", Edge.store(x, "blocks 6; slots 6; reserve 7;"), 0);
            Edge.is("with", x.spare(), 28);
        }
    }

    /** Term STORE: "file: 5 at most, numbered as told" */
    static void fiveFilesAtMost() {
        String five = "file e plain pages 1; file d log pages 2; file c twin pages 3; file b sync pages 4; "
            + "file a log pages 1; ";
        FlashNodes x = Edge.with(five);
        Edge.is("five", x.count(2), 5);
        Edge.is("the first", x.file(0, 1) * 10 + x.file(0, 0), 10);
        Edge.is("the fourth", x.file(3, 1) * 10 + x.file(3, 0), 43);
        Edge.is("the last", x.file(4, 1) * 10 + x.file(4, 0), 11);
        Edge.is("none", x.file(5, 0), -1);
        Edge.storeFault(5, five + "|file f plain pages 1;");
        Edge.is("none at all", Edge.with("blocks 1;").count(2), 0);
    }

    /** Term STORE: "KIND: plain, log, twin, sync; pages 1 to 4." */
    static void pagesAreOneToFour() {
        for (String kind : new String[] {"plain", "log", "twin", "sync"}) {
            Edge.storeFault(4, "file a " + kind + " pages |0;");
            Edge.storeFault(4, "file a " + kind + " pages |5;");
            Edge.is("least", Edge.with("file a " + kind + " pages 1;").file(0, 1), 1);
            Edge.is("most", Edge.with("file a " + kind + " pages 4;").file(0, 1), 4);
        }
        Edge.storeFault(1, "file a plain |1;");
        Edge.storeFault(1, "file a plain pages |;");
        Edge.storeFault(1, "file a |pages 1;");
        Edge.storeFault(1, "file a |twins pages 1;");
        Edge.storeFault(1, "file a |lo pages 1;");
    }

    /** Term STORE: "blocks, slots, reserve, collects: once each." */
    static void onceEach() {
        Edge.storeFault(3, "blocks 1; |blocks 1;");
        Edge.storeFault(3, "slots 1; |slots 1;");
        Edge.storeFault(3, "reserve 0; |reserve 0;");
        Edge.storeFault(3, "collects 0; |collects 0;");
        Edge.storeFault(3, "blocks 1; slots 1; reserve 1; collects 1; file a log pages 1; |slots 7");
        Edge.storeRight("blocks 1; slots 1; reserve 1; collects 1;");
    }

    // ---- a WORK

    /** Term WORK: "WORK: any number of   write NAME N N ;   remove NAME ;   open NAME ;   close NAME ;   commit ;   collect ;" */
    static void aWorkOfNothingIsOne() {
        FlashNodes x = Edge.with("blocks 2; slots 2; " + TWO, "commit; commit;");
        Edge.is("nothing", Edge.work(x, ""), 0);
        Edge.is("no line", x.count(14), 0);
        Edge.is("no line", x.judged(1), 0);
        Edge.is("blanks", Edge.work(x, " \n"), 0);
        Edge.workFault(x, 1, "|;");
        Edge.workFault(x, 1, "commit;|;");
        Edge.is("one of each", Edge.work(x, "write a 0 0; remove a; open b; close b; commit; collect;"), 0);
        Edge.is("one of each", x.count(14), 6);
    }

    /** Term WORK: "(a page 0 to 3" */
    static void aPageOfALineIsZeroToThree() {
        FlashNodes x = Edge.with("blocks 2; slots 2; file a plain pages 1;");
        Edge.is("least", Edge.work(x, "write a 0 1;"), 0);
        Edge.is("it can be", x.judged(0), -1);
        Edge.is("most, though the FILE has but one", Edge.work(x, "write a 3 1;"), 0);
        Edge.is("it can't be", x.judged(0), 0);
        Edge.workFault(x, 4, "write a |4 1;");
        Edge.workFault(x, 4, "write a |9999 1;");
        Edge.workFault(x, 1, "write a |-1 1;");
    }

    /** Term WORK: "a value 0 to 255)" */
    static void aValueOfALineIsZeroTo255() {
        FlashNodes x = Edge.with("blocks 2; slots 2; file a plain pages 1;");
        Edge.is("least", Edge.work(x, "write a 0 0;"), 0);
        Edge.is("least", x.after(200, 0, 0), 0);
        Edge.is("most", Edge.work(x, "write a 0 255;"), 0);
        Edge.is("most", x.after(200, 0, 0), 255);
        Edge.workFault(x, 4, "write a 0 |256;");
        Edge.workFault(x, 1, "write a 0 |-1;");
        Edge.workFault(x, 1, "write a 0 |;");
        Edge.workFault(x, 1, "write a 0|");
    }

    /** Term WORK: "24 lines at most." */
    static void twentyFourLinesAtMost() {
        FlashNodes x = Edge.with(TWO);
        Edge.is("24", Edge.work(x, "commit;".repeat(24)), 0);
        Edge.is("24", x.count(14), 24);
        Edge.workFault(x, 5, "open a;".repeat(24) + "|open a;");
        Edge.workFault(x, 5, "open a;".repeat(24) + "|collect");
        Edge.is("23", Edge.work(x, "collect;".repeat(23)), 0);
        Edge.is("23", x.count(14), 23);
    }

    /**
     * Term NAME: "A NAME is another WORD than blocks, slots, reserve, file, pages, collects, write, remove, open,
     * close, commit, collect, the KINDS, not, and, or"
     */
    static void aNameIsAnotherWord() {
        FlashNodes x = Edge.with(TWO);
        String[] taken = {"blocks", "slots", "reserve", "file", "pages", "collects", "write", "remove", "open", "close",
            "commit", "collect", "plain", "log", "twin", "sync", "not", "and", "or"};
        for (String word : taken) {
            Edge.storeFault(1, "file |" + word + " plain pages 1;");
            Edge.workFault(x, 1, "open |" + word + ";");
            Edge.storeRight("file x" + word.substring(1) + " plain pages 1;");
        }
        for (String fact : new String[] {"erased", "live", "dirty", "journal"}) {
            Edge.storeRight("file " + fact + " plain pages 1; collects " + fact + ";");
            Edge.workFault(x, 2, "open |" + fact + ";");
        }
        Edge.storeFault(1, "file |1 plain pages 1;");
        Edge.storeFault(1, "file |; plain pages 1;");
        Edge.storeFault(1, "file|");
    }

    /** Term NAME: "no two FILES are alike." */
    static void noTwoFilesAreAlike() {
        Edge.storeFault(3, "file a plain pages 1; file |a log pages 2;");
        Edge.storeFault(3, "file abcdefgh log pages 1; file b log pages 1; file |abcdefgh log pages 1;");
        Edge.storeRight("file a log pages 1; file aa log pages 1; file ab log pages 1; file ba log pages 1;");
        FlashNodes x = Edge.with("blocks 2; slots 2; file abcdefgh log pages 1; file bbcdefgh log pages 1; "
            + "file abcdefgi log pages 1; file abcdefg log pages 1;", "write bbcdefgh 0 1; write abcdefgi 0 2;");
        Edge.is("the second", x.after(200, 1, 0), 1);
        Edge.is("the third", x.after(200, 2, 0), 2);
        Edge.is("not the first", x.after(200, 0, 0), -1);
    }

    // ---- E

    /** Term E: "no PART lies within 5 of not and ( )." */
    static void noPartLiesWithinFive() {
        Edge.storeRight("collects not not not not 1;");
        Edge.storeRight("collects ((((erased))));");
        Edge.storeRight("collects not (not (1)) + (((not 1)));");
        Edge.storeFault(5, "collects not not not not not |1;");
        Edge.storeFault(5, "collects (((((|erased)))));");
        Edge.storeFault(5, "collects not (not (not |1));");
        Edge.storeFault(5, "collects 1 + ((not (not |dirty)));");
    }

    /** Term E: "TEST: SUM, or SUM < SUM, or SUM = SUM" */
    static void aTestHasOneComparisonAtMost() {
        Edge.storeRight("collects 1 < 2;");
        Edge.storeRight("collects 1 = 2;");
        Edge.storeFault(1, "collects 1 < 2 |< 3;");
        Edge.storeFault(1, "collects 1 = 2 |= 3;");
        Edge.storeFault(1, "collects 1 < 2 |= 3;");
        Edge.storeRight("collects (1 < 2) < 3;");
        Edge.storeRight("collects 1 < 2 and 2 < 3 or 3 < 4;");
    }

    /** Term E: "PART: a NUMBER, a fact, not PART, ( E )" */
    static void aPartIsNeverEmpty() {
        Edge.storeFault(1, "collects |;");
        Edge.storeFault(1, "collects|");
        Edge.storeFault(1, "collects (|);");
        Edge.storeFault(1, "collects not |;");
        Edge.storeFault(1, "collects 1 + |;");
        Edge.storeFault(1, "collects 1 * |;");
        Edge.storeFault(1, "collects 1 < |;");
        Edge.storeFault(1, "collects 1 and |;");
        Edge.storeFault(1, "collects 1 or |;");
        Edge.storeFault(1, "collects |and 1;");
        Edge.storeFault(1, "collects |- 1;");
        Edge.storeFault(1, "collects |a;");
        Edge.storeFault(1, "collects (1|;");
        Edge.storeFault(1, "collects 1|);");
        Edge.storeFault(1, "collects (1 |2);");
    }

    /**
     * Term E: "E: TEST { and TEST or or TEST }, from the left" and "SUM: PRODUCT { + or - PRODUCT }; PRODUCT: PART { *
     * PART }"
     */
    static void testsAreJoinedFromTheLeft() {
        Edge.is("(1 or 1) and 0", Edge.lawIsSo("1 or 1 and 0"), false);
        Edge.is("(0 and 0) or 1", Edge.lawIsSo("0 and 0 or 1"), true);
        Edge.is("3 - 2 - 1", Edge.lawIsSo("3 - 2 - 1"), false);
        Edge.is("2 + 2 * 3 = 8", Edge.lawIsSo("2 + 2 * 3 = 8"), true);
        Edge.is("one TEST alone", Edge.lawIsSo("1"), true);
    }

    /** Term E: "Facts: erased, live, dirty (how many SLOTS are so), journal (how long it is)." */
    static void factsCanBeNothing() {
        Edge.is("all four", Edge.lawIsSo("erased = 3 and live = 1 and dirty = 2 and journal = 3"), true);
        for (String law : new String[] {"live = 0", "journal = 0", "live + journal = 0", "dirty = 1", "erased = 2"}) {
            FlashNodes x = Edge.with("blocks 3; slots 1; file a plain pages 1; collects " + law + ";");
            x.cut(1);
            Edge.is("torn", x.write(0, 0, 1), -2);
            x.mount();
            Edge.is(law, x.write(0, 0, 1), 1);
            Edge.is(law, x.block(0, 3), 1);
        }
        FlashNodes x = Edge.with("blocks 2; slots 1; reserve 8; file a plain pages 1; collects erased = 0;");
        x.cut(2);
        x.commit();
        Edge.is("full", x.commit(), -2);
        x.mount();
        Edge.is("none is ERASED", x.count(3), 0);
        Edge.is("no room at last", x.write(0, 0, 1), -1);
        Edge.is("erased = 0", x.count(3), 1);
    }

    /** Term E: "Of not, and, or, < and = comes 1 or 0; what is not 0 is so" */
    static void whatIsNotZeroIsSo() {
        String[] so = {"not 0 = 1", "not 7 = 0", "not (0 - 1) = 0", "(2 and 4) = 1", "(0 and 4) = 0", "(4 and 0) = 0",
            "(2 or 4) = 1", "(0 or 4) = 1", "(4 or 0) = 1", "(0 or 0) = 0", "(1 < 2) = 1", "(2 < 2) = 0", "(3 < 2) = 0",
            "(2 = 2) = 1", "(2 = 3) = 0", "0 - 1", "9999", "0 - 1 and 1", "0 or 0 - 1"};
        for (String law : so) {
            Edge.is(law, Edge.lawIsSo(law), true);
        }
        for (String law : new String[] {"0", "not 1", "not (0 - 1)", "0 and 0", "0 or 0", "1 < 1", "1 - 1", "3 - erased"}) {
            Edge.is(law, Edge.lawIsSo(law), false);
        }
    }

    /** Term E: "ints wrap." */
    static void intsWrap() {
        String[] so = {"8192 * 8192 * 32 < 0", "8192 * 8192 * 64 = 0",
            "0 < 8192 * 8192 * 32 - 1", "8192 * 8192 * 16 + 8192 * 8192 * 16 < 0", "0 - 8192 * 8192 * 32 < 0",
            "0 < 0 - 8192 * 8192 * 32 - 1", "9999 * 9999 * 9999 < 0", "8192 * 8192 * 32 - 1 + 1 < 0",
            "8192 * 8192 * 32 + 8192 * 8192 * 32 = 0"};
        for (String law : so) {
            Edge.is(law, Edge.lawIsSo(law), true);
        }
        Edge.is("2 to the 32nd is nothing", Edge.lawIsSo("8192 * 8192 * 64"), false);
        Edge.is("the greatest int is not below 0", Edge.lawIsSo("8192 * 8192 * 32 - 1 < 0"), false);
    }

    /** Term E: "Without collects: 0." */
    static void withoutCollectsNothingIsCollected() {
        String store = "blocks 3; slots 2; file a plain pages 1; ";
        FlashNodes x = Edge.with(store);
        for (int i = 0; i < 5; i++) {
            x.write(0, 0, i);
        }
        Edge.is("collects", x.block(0, 3) + x.block(1, 3) + x.block(2, 3), 0);
        Edge.is("a law", Edge.store(x, store + "collects 1;"), 0);
        for (int turn = 0; turn < 2; turn++) {
            Edge.is("no law behind a law", Edge.store(x, store), 0);
            for (int i = 0; i < 5; i++) {
                x.write(0, 0, i);
            }
            Edge.is("collects", x.block(0, 3) + x.block(1, 3) + x.block(2, 3), 0);
        }
    }

    // ---- FAULTS

    /** Term FAULTS: "the place (from 0) of a token, the end being one at the text's length" */
    static void theEndIsATokenAtTheTextsLength() {
        Edge.storeFault(1, "blocks|");
        Edge.storeFault(1, "blocks 1|");
        Edge.storeFault(1, "blocks 1  \n |");
        Edge.storeFault(1, "collects (|");
        Edge.storeFault(1, "file a plain pages 1|");
        Edge.storeFault(1, "|a");
        FlashNodes x = new FlashNodes();
        Edge.is("a full TAPE", Edge.store(x, ("blocks" + BLANKS).substring(0, 1000)), 1 + 16 * 1000);
        Edge.is("a text cut at 1,000", Edge.store(x, BLANKS.substring(0, 991) + "blocks 1;"), 0);
        Edge.is("a text cut at 1,000", Edge.store(x, BLANKS.substring(0, 992) + "blocks 1;"), 1 + 16 * 1000);
        Edge.workFault(x, 1, "commit|");
        Edge.workFault(x, 1, "open |");
        Edge.is("an empty text has none", Edge.work(x, ""), 0);
    }

    /** Term FAULTS: "of the first token from the left that is wrong the least" */
    static void theFirstWrongTokenCounts() {
        Edge.storeFault(4, "blocks |7; blocks 1; #");
        Edge.storeFault(1, "blocks 1 |slots 7;");
        Edge.storeFault(3, "blocks 1; |blocks #");
        Edge.storeFault(1, "file |open disc page 5");
        Edge.storeFault(1, "collects not not not not |* not 1;");
        FlashNodes x = Edge.with(TWO);
        Edge.workFault(x, 2, "write |c 4 256;");
        Edge.workFault(x, 4, "write a |4 256;");
        Edge.workFault(x, 1, "commit |commit; " + "open a;".repeat(30));
    }

    /** Term FAULTS: "that is wrong the least: 1 it is none, or can't stand there" */
    static void ofTwoFaultsOfATokenTheLeast() {
        FlashNodes x = Edge.with(TWO);
        Edge.storeFault(1, "blocks |12345;");
        Edge.workFault(x, 1, "write a 0 |12345;");
        Edge.workFault(x, 1, "open |not;");
        Edge.workFault(x, 1, "open |abcdefghi;");
        Edge.storeFault(1, "file a log pages 1; file |log log pages 1;");
        Edge.storeFault(1, "collects not not not not not |;");
        Edge.storeFault(1, "collects (((((|);");
        Edge.storeFault(1, "collects not not not not not |10000;");
        Edge.storeFault(1, "collects not not not not not |and 1;");
        Edge.workFault(x, 1, "open a;".repeat(24) + "|slots");
        Edge.workFault(x, 1, "open a;".repeat(24) + "|;");
        Edge.storeFault(1, fiveFiles() + "|files");
    }

    private static String fiveFiles() {
        StringBuilder all = new StringBuilder();
        for (char c = 'a'; c <= 'e'; c++) {
            all.append("file ").append(c).append(" log pages 1; ");
        }
        return all.toString();
    }

    /** Term FAULTS: "1 it is none, or can't stand there" */
    static void whatCantStandThere() {
        for (String first : new String[] {"|;", "|pages 1;", "|write a 0 0;", "|commit;", "|plain;", "|a;", "|1;", "|not 1;", "|(",
            "|#", "|Blocks 1;"}) {
            Edge.storeFault(1, first);
        }
        FlashNodes x = Edge.with(TWO);
        for (String first : new String[] {"|;", "|blocks 1;", "|collects 1;", "|file c log pages 1;", "|a;", "|1;", "|#"}) {
            Edge.workFault(x, 1, first);
        }
        Edge.workFault(x, 1, "commit |a;");
        Edge.workFault(x, 1, "open a |b;");
        Edge.workFault(x, 1, "write a |b;");
        Edge.workFault(x, 1, "write a 0 1 |2;");
        Edge.workFault(x, 1, "open |1;");
        Edge.workFault(x, 1, "open |close;");
        Edge.storeFault(1, "file |file log pages 1;");
        Edge.storeFault(1, "collects |;");
        Edge.storeFault(1, "collects (|);");
    }

    /** Term FAULTS: "2 a NAME of no FILE (behind write, remove, open, close) told" */
    static void aNameOfNoFile() {
        FlashNodes x = Edge.with(TWO);
        for (String act : new String[] {"write", "remove", "open", "close"}) {
            Edge.workFault(x, 2, act + " |c;");
            Edge.workFault(x, 2, act + " |ab 0 0;");
            Edge.workFault(new FlashNodes(), 2, act + " |a;");
        }
        for (int turn = 0; turn < 3; turn++) {
            Edge.is("another STORE", Edge.store(x, "file c plain pages 1;"), 0);
            Edge.workFault(x, 2, "open |a;");
            Edge.workFault(x, 2, "open |b;");
            Edge.is("told", Edge.work(x, "open c;"), 0);
        }
    }

    /** Term FAULTS: "3 a NAME told already; blocks, slots, reserve, collects a second time" */
    static void whatIsToldAlready() {
        Edge.storeFault(3, TWO + "file |a plain pages 1;");
        Edge.storeFault(3, TWO + "file |b");
        Edge.storeFault(3, "slots 1; |slots");
        Edge.storeFault(3, "reserve 1; blocks 1; |reserve");
        Edge.storeFault(3, "collects 1; |collects #");
        Edge.storeFault(3, "blocks 1;|blocks");
    }

    /** Term FAULTS: "4 a NUMBER that is not as told" */
    static void aNumberThatIsNotAsTold() {
        Edge.storeFault(4, "slots |0000");
        Edge.storeFault(4, "reserve |9");
        Edge.storeFault(4, "file a log pages |9999");
        Edge.storeRight("collects 9999 < 0;");
        FlashNodes x = Edge.with(TWO);
        Edge.workFault(x, 4, "write a |4");
        Edge.workFault(x, 4, "write a 3 |9999");
    }

    /**
     * Term FAULTS: "5 one too many: the word file of a sixth, the first word of a 25th line of a WORK; not, or a PART,
     * within 5 others."
     */
    static void oneTooMany() {
        Edge.storeFault(5, fiveFiles() + "|file");
        Edge.storeFault(5, fiveFiles() + "|file file #");
        FlashNodes x = Edge.with(TWO);
        for (String act : new String[] {"write", "remove", "open", "close", "commit", "collect"}) {
            Edge.workFault(x, 5, "collect;".repeat(24) + "|" + act);
        }
        Edge.storeFault(5, "collects not not not not not |not 1;");
        Edge.storeFault(5, "collects not not not not not |(");
        Edge.storeFault(5, "collects not not not not not |9999;");
        Edge.storeFault(5, "collects not not not not not |live;");
        Edge.storeFault(5, "collects (((((|not 1)))));");
        Edge.storeFault(5, "collects (((((|(");
        Edge.storeFault(5, "collects ((((1 + not |1))));");
    }

    // ---- what holds then

    /**
     * Term STORE: "Without a FAULT a STORE is the STORE from then on: all SLOTS ERASED, no BLOCK erased once yet, no
     * HEAD, no page MAPPED, no FILE open, SEQ 0, no commit, power on, no CUT, no WORK, nothing SEEN, no MARK is there."
     */
    static void aStoreStartsAnew() {
        String store = "blocks 2; slots 2; file a plain pages 1; file b plain pages 2;";
        FlashNodes x = Edge.with(store, "commit;");
        x.commit();
        x.commit();
        x.write(0, 0, 1);
        Edge.is("a BLOCK is erased", x.collect(), 0);
        x.open(0);
        x.remove(0);
        x.open(1);
        x.see(0, 0, 1, true);
        x.mark(0, false);
        x.mark(1, false);
        x.cut(20);
        Edge.is("the same once more", Edge.store(x, store), 0);
        Edge.countsAre(x, 2, 2, 2, 4, 0, 0, 0, 0, 0, 1, 0, 1, 0, -1, 0, 0, 0);
        Edge.is("erased", x.block(0, 3) + x.block(1, 3), 0);
        Edge.is("open", x.file(0, 3) + x.file(1, 3) + x.file(0, 4), 0);
        Edge.is("mark 0", x.mark(0, true), false);
        Edge.is("mark 1", x.mark(1, true), false);
        Edge.cutOff(x);
        Edge.is("the power is off", x.count(11), 0);
        Edge.is("the same once more", Edge.store(x, store), 0);
        Edge.countsAre(x, 2, 2, 2, 4, 0, 0, 0, 0, 0, 1, 0, 1, 0, -1, 0, 0, 0);
        Edge.is("the first SEQ", x.write(0, 0, 1), 1);
    }

    /** Term WORK: "A WORK is the WORK." */
    static void aWorkTakesTheOthersPlace() {
        FlashNodes x = Edge.with("blocks 2; slots 2; file a plain pages 1;", "commit; commit; commit;");
        Edge.is("three", x.judged(1), 3);
        Edge.is("a WORK", Edge.work(x, "write a 0 9;"), 0);
        Edge.is("one line", x.count(14), 1);
        Edge.is("one", x.judged(1), 1);
        Edge.is("one", x.after(2, 0, 0), 9);
    }

    /** Term STORE: "At first: nothing (no BLOCKS; power on)." */
    static void atFirstThereIsNothing() {
        FlashNodes x = new FlashNodes();
        Edge.countsAre(x, 0, 0, 0, 0, 0, 0, 0, 0, 0, 1, 0, 1, 0, -1, 0, 0, 0);
        Edge.is("commit", x.commit(), -1);
        Edge.is("collect", x.collect(), -1);
        Edge.is("write", x.write(0, 0, 0), -1);
        Edge.is("mount", x.mount(), 0);
        Edge.is("a cut can be told", x.cut(1), true);
    }

    // ---- the promises of texts

    /** Promise 1: "Nothing." and "The constants: `NONE = -1`: None." */
    static void promise1ANewObjectHoldsNothing() {
        Edge.with("blocks 6; slots 6;").commit();
        FlashNodes x = new FlashNodes();
        Edge.countsAre(x, 0, 0, 0, 0, 0, 0, 0, 0, 0, 1, 0, 1, 0, -1, 0, 0, 0);
        Edge.is("NONE", FlashNodes.NONE, -1);
        Edge.is("a MARK", x.mark(0, true), false);
        Edge.is("another MARK", x.mark(1, true), false);
        Edge.is("wear", x.wear(), 0);
    }

    /**
     * Promise 2: "Up to 24 signs come behind the TAPE: the bytes of a, b, c, of each the highest first; others than 10
     * and 32 .. 126, and what is beyond 1,000, are left out: how many there are."
     */
    static void promise2NoneToTwentyFourSigns() {
        FlashNodes x = new FlashNodes();
        Edge.is("none", x.feed(0, 0, 0), 0);
        Edge.is("none", x.feed(-1L, Long.MIN_VALUE, 0x1F7F80FF090B0D00L), 0);
        Edge.is("all", x.feed(0x2020202020202020L, 0x2020202020202020L, 0x2020202020202020L), 24);
        Edge.is("the first and the last byte", x.feed(0x0A00000000000000L, 0, 0x20), 26);
        Edge.is("how many there are", x.feed(0, 0x6100000000000062L, 0), 28);
        Edge.is("they stand behind", x.store(), 1 + 16 * 26);
        x.feed(0x626C6F636B732036L, 0x3B736C6F74732033L, 0x3B72657365727665L);
        Edge.is("all 24", x.feed(0x2031000000003B0AL, 0, 0), 28);
        Edge.is("the highest first", x.store(), 0);
        Edge.is("the highest first", x.count(0) * 10 + x.count(1), 63);
        Edge.feed(x, BLANKS.substring(0, 990));
        Edge.is("what is beyond", x.feed(0x2020202020202020L, 0x2020202020202020L, 0x2020202020202020L), 1000);
        Edge.is("what is beyond", x.feed(0x2020202020202020L, 0, 0), 1000);
        Edge.is("left out", x.store(), 0);
    }

    /** Promise 3: "The TAPE is read as a STORE: 0, or its FAULT (all stays then)." */
    static void promise3AllStaysWithAFault() {
        for (String wrong : new String[] {"blocks 1; slots 1; reserve 1; file z log pages 1; collects 1; #", "#", "blocks 7;"}) {
            FlashNodes x = Edge.with("blocks 3; slots 2; file a plain pages 2;", "open a;");
            x.commit();
            x.write(0, 1, 9);
            x.write(0, 1, 8);
            x.open(0);
            x.see(0, 0, 1, true);
            x.mark(1, false);
            x.cut(7);
            Edge.is("a FAULT", Edge.store(x, wrong) > 0, true);
            Edge.countsAre(x, 3, 2, 1, 3, 2, 1, 3, 1, 2, 1, 1, 1, 7, 1, 1, 1, 0);
            Edge.is("the value", x.says(0, 1), 8);
            Edge.is("the FILE", x.file(0, 1) * 10 + x.file(0, 3), 21);
            Edge.is("its NAME", Edge.work(x, "open a; close a;"), 0);
            Edge.workFault(x, 2, "open |z;");
            Edge.is("no law", x.write(0, 1, 7), 4);
            Edge.is("no law", x.block(0, 3), 0);
            Edge.is("the MARK", x.mark(1, true), true);
        }
    }

    /** Promise 4: "The TAPE is read as a WORK, likewise." */
    static void promise4AllStaysWithAFault() {
        FlashNodes x = Edge.with("blocks 3; slots 2; file a plain pages 2;", "write a 0 5; open a;");
        Edge.is("as told", x.after(2, 0, 0), 5);
        for (String wrong : new String[] {"commit; commit; commit; #", "open z;", "write a 0 256;", "commit;".repeat(25)}) {
            Edge.is("a FAULT", Edge.work(x, wrong) > 0, true);
            Edge.is("lines", x.count(14), 2);
            Edge.is("the WORK", x.judged(1), 1);
            Edge.is("the WORK", x.after(2, 0, 0), 5);
        }
        x.write(0, 1, 3);
        x.see(0, 0, 5, true);
        x.cut(9);
        Edge.is("right", Edge.work(x, "commit;"), 0);
        Edge.countsAre(x, 3, 2, 1, 5, 1, 0, 1, 0, 1, 1, 1, 1, 9, 0, 1, 1, 0);
    }
}
