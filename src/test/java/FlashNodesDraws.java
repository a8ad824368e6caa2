import java.util.NoSuchElementException;
import java.util.Random;
import java.util.function.Predicate;

/** Works by chance, with fixed seeds: FlashNodes and FlashModel have to answer every call alike. */
public final class FlashNodesDraws {
    private static final String[] NAMES = {"a", "bb", "live", "erased", "zzzzzzzz", "q"};
    private static final String[] KINDS = {"plain", "log", "twin", "sync"};
    private static final String[] STRAY = {"file", "pages", "not", "and", "or", "(", ")", "<", "=", "+", "-", "*", ";",
        "0", "7", "12345", "9999", "toolongword", "#", "A", "dirty", "write", "collect", "plain", "  ", "\n", "256", "x"};

    /** Each object starts with all changes so far, and has 512 calls in all. */
    private static final int MOST_CHANGES = 350;
    private static final int MOST_AHEAD_OF_TEXTS = 220;

    private final Random random;
    private final Renewed real = new Renewed();
    private final FlashModel model = new FlashModel();
    private final StringBuilder calls = new StringBuilder();

    private FlashNodesDraws(long seed) {
        random = new Random(seed);
    }

    private boolean does(Predicate<FlashNodes> call) {
        return real.does(x -> call.test(x) ? 1 : 0) == 1;
    }

    private int below(int m) {
        return random.nextInt(m);
    }

    private void same(String call, long got, long want) {
        calls.append(call).append(" -> ").append(got).append('\n');
        if (got != want) {
            throw new IllegalStateException("FlashNodes " + got + ", FlashModel " + want + " in\n" + calls);
        }
    }

    private void same(String call, boolean got, boolean want) {
        same(call, got ? 1 : 0, want ? 1 : 0);
    }

    private void feed(String text) {
        calls.append("text: ").append(text).append('\n');
        for (int i = 0; i < text.length(); i += 24) {
            long[] v = new long[3];
            for (int j = 0; j < 24; j++) {
                v[j / 8] = v[j / 8] << 8 | (i + j < text.length() ? text.charAt(i + j) : 0);
            }
            same("feed(" + v[0] + "," + v[1] + "," + v[2] + ")", real.does(x -> x.feed(v[0], v[1], v[2])),
                model.feed(v[0], v[1], v[2]));
        }
    }

    private String rule(int depth) {
        StringBuilder s = new StringBuilder();
        int joints = below(depth == 0 ? 4 : 3);
        for (int i = 0; i <= joints; i++) {
            if (i > 0) {
                s.append(new String[] {" and ", " or ", " < ", "=", "+", " - ", "*"}[below(7)]);
            }
            int kind = below(7);
            if (kind == 0 && depth < 6) {
                s.append("not ").append(below(3) == 0 ? "(" + rule(depth + 2) + ")" : "" + below(4));
            } else if (kind == 1 && depth < 6) {
                s.append("(").append(rule(depth + 1)).append(")");
            } else if (kind < 5) {
                s.append(new String[] {"erased", "live", "dirty", "journal"}[below(4)]);
            } else {
                s.append(below(5) == 0 ? below(10000) : below(12));
            }
        }
        return s.toString();
    }

    private String aStore() {
        StringBuilder s = new StringBuilder();
        s.append("blocks ").append(below(12) == 0 ? below(9) : 2 + below(5)).append(below(2) == 0 ? ";" : " ; ");
        s.append("slots ").append(below(12) == 0 ? below(9) : 2 + below(5)).append(";");
        if (below(3) > 0) {
            s.append("reserve ").append(below(25) == 0 ? 9 : below(4)).append(";\n");
        }
        int files = below(15) == 0 ? 6 : 1 + below(5);
        int shift = below(2);
        for (int i = 0; i < files; i++) {
            String name = below(30) == 0 ? NAMES[below(6)] : NAMES[(i + shift) % 6];
            s.append("file ").append(name).append(" ").append(KINDS[below(4)]);
            s.append(" pages ").append(below(30) == 0 ? below(7) : 1 + below(4)).append(";");
        }
        if (below(3) > 0) {
            s.append("collects ");
            int kind = below(5);
            s.append(kind == 0 ? "1" : kind == 1 ? "dirty" : kind == 2 ? "erased < " + (3 + below(10)) : rule(0));
            s.append(";");
        }
        return spoiled(s, 12);
    }

    private String spoiled(StringBuilder s, int seldom) {
        if (below(seldom) == 0 && s.length() > 0) {
            int at = below(s.length() + 1);
            int kind = below(3);
            if (kind == 0) {
                s.insert(at, STRAY[below(STRAY.length)]);
            } else if (kind == 1) {
                s.insert(at, " " + STRAY[below(STRAY.length)] + " ");
            } else {
                s.delete(Math.min(at, s.length() - 1), Math.min(s.length(), at + 1 + below(6)));
            }
        }
        return s.toString();
    }

    private String aWork() {
        StringBuilder s = new StringBuilder();
        int lines = below(20) == 0 ? 25 : below(25);
        int names = Math.max(1, model.store.names.size());
        for (int i = 0; i < lines; i++) {
            String name = model.store.names.isEmpty() || below(60) == 0 ? NAMES[below(6)]
                : model.store.names.get(below(names));
            int kind = below(16);
            if (kind < 8) {
                s.append("write ").append(name).append(' ').append(below(300) == 0 ? 4 : below(3)).append(' ');
                s.append(below(300) == 0 ? 256 : below(4)).append(";");
            } else if (kind < 10) {
                s.append("remove ").append(name).append(";");
            } else if (kind == 10) {
                s.append("open ").append(name).append(" ;");
            } else if (kind == 11) {
                s.append("close ").append(name).append(" ;");
            } else {
                s.append(kind < 14 ? "commit;" : "collect;\n");
            }
        }
        return spoiled(s, 12);
    }

    private int aFile() {
        return below(20) == 0 ? below(9) - 2 : below(Math.max(1, model.store.names.size()));
    }

    private int aPage() {
        return below(20) == 0 ? below(8) - 2 : below(3);
    }

    private void change() {
        int f = aFile();
        int p = aPage();
        int v = below(20) == 0 ? below(300) - 10 : below(256);
        int kind = below(40);
        if (kind < 16) {
            same("write(" + f + "," + p + "," + v + ")", real.does(x -> x.write(f, p, v)), model.now.write(f, p, v));
        } else if (kind < 19) {
            same("remove(" + f + ")", real.does(x -> x.remove(f)), model.now.remove(f));
        } else if (kind < 21) {
            same("open(" + f + ")", does(x -> x.open(f)), model.now.open(f));
        } else if (kind < 23) {
            same("close(" + f + ")", does(x -> x.close(f)), model.now.close(f));
        } else if (kind < 27) {
            same("commit()", real.does(x -> x.commit()), model.now.commit());
        } else if (kind < 31) {
            same("collect()", real.does(x -> x.collect()), model.now.collect());
        } else if (kind < 33) {
            int n = below(8) == 0 ? below(24) - 1 : 1 + below(6);
            same("cut(" + n + ")", does(x -> x.cut(n)), model.cut(n));
        } else if (kind < 36) {
            if (!model.now.power || below(4) == 0) {
                same("mount()", real.does(x -> x.mount()), model.now.mount());
            }
        } else if (kind < 38) {
            int m = below(10) == 0 ? below(5) - 2 : below(2);
            boolean back = below(2) == 0;
            same("mark(" + m + "," + back + ")", does(x -> x.mark(m, back)), model.mark(m, back));
        } else {
            boolean is = below(3) > 0;
            int w = below(4) - 1;
            same("see(" + f + "," + p + "," + w + "," + is + ")", does(x -> x.see(f, p, w, is)), model.see(f, p, w, is));
        }
    }

    private void lookAtAll() {
        for (int i = -1; i <= 17; i++) {
            same("count(" + i + ")", real.asked().count(i), model.count(i));
        }
        for (int slot = -1; slot <= model.now.slots.length; slot++) {
            for (int what = -1; what <= 6; what++) {
                same("slot(" + slot + "," + what + ")", real.asked().slot(slot, what), model.slot(slot, what));
            }
        }
        for (int block = -1; block <= model.store.blocks; block++) {
            for (int what = -1; what <= 5; what++) {
                same("block(" + block + "," + what + ")", real.asked().block(block, what), model.block(block, what));
            }
        }
        for (int f = -1; f <= model.store.names.size(); f++) {
            for (int what = -1; what <= 5; what++) {
                same("file(" + f + "," + what + ")", real.asked().file(f, what), model.file(f, what));
            }
            for (int p = -1; p <= 4; p++) {
                same("says(" + f + "," + p + ")", real.asked().says(f, p), model.says(f, p));
                same("may(" + f + "," + p + ")", real.asked().may(f, p), model.may(f, p));
                same("copies(" + f + "," + p + ")", real.asked().copies(f, p), model.copies(f, p));
                same("chain(" + f + "," + p + ")", real.asked().chain(f, p), model.chain(f, p));
            }
        }
        lookAtTheWhole();
    }

    private void lookAtTheWhole() {
        same("spare()", real.asked().spare(), model.spare());
        same("pick()", real.asked().pick(), model.now.pick());
        same("gain()", real.asked().gain(), model.gain());
        for (int i = -1; i <= 37; i++) {
            same("rounds(" + i + ")", real.asked().rounds(i), model.rounds(i));
        }
        same("found()", real.asked().found(), model.now.mountMap().size());
        same("agrees()", real.asked().agrees(), model.agrees());
        same("loses()", real.asked().loses(), model.loses());
        same("wear()", real.asked().wear(), model.wear());
        same("oldest()", real.asked().oldest(), model.oldest());
        same("hot()", real.asked().hot(), model.hot());
        for (int i = -1; i <= model.count(4); i++) {
            same("lives(" + i + ")", livesReal(i), livesModel(i));
        }
        int seed = below(20) == 0 ? below(12000) - 1000 : below(10000);
        int acts = below(20) == 0 ? below(120) - 10 : 1 + below(99);
        for (int what = -1; what <= 3; what++) {
            same("ages(" + seed + "," + acts + "," + what + ")", real.asked().ages(seed, acts, what),
                model.ages(seed, acts, what));
        }
    }

    private int livesReal(int i) {
        try {
            return real.asked().lives(i);
        } catch (NoSuchElementException e) {
            return -7;
        }
    }

    private int livesModel(int i) {
        try {
            return model.lives(i);
        } catch (NoSuchElementException e) {
            return -7;
        }
    }

    private void lookAtTheWork() {
        for (int what = -1; what <= 4; what++) {
            same("judged(" + what + ")", real.asked().judged(what), model.judged(what));
        }
        same("ends()", real.asked().ends(), model.ends());
        same("halves()", real.asked().halves(), model.halves());
        same("cuts()", real.asked().cuts(), model.fitting().size());
        same("look()", real.asked().look(), model.look());
        for (int i = 0; i < 12; i++) {
            int put = below(10) == 0 ? below(210) - 2 : 1 + below(Math.max(1, model.judged(1) + 2));
            int f = aFile();
            int p = aPage();
            same("after(" + put + "," + f + "," + p + ")", real.asked().after(put, f, p), model.after(put, f, p));
        }
    }

    private void texts() {
        feed(aStore());
        if (below(30) == 0) {
            feed(aStore().repeat(1 + below(6)));
        }
        same("store()", real.does(x -> x.store()), model.store());
        feed(aWork());
        same("work()", real.does(x -> x.work()), model.work());
    }

    private void run() {
        int turns = 1 + below(3);
        for (int turn = 0; turn < turns && real.changes() < MOST_AHEAD_OF_TEXTS; turn++) {
            texts();
            lookAtTheWork();
            int changes = 20 + below(60);
            for (int i = 0; i < changes && real.changes() < MOST_CHANGES; i++) {
                change();
                if (below(8) == 0) {
                    lookAtAll();
                }
                if (below(60) == 0) {
                    feed(aWork());
                    same("work()", real.does(x -> x.work()), model.work());
                }
                if (below(30) == 0) {
                    lookAtTheWork();
                }
            }
            lookAtAll();
            lookAtTheWork();
        }
    }

    public static void main(String[] args) {
        int runs = args.length > 0 ? Integer.parseInt(args[0]) : 1500;
        long from = args.length > 1 ? Long.parseLong(args[1]) : 1;
        int failed = 0;
        for (long seed = from; seed < from + runs && failed < 3; seed++) {
            try {
                new FlashNodesDraws(seed).run();
            } catch (IllegalStateException e) {
                failed++;
                String told = e.getMessage();
                System.out.println("seed " + seed + ": " + told.substring(0, Math.min(80, told.length())) + "\n..."
                    + told.substring(Math.max(0, told.length() - 3000)));
            }
        }
        System.out.println(failed == 0 ? runs + " works by chance are answered alike" : failed + " works are not");
        if (failed != 0) {
            System.exit(1);
        }
    }
}
