import java.util.ArrayList;
import java.util.Arrays;
import java.util.HashMap;
import java.util.HashSet;
import java.util.List;
import java.util.Map;
import java.util.NoSuchElementException;
import java.util.Set;
import java.util.TreeMap;
import java.util.TreeSet;

/**
 * The document told a second time, as plainly as can be and by other means: nothing is kept that can be looked up,
 * a power cut is an exception, and what a cut leads to is found by really cutting and mounting.
 */
final class FlashModel {
    static final List<String> KINDS = List.of("plain", "log", "twin", "sync");
    static final List<String> FACTS = List.of("erased", "live", "dirty", "journal");
    static final Set<String> TAKEN = new HashSet<>(Arrays.asList("blocks", "slots", "reserve", "file", "pages",
        "collects", "write", "remove", "open", "close", "commit", "collect", "plain", "log", "twin", "sync", "not",
        "and", "or"));

    // ---- texts

    static final class Token {
        final char type;
        final String text;
        final int place;

        Token(char type, String text, int place) {
            this.type = type;
            this.text = text;
            this.place = place;
        }
    }

    static final class Fault extends RuntimeException {
        final int code;

        Fault(int kind, Token token) {
            super("fault", null, false, false);
            code = kind + 16 * token.place;
        }
    }

    static List<Token> tokens(String text) {
        List<Token> all = new ArrayList<>();
        int i = 0;
        while (i < text.length()) {
            char c = text.charAt(i);
            int j = i + 1;
            if (c == ' ' || c == '\n') {
                i++;
                continue;
            }
            char type = 'x';
            if (c >= 'a' && c <= 'z') {
                while (j < text.length() && text.charAt(j) >= 'a' && text.charAt(j) <= 'z') {
                    j++;
                }
                type = j - i > 8 ? 'x' : 'w';
            } else if (c >= '0' && c <= '9') {
                while (j < text.length() && text.charAt(j) >= '0' && text.charAt(j) <= '9') {
                    j++;
                }
                type = j - i > 4 ? 'x' : 'n';
            } else if ("()<=+-*;".indexOf(c) >= 0) {
                type = 's';
            }
            all.add(new Token(type, text.substring(i, j), i));
            i = j;
        }
        all.add(new Token('e', "", text.length()));
        return all;
    }

    interface Expr {
        int of(int[] facts);
    }

    static final class Parser {
        final List<Token> tokens;
        int at;

        Parser(String text) {
            tokens = FlashModel.tokens(text);
        }

        Token now() {
            return tokens.get(at);
        }

        boolean is(String text) {
            return now().type != 'x' && now().type != 'e' && now().text.equals(text);
        }

        void expect(String text) {
            if (!is(text)) {
                throw new Fault(1, now());
            }
            at++;
        }

        int number(int least, int most) {
            if (now().type != 'n') {
                throw new Fault(1, now());
            }
            int n = Integer.parseInt(now().text);
            if (n < least || n > most) {
                throw new Fault(4, now());
            }
            at++;
            return n;
        }

        String name() {
            if (now().type != 'w' || TAKEN.contains(now().text)) {
                throw new Fault(1, now());
            }
            return now().text;
        }

        Expr all(int depth) {
            Expr left = test(depth);
            while (is("and") || is("or")) {
                boolean and = is("and");
                at++;
                Expr a = left;
                Expr b = test(depth);
                left = f -> and ? (a.of(f) != 0 & b.of(f) != 0 ? 1 : 0) : (a.of(f) != 0 | b.of(f) != 0 ? 1 : 0);
            }
            return left;
        }

        Expr test(int depth) {
            Expr a = sum(depth);
            if (is("<")) {
                at++;
                Expr b = sum(depth);
                return f -> a.of(f) < b.of(f) ? 1 : 0;
            }
            if (is("=")) {
                at++;
                Expr b = sum(depth);
                return f -> a.of(f) == b.of(f) ? 1 : 0;
            }
            return a;
        }

        Expr sum(int depth) {
            Expr left = product(depth);
            while (is("+") || is("-")) {
                int sign = is("+") ? 1 : -1;
                at++;
                Expr a = left;
                Expr b = product(depth);
                left = f -> a.of(f) + sign * b.of(f);
            }
            return left;
        }

        Expr product(int depth) {
            Expr left = part(depth);
            while (is("*")) {
                at++;
                Expr a = left;
                Expr b = part(depth);
                left = f -> a.of(f) * b.of(f);
            }
            return left;
        }

        Expr part(int depth) {
            boolean fact = now().type == 'w' && FACTS.contains(now().text);
            if (now().type != 'n' && !fact && !is("not") && !is("(")) {
                throw new Fault(1, now());
            }
            if (depth == 5) {
                throw new Fault(5, now());
            }
            Token token = now();
            at++;
            if (token.type == 'n') {
                int n = Integer.parseInt(token.text);
                return f -> n;
            }
            if (fact) {
                int which = FACTS.indexOf(token.text);
                return f -> f[which];
            }
            if (token.text.equals("not")) {
                Expr inner = part(depth + 1);
                return f -> inner.of(f) == 0 ? 1 : 0;
            }
            Expr inner = all(depth + 1);
            expect(")");
            return inner;
        }
    }

    static final class Store {
        int blocks;
        int slots;
        int reserve;
        Expr rule = f -> 0;
        final List<String> names = new ArrayList<>();
        final List<Integer> kinds = new ArrayList<>();
        final List<Integer> pages = new ArrayList<>();

        static Store read(String text) {
            Store s = new Store();
            Parser p = new Parser(text);
            Set<String> told = new HashSet<>();
            while (p.now().type != 'e') {
                Token head = p.now();
                if (head.type != 'w' || !List.of("blocks", "slots", "reserve", "collects", "file").contains(head.text)) {
                    throw new Fault(1, head);
                }
                if (head.text.equals("file")) {
                    s.readFile(p, head);
                } else {
                    if (!told.add(head.text)) {
                        throw new Fault(3, head);
                    }
                    p.at++;
                    switch (head.text) {
                        case "blocks" -> s.blocks = p.number(1, 6);
                        case "slots" -> s.slots = p.number(1, 6);
                        case "reserve" -> s.reserve = p.number(0, 8);
                        default -> s.rule = p.all(0);
                    }
                }
                p.expect(";");
            }
            return s;
        }

        private void readFile(Parser p, Token head) {
            if (names.size() == 5) {
                throw new Fault(5, head);
            }
            p.at++;
            String name = p.name();
            if (names.contains(name)) {
                throw new Fault(3, p.now());
            }
            p.at++;
            int kind = p.now().type == 'w' ? KINDS.indexOf(p.now().text) : -1;
            if (kind < 0) {
                throw new Fault(1, p.now());
            }
            p.at++;
            p.expect("pages");
            int n = p.number(1, 4);
            names.add(name);
            kinds.add(kind);
            pages.add(n);
        }

        boolean hasFile(int f) {
            return f >= 0 && f < names.size();
        }

        boolean hasPage(int f, int p) {
            return hasFile(f) && p >= 0 && p < pages.get(f);
        }
    }

    /** act, file, page, value */
    static List<int[]> readWork(String text, Store store) {
        List<String> acts = List.of("write", "remove", "open", "close", "commit", "collect");
        List<int[]> lines = new ArrayList<>();
        Parser p = new Parser(text);
        while (p.now().type != 'e') {
            int act = p.now().type == 'w' ? acts.indexOf(p.now().text) : -1;
            if (act < 0) {
                throw new Fault(1, p.now());
            }
            if (lines.size() == 24) {
                throw new Fault(5, p.now());
            }
            p.at++;
            int[] line = {act, 0, 0, 0};
            if (act < 4) {
                String name = p.name();
                line[1] = store.names.indexOf(name);
                if (line[1] < 0) {
                    throw new Fault(2, p.now());
                }
                p.at++;
            }
            if (act == 0) {
                line[2] = p.number(0, 3);
                line[3] = p.number(0, 255);
            }
            p.expect(";");
            lines.add(line);
        }
        return lines;
    }

    // ---- the store at work

    static final class PowerCut extends RuntimeException {
        PowerCut() {
            super("cut", null, false, false);
        }
    }

    static final class Node {
        char kind;
        int seq = -1;
        int file = -1;
        int page = -1;
        int value = -1;
        int part;
        int parts;
        TreeMap<Integer, Integer> index;

        Node(char kind) {
            this.kind = kind;
        }
    }

    static final class State {
        Store store;
        Node[] slots;
        int[] erased;
        int head = -1;
        TreeMap<Integer, Integer> map = new TreeMap<>();
        TreeSet<Integer> open = new TreeSet<>();
        TreeSet<Integer> orphans = new TreeSet<>();
        int seq;
        boolean power = true;
        int cut;
        int puts;
        int collected;
        List<int[]> seen = new ArrayList<>();

        State(Store store) {
            this.store = store;
            slots = new Node[store.blocks * store.slots];
            erased = new int[store.blocks];
        }

        State copy() {
            State s = new State(store);
            s.slots = slots.clone();
            s.erased = erased.clone();
            s.head = head;
            s.map.putAll(map);
            s.open.addAll(open);
            s.orphans.addAll(orphans);
            s.seq = seq;
            s.power = power;
            s.cut = cut;
            s.puts = puts;
            s.collected = collected;
            s.seen.addAll(seen);
            return s;
        }

        int first(int block) {
            return block * store.slots;
        }

        int erasedSlots(int block) {
            int n = 0;
            for (int i = first(block); i < first(block + 1); i++) {
                n += slots[i] == null ? 1 : 0;
            }
            return n;
        }

        int erasedSlots() {
            int n = 0;
            for (Node node : slots) {
                n += node == null ? 1 : 0;
            }
            return n;
        }

        /** The greatest SEQ of the last whole commit (0), and the SEQS of its parts. */
        List<Integer> lastWhole() {
            List<Integer> best = new ArrayList<>();
            for (Node n : slots) {
                if (n == null || n.kind != 'I' || n.part != 0) {
                    continue;
                }
                List<Integer> seqs = new ArrayList<>();
                for (int part = 0; part < n.parts; part++) {
                    for (Node m : slots) {
                        if (m != null && m.kind == 'I' && m.seq == n.seq + part && m.part == part
                            && m.parts == n.parts && !seqs.contains(m.seq)) {
                            seqs.add(m.seq);
                        }
                    }
                }
                if (seqs.size() == n.parts && (best.isEmpty() || seqs.get(0) > best.get(0))) {
                    best = seqs;
                }
            }
            return best;
        }

        int base() {
            List<Integer> whole = lastWhole();
            return whole.isEmpty() ? 0 : whole.get(whole.size() - 1);
        }

        TreeMap<Integer, Node> journal() {
            TreeMap<Integer, Node> all = new TreeMap<>();
            int base = base();
            for (Node n : slots) {
                if (n != null && (n.kind == 'D' || n.kind == 'G') && n.seq > base) {
                    all.put(n.seq, n);
                }
            }
            return all;
        }

        boolean[] live() {
            boolean[] live = new boolean[slots.length];
            Set<Integer> taken = new HashSet<>();
            Set<Integer> whole = new HashSet<>(lastWhole());
            Set<Integer> noted = journal().keySet();
            for (int i = 0; i < slots.length; i++) {
                Node n = slots[i];
                if (n == null) {
                    continue;
                }
                boolean wanted = n.kind == 'D' && map.containsValue(n.seq)
                    || n.kind == 'G' && noted.contains(n.seq)
                    || n.kind == 'I' && whole.contains(n.seq);
                live[i] = wanted && taken.add(n.seq);
            }
            return live;
        }

        int liveIn(int from, int to) {
            boolean[] live = live();
            int n = 0;
            for (int i = from; i < to; i++) {
                n += live[i] ? 1 : 0;
            }
            return n;
        }

        int dirtyIn(int block) {
            return store.slots - erasedSlots(block) - liveIn(first(block), first(block + 1));
        }

        void put(Node node, boolean isNew) {
            if (isNew) {
                seq++;
            }
            if (head < 0 || erasedSlots(head) == 0) {
                int best = -1;
                for (int b = store.blocks - 1; b >= 0; b--) {
                    if (erasedSlots(b) == store.slots && (best < 0 || erased[b] <= erased[best])) {
                        best = b;
                    }
                }
                head = best;
            }
            int i = first(head);
            while (slots[i] != null) {
                i++;
            }
            puts++;
            if (cut > 0) {
                cut--;
                if (cut == 0) {
                    slots[i] = new Node('T');
                    power = false;
                    map.clear();
                    open.clear();
                    orphans.clear();
                    throw new PowerCut();
                }
            }
            if (isNew) {
                node.seq = seq;
            }
            slots[i] = node;
        }

        int parts(int pages) {
            return pages / 4 + 1;
        }

        TreeMap<Integer, Integer> kept() {
            TreeMap<Integer, Integer> kept = new TreeMap<>();
            for (Map.Entry<Integer, Integer> e : map.entrySet()) {
                if (!orphans.contains(e.getKey() / 4)) {
                    kept.put(e.getKey(), e.getValue());
                }
            }
            return kept;
        }

        int[] facts() {
            int live = liveIn(0, slots.length);
            int left = erasedSlots();
            return new int[] {left, live, slots.length - left - live, journal().size()};
        }

        void collectAhead() {
            if (store.rule.of(facts()) != 0 && pick() >= 0) {
                doCollect();
            }
        }

        boolean writable(int f, int p) {
            if (!power || !store.hasPage(f, p) || orphans.contains(f)) {
                return false;
            }
            if (store.kinds.get(f) == 1) {
                for (int q = 0; q < p; q++) {
                    if (!map.containsKey(f * 4 + q)) {
                        return false;
                    }
                }
                return !map.containsKey(f * 4 + p);
            }
            return true;
        }

        boolean roomToWrite(int f, int p) {
            Set<Integer> behind = new HashSet<>(kept().keySet());
            behind.add(f * 4 + p);
            int parts = parts(behind.size());
            int puts = store.kinds.get(f) == 2 ? 2 : 1;
            if (store.kinds.get(f) == 3) {
                puts += parts;
            }
            return erasedSlots() >= puts + parts + store.reserve;
        }

        int write(int f, int p, int v) {
            if (v < 0 || v > 255 || !writable(f, p)) {
                return -1;
            }
            try {
                collectAhead();
                if (!roomToWrite(f, p)) {
                    return -1;
                }
                for (int i = store.kinds.get(f) == 2 ? 0 : 1; i < 2; i++) {
                    Node n = new Node('D');
                    n.file = f;
                    n.page = p;
                    n.value = v;
                    put(n, true);
                }
                map.put(f * 4 + p, seq);
                int answer = seq;
                if (store.kinds.get(f) == 3) {
                    doCommit();
                }
                return answer;
            } catch (PowerCut e) {
                return -2;
            }
        }

        boolean anyMapped(int f) {
            for (int p = 0; p < 4; p++) {
                if (map.containsKey(f * 4 + p)) {
                    return true;
                }
            }
            return false;
        }

        int remove(int f) {
            if (!power || !store.hasFile(f) || orphans.contains(f) || !anyMapped(f)) {
                return -1;
            }
            try {
                collectAhead();
                TreeMap<Integer, Integer> behind = kept();
                behind.keySet().removeIf(k -> k / 4 == f);
                if (erasedSlots() < 1 + parts(behind.size()) + store.reserve) {
                    return -1;
                }
                Node n = new Node('G');
                n.file = f;
                put(n, true);
                if (open.contains(f)) {
                    orphans.add(f);
                } else {
                    map.keySet().removeIf(k -> k / 4 == f);
                }
                return n.seq;
            } catch (PowerCut e) {
                return -2;
            }
        }

        boolean open(int f) {
            return power && store.hasFile(f) && open.add(f);
        }

        boolean close(int f) {
            if (!power || !open.remove(f)) {
                return false;
            }
            if (orphans.remove(f)) {
                map.keySet().removeIf(k -> k / 4 == f);
            }
            return true;
        }

        int commit() {
            if (!power || erasedSlots() < parts(kept().size())) {
                return -1;
            }
            try {
                return doCommit();
            } catch (PowerCut e) {
                return -2;
            }
        }

        int doCommit() {
            List<Map.Entry<Integer, Integer>> pages = new ArrayList<>(kept().entrySet());
            int parts = parts(pages.size());
            for (int part = 0; part < parts; part++) {
                Node n = new Node('I');
                n.part = part;
                n.parts = parts;
                n.index = new TreeMap<>();
                for (int i = part * 4; i < part * 4 + 4 && i < pages.size(); i++) {
                    n.index.put(pages.get(i).getKey(), pages.get(i).getValue());
                }
                put(n, true);
            }
            return parts;
        }

        int pick() {
            if (!power) {
                return -1;
            }
            int best = -1;
            for (int b = 0; b < store.blocks; b++) {
                if (b == head || dirtyIn(b) == 0) {
                    continue;
                }
                if (best < 0 || dirtyIn(b) > dirtyIn(best)
                    || dirtyIn(b) == dirtyIn(best) && erased[b] < erased[best]) {
                    best = b;
                }
            }
            if (best < 0) {
                return -1;
            }
            int outside = erasedSlots() - erasedSlots(best);
            return liveIn(first(best), first(best + 1)) <= outside ? best : -1;
        }

        int collect() {
            if (pick() < 0) {
                return -1;
            }
            try {
                return doCollect();
            } catch (PowerCut e) {
                return -2;
            }
        }

        int doCollect() {
            int b = pick();
            boolean[] live = live();
            for (int i = first(b); i < first(b + 1); i++) {
                if (live[i]) {
                    put(slots[i], false);
                }
            }
            for (int i = first(b); i < first(b + 1); i++) {
                slots[i] = null;
            }
            erased[b]++;
            collected++;
            return b;
        }

        /** What a MOUNT would map. */
        TreeMap<Integer, Integer> mountMap() {
            TreeMap<Integer, Integer> found = new TreeMap<>();
            Set<Integer> there = new HashSet<>();
            for (Node n : slots) {
                if (n != null && n.kind == 'D') {
                    there.add(n.seq);
                }
            }
            List<Integer> whole = lastWhole();
            for (Node n : slots) {
                if (n != null && n.kind == 'I' && whole.contains(n.seq)) {
                    for (Map.Entry<Integer, Integer> e : n.index.entrySet()) {
                        if (there.contains(e.getValue())) {
                            found.put(e.getKey(), e.getValue());
                        }
                    }
                }
            }
            for (Node n : journal().values()) {
                if (n.kind == 'D') {
                    found.put(n.file * 4 + n.page, n.seq);
                } else {
                    found.keySet().removeIf(k -> k / 4 == n.file);
                }
            }
            return found;
        }

        int mount() {
            TreeMap<Integer, Integer> found = mountMap();
            power = true;
            cut = 0;
            open.clear();
            orphans.clear();
            map.clear();
            map.putAll(found);
            seq = 0;
            head = -1;
            for (Node n : slots) {
                seq = Math.max(seq, n == null ? 0 : n.seq);
            }
            for (int b = 0; b < store.blocks; b++) {
                if (erasedSlots(b) > 0 && erasedSlots(b) < store.slots) {
                    head = b;
                }
            }
            return journal().size();
        }

        int valueOfSeq(int wanted) {
            for (Node n : slots) {
                if (n != null && n.kind == 'D' && n.seq == wanted) {
                    return n.value;
                }
            }
            return -1;
        }

        int says(int f, int p) {
            Integer s = map.get(f * 4 + p);
            return s == null ? -1 : valueOfSeq(s);
        }

        TreeMap<Integer, Integer> values() {
            TreeMap<Integer, Integer> values = new TreeMap<>();
            for (Map.Entry<Integer, Integer> e : map.entrySet()) {
                values.put(e.getKey(), valueOfSeq(e.getValue()));
            }
            return values;
        }

        boolean act(int[] line) {
            switch (line[0]) {
                case 0:
                    return write(line[1], line[2], line[3]) >= 0;
                case 1:
                    return remove(line[1]) >= 0;
                case 2:
                    return open(line[1]);
                case 3:
                    return close(line[1]);
                case 4:
                    return commit() >= 0;
                default:
                    return collect() >= 0;
            }
        }
    }

    // ---- the face

    String tape = "";
    Store store = new Store();
    List<int[]> work = new ArrayList<>();
    State now = new State(store);
    final State[] marks = new State[2];

    int feed(long a, long b, long c) {
        for (long v : new long[] {a, b, c}) {
            for (int i = 7; i >= 0; i--) {
                int sign = (int) (v >> (8 * i)) & 255;
                if ((sign == 10 || sign >= 32 && sign <= 126) && tape.length() < 1000) {
                    tape += (char) sign;
                }
            }
        }
        return tape.length();
    }

    int store() {
        String text = tape;
        tape = "";
        try {
            store = Store.read(text);
        } catch (Fault f) {
            return f.code;
        }
        now = new State(store);
        work = new ArrayList<>();
        marks[0] = null;
        marks[1] = null;
        return 0;
    }

    int work() {
        String text = tape;
        tape = "";
        try {
            work = readWork(text, store);
        } catch (Fault f) {
            return f.code;
        }
        return 0;
    }

    int slot(int slot, int what) {
        if (slot < 0 || slot >= now.slots.length || what < 0 || what > 5) {
            return -2;
        }
        Node n = now.slots[slot];
        if (what == 5) {
            return now.live()[slot] ? 1 : 0;
        }
        if (n == null) {
            return what == 0 ? 0 : -1;
        }
        boolean index = n.kind == 'I';
        switch (what) {
            case 0:
                return " DGIT".indexOf(n.kind);
            case 1:
                return n.seq;
            case 2:
                return index ? n.part : n.file;
            case 3:
                return index ? n.parts : n.page;
            default:
                return index ? n.index.size() : n.value;
        }
    }

    int block(int block, int what) {
        if (block < 0 || block >= store.blocks) {
            return -1;
        }
        switch (what) {
            case 0:
                return now.erasedSlots(block);
            case 1:
                return now.liveIn(now.first(block), now.first(block + 1));
            case 2:
                return now.dirtyIn(block);
            case 3:
                return now.erased[block];
            case 4:
                return now.head == block ? 1 : 0;
            default:
                return -1;
        }
    }

    int file(int f, int what) {
        if (!store.hasFile(f)) {
            return -1;
        }
        switch (what) {
            case 0:
                return store.kinds.get(f);
            case 1:
                return store.pages.get(f);
            case 2:
                int bits = 0;
                for (int p = 0; p < 4; p++) {
                    bits += now.map.containsKey(f * 4 + p) ? 1 << p : 0;
                }
                return bits;
            case 3:
                return now.open.contains(f) ? 1 : 0;
            case 4:
                return now.orphans.contains(f) ? 1 : 0;
            default:
                return -1;
        }
    }

    boolean cut(int puts) {
        if (!now.power || puts < 1 || puts > 20) {
            return false;
        }
        now.cut = puts;
        return true;
    }

    State told() {
        return new State(store);
    }

    int judged(int what) {
        State s = told();
        int wrong = -1;
        for (int i = 0; i < work.size(); i++) {
            if (!s.act(work.get(i)) && wrong < 0) {
                wrong = i;
            }
        }
        switch (what) {
            case 0:
                return wrong;
            case 1:
                return s.puts;
            case 2:
                return s.erasedSlots();
            case 3:
                return s.collected;
            default:
                return -2;
        }
    }

    int says(int f, int p) {
        return store.hasPage(f, p) ? now.says(f, p) : -1;
    }

    boolean may(int f, int p) {
        return now.writable(f, p) && now.roomToWrite(f, p);
    }

    int spare() {
        return Math.max(0, now.erasedSlots() - now.parts(now.kept().size()) - store.reserve);
    }

    int gain() {
        State s = now.copy();
        s.cut = 0;
        int ahead = s.erasedSlots();
        return s.collect() < 0 ? -1 : s.erasedSlots() - ahead;
    }

    int rounds(int n) {
        State s = now.copy();
        s.cut = 0;
        if (n < 0 || n > 36) {
            return -1;
        }
        int rounds = 0;
        while (s.erasedSlots() < n) {
            if (s.collect() < 0) {
                return -1;
            }
            rounds++;
        }
        return rounds;
    }

    boolean agrees() {
        return now.mountMap().equals(now.kept());
    }

    int loses() {
        Set<Integer> lost = new HashSet<>(now.map.keySet());
        lost.removeAll(now.mountMap().keySet());
        return lost.size();
    }

    int wear() {
        int[] sorted = now.erased.clone();
        Arrays.sort(sorted);
        return sorted.length == 0 ? 0 : sorted[sorted.length - 1] - sorted[0];
    }

    TreeMap<Integer, Integer> livesBySeq() {
        TreeMap<Integer, Integer> all = new TreeMap<>();
        boolean[] live = now.live();
        for (int i = 0; i < live.length; i++) {
            if (live[i]) {
                all.put(now.slots[i].seq, i);
            }
        }
        return all;
    }

    int oldest() {
        return livesBySeq().isEmpty() ? -1 : livesBySeq().firstKey();
    }

    int lives(int i) {
        List<Integer> all = new ArrayList<>(livesBySeq().values());
        if (i < 0 || i >= all.size()) {
            throw new NoSuchElementException();
        }
        return all.get(i);
    }

    int hot() {
        int[] dirty = new int[5];
        boolean[] live = now.live();
        int best = -1;
        for (int i = 0; i < live.length; i++) {
            if (now.slots[i] != null && now.slots[i].kind == 'D' && !live[i]) {
                dirty[now.slots[i].file]++;
            }
        }
        for (int f = 4; f >= 0; f--) {
            if (dirty[f] > 0 && (best < 0 || dirty[f] >= dirty[best])) {
                best = f;
            }
        }
        return best;
    }

    List<Integer> seqsOf(int f, int p) {
        List<Integer> seqs = new ArrayList<>();
        for (Node n : now.slots) {
            if (n != null && n.kind == 'D' && n.file == f && n.page == p) {
                seqs.add(n.seq);
            }
        }
        return seqs;
    }

    int copies(int f, int p) {
        return store.hasPage(f, p) ? seqsOf(f, p).size() : -1;
    }

    int chain(int f, int p) {
        return store.hasPage(f, p) ? new HashSet<>(seqsOf(f, p)).size() : -1;
    }

    /** The WORK CUT at a PUT (0: at none), and MOUNTED. */
    State mountedAfter(int put) {
        State s = told();
        s.cut = put;
        for (int[] line : work) {
            s.act(line);
        }
        s.mount();
        return s;
    }

    int after(int put, int f, int p) {
        if (put < 1 || put > 200 || !store.hasPage(f, p)) {
            return -2;
        }
        return mountedAfter(put).says(f, p);
    }

    List<TreeMap<Integer, Integer>> allEnds() {
        List<TreeMap<Integer, Integer>> all = new ArrayList<>();
        for (int put = 1; put <= judged(1); put++) {
            all.add(mountedAfter(put).values());
        }
        return all;
    }

    int ends() {
        return new HashSet<>(allEnds()).size();
    }

    int halves() {
        List<TreeMap<Integer, Integer>> all = allEnds();
        int halves = 0;
        State s = told();
        for (int[] line : work) {
            State ahead = s.copy();
            ahead.mount();
            int from = s.puts;
            s.act(line);
            State behind = s.copy();
            behind.mount();
            for (int put = from; put < s.puts; put++) {
                if (!all.get(put).equals(ahead.values()) && !all.get(put).equals(behind.values())) {
                    halves++;
                }
            }
        }
        return halves;
    }

    boolean see(int f, int p, int value, boolean is) {
        if (!store.hasPage(f, p) || value < -1 || value > 255 || now.seen.size() == 8) {
            return false;
        }
        now.seen.add(new int[] {f * 4 + p, value, is ? 1 : 0});
        return true;
    }

    List<TreeMap<Integer, Integer>> fitting() {
        List<TreeMap<Integer, Integer>> all = allEnds();
        all.removeIf(end -> {
            for (int[] clue : now.seen) {
                boolean said = end.getOrDefault(clue[0], -1) == clue[1];
                if (said != (clue[2] == 1)) {
                    return true;
                }
            }
            return false;
        });
        return all;
    }

    int look() {
        List<TreeMap<Integer, Integer>> all = fitting();
        int best = -1;
        int least = all.size();
        for (int f = 0; f < store.names.size(); f++) {
            for (int p = 0; p < store.pages.get(f); p++) {
                HashMap<Integer, Integer> tally = new HashMap<>();
                for (TreeMap<Integer, Integer> end : all) {
                    tally.merge(end.getOrDefault(f * 4 + p, -1), 1, Integer::sum);
                }
                int most = 0;
                for (int n : tally.values()) {
                    most = Math.max(most, n);
                }
                if (most < least) {
                    least = most;
                    best = f * 4 + p;
                }
            }
        }
        return best;
    }

    long g;

    int draw(int m) {
        g = (g * 1103515245L + 12345L) & 0x7fffffffL;
        return (int) ((g >> 16) % m);
    }

    int ages(int seed, int acts, int what) {
        if (!now.power || seed < 0 || seed > 9999 || acts < 1 || acts > 99 || what < 0 || what > 2) {
            return -1;
        }
        State s = now.copy();
        s.cut = 0;
        g = seed;
        int could = 0;
        int files = store.names.size();
        for (int i = 0; i < acts && files > 0; i++) {
            int kind = draw(8);
            boolean did;
            if (kind < 4) {
                int f = draw(files);
                int p = draw(4);
                int v = draw(256);
                did = s.write(f, p, v) >= 0;
            } else if (kind == 4) {
                did = s.remove(draw(files)) >= 0;
            } else if (kind == 5) {
                int f = draw(files);
                did = s.open.contains(f) ? s.close(f) : s.open(f);
            } else {
                did = kind == 6 ? s.commit() >= 0 : s.collect() >= 0;
            }
            could += did ? 1 : 0;
        }
        return what == 0 ? could : what == 1 ? s.erasedSlots() : s.map.size();
    }

    boolean mark(int mark, boolean back) {
        if (mark != 0 && mark != 1 || back && marks[mark] == null) {
            return false;
        }
        if (back) {
            now = marks[mark].copy();
        } else {
            marks[mark] = now.copy();
        }
        return true;
    }

    int count(int what) {
        int[] facts = now.facts();
        switch (what) {
            case 0:
                return store.blocks;
            case 1:
                return store.slots;
            case 2:
                return store.names.size();
            case 3:
                return facts[0];
            case 4:
                return facts[1];
            case 5:
                return facts[2];
            case 6:
                return now.seq;
            case 7:
                return now.base();
            case 8:
                return facts[3];
            case 9:
                return now.parts(now.kept().size());
            case 10:
                return now.map.size();
            case 11:
                return now.power ? 1 : 0;
            case 12:
                return now.cut;
            case 13:
                return now.head;
            case 14:
                return work.size();
            case 15:
                return now.seen.size();
            case 16:
                return tape.length();
            default:
                return -1;
        }
    }
}
