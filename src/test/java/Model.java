import java.util.ArrayList;
import java.util.HashMap;
import java.util.List;
import java.util.Map;
import java.util.TreeSet;

/** The document once more, as plainly as can be and without a thought for room or speed, to hold the class against. */
final class Model {
    static final int BAD = -1, STATE = -2, FULL = -3, NONE = -4;

    static final class Part {
        int worth, work, lump;

        Part copy() {
            Part p = new Part();
            p.worth = worth;
            p.work = work;
            p.lump = lump;
            return p;
        }
    }

    static final class Beast {
        int head;
        boolean lost;
        List<Part> parts = new ArrayList<>();

        Beast copy() {
            Beast b = new Beast();
            b.head = head;
            b.lost = lost;
            for (Part p : parts) {
                b.parts.add(p.copy());
            }
            return b;
        }
    }

    static final class World {
        List<int[]> sands = new ArrayList<>();
        List<Integer> tides = new ArrayList<>();
        List<Beast> beasts = new ArrayList<>();
        int law = 0, rot = 4, gangs = 1, hour = 0;
        int[] has = new int[4];

        World copy() {
            World w = new World();
            for (int[] s : sands) {
                w.sands.add(s.clone());
            }
            w.tides.addAll(tides);
            for (Beast b : beasts) {
                w.beasts.add(b.copy());
            }
            w.law = law;
            w.rot = rot;
            w.gangs = gangs;
            w.hour = hour;
            w.has = has.clone();
            return w;
        }

        int level(int h) {
            return tides.isEmpty() ? 0 : tides.get(h % tides.size());
        }

        boolean wet(int place, int h) {
            return level(h) > sands.get(place)[1];
        }

        boolean floats(Beast b, int h) {
            for (int i = 0; i < b.parts.size(); i++) {
                if (!wet(b.head + i, h)) {
                    return false;
                }
            }
            return true;
        }

        void lose() {
            for (Beast b : beasts) {
                if (floats(b, hour)) {
                    b.lost = true;
                }
            }
        }

        List<Integer> numbers() {
            List<Integer> all = new ArrayList<>();
            for (int b = 0; b < beasts.size(); b++) {
                for (int p = 0; p < beasts.get(b).parts.size(); p++) {
                    all.add(10 * b + p);
                }
            }
            return all;
        }

        boolean known(int x) {
            return numbers().contains(x);
        }

        Part part(int x) {
            return beasts.get(x / 10).parts.get(x % 10);
        }

        int now(int x) {
            return Math.max(0, part(x).worth - (int) Math.floor(hour / (double) rot));
        }

        boolean workable(int x) {
            Beast b = beasts.get(x / 10);
            return part(x).work != 0 && !b.lost && !wet(b.head + x % 10, hour);
        }

        List<Integer> workables() {
            List<Integer> all = new ArrayList<>();
            for (int x : numbers()) {
                if (workable(x)) {
                    all.add(x);
                }
            }
            return all;
        }

        int whose(int x, int by) {
            Beast b = beasts.get(x / 10);
            int n = b.parts.size();
            if (by == 0) {
                return sands.get(b.head)[0];
            }
            if (by == 1) {
                return sands.get(b.head + n - 1)[0];
            }
            if (by == 2) {
                return sands.get(b.head + x % 10)[0];
            }
            int[] many = new int[4];
            for (int i = 0; i < n; i++) {
                many[sands.get(b.head + i)[0]]++;
            }
            int most = 0;
            for (int o = 1; o < 4; o++) {
                if (many[o] > many[most]) {
                    most = o;
                }
            }
            return most;
        }

        int share(int o, int by) {
            int sum = 0;
            for (int x : numbers()) {
                sum += whose(x, by) == o ? part(x).worth : 0;
            }
            return sum;
        }

        int refusal(int x, int y) {
            if (x != NONE && !known(x) || y != NONE && !known(y)) {
                return BAD;
            }
            if (x == y && x != NONE || gangs == 1 && y != NONE) {
                return BAD;
            }
            if (x != NONE && !workable(x) || y != NONE && !workable(y)) {
                return STATE;
            }
            return hour + 1 == 1000 ? FULL : 0;
        }

        int pass(int x, int y) {
            int won = 0;
            for (int z : new int[] {x, y}) {
                if (z != NONE && --part(z).work == 0) {
                    has[whose(z, law)] += now(z);
                    won += now(z);
                }
            }
            hour++;
            lose();
            return won;
        }

        String key(int n) {
            StringBuilder s = new StringBuilder().append(n);
            for (Beast b : beasts) {
                s.append(b.lost ? '!' : '.');
                for (Part p : b.parts) {
                    s.append(p.work);
                }
            }
            return s.toString();
        }

        /** Every choice of an hour, by the document's order. */
        List<int[]> choices() {
            List<Integer> all = workables();
            List<int[]> out = new ArrayList<>();
            for (int i = 0; i < all.size(); i++) {
                for (int j = i + 1; gangs == 2 && j < all.size(); j++) {
                    out.add(new int[] {all.get(i), all.get(j)});
                }
                out.add(new int[] {all.get(i), NONE});
            }
            out.add(new int[] {NONE, NONE});
            return out;
        }

        /** What is won, then the row. */
        int[] row(int n, Map<String, int[]> known) {
            if (n == 0) {
                return new int[] {0};
            }
            String key = key(n);
            int[] best = known.get(key);
            if (best != null) {
                return best;
            }
            for (int[] choice : choices()) {
                World next = copy();
                int won = next.pass(choice[0], choice[1]);
                int[] rest = next.row(n - 1, known);
                if (best == null || won + rest[0] > best[0]) {
                    best = new int[rest.length + 2];
                    best[0] = won + rest[0];
                    best[1] = choice[0];
                    best[2] = choice[1];
                    System.arraycopy(rest, 1, best, 3, rest.length - 1);
                }
            }
            known.put(key, best);
            return best;
        }

        int[] row(int n) {
            return row(n, new HashMap<>());
        }
    }

    static final class TextFault extends Exception {
        private static final long serialVersionUID = 1L;
        final int kind, at;

        TextFault(int kind, int at) {
            super("");
            this.kind = kind;
            this.at = at;
        }
    }

    World now = new World();
    String tape = "";
    int fault = 0, torn = 0;
    World[] images = new World[2];
    List<int[]> told = new ArrayList<>();
    Object[] sheets = new Object[4];
    int at;
    String token;

    Model() {
        now.tides.add(0);
    }

    int feed(int c) {
        if (c < 0 || c > 127) {
            return BAD;
        }
        if (tape.length() == 160) {
            return FULL;
        }
        tape += (char) c;
        return tape.length();
    }

    int end(int n) {
        int had = tape.length();
        if (n < 0 || n > had) {
            return BAD;
        }
        tape = tape.substring(0, n);
        return had;
    }

    int text() {
        try {
            World next = new World();
            int lines = parse(next);
            now = next;
            now.lose();
            told.clear();
            images = new World[2];
            fault = 0;
            return lines;
        } catch (TextFault f) {
            fault = f.kind;
            return -10 - f.at;
        } finally {
            tape = "";
        }
    }

    /** Takes the next token; "" is the end. Answers where it begins. */
    private int token() throws TextFault {
        while (at < tape.length() && tape.charAt(at) == ' ') {
            at++;
        }
        String rest = tape.substring(at);
        int from = at;
        if (rest.isEmpty()) {
            token = "";
            return from;
        }
        token = rest.replaceFirst("(?s)^([a-z]+|[0-9]+|;|.).*$", "$1");
        if (!token.matches("[a-z]+|[0-9]{1,2}|;")) {
            throw new TextFault(1, from);
        }
        at += token.length();
        return from;
    }

    private int number(int low, int high) throws TextFault {
        int from = token();
        return bounded(from, low, high);
    }

    private int bounded(int from, int low, int high) throws TextFault {
        if (!token.matches("[0-9]+")) {
            throw new TextFault(2, from);
        }
        int v = Integer.parseInt(token);
        if (v < low || v > high) {
            throw new TextFault(3, from);
        }
        return v;
    }

    private void stop() throws TextFault {
        int from = token();
        if (!token.equals(";")) {
            throw new TextFault(2, from);
        }
    }

    private int parse(World w) throws TextFault {
        at = 0;
        int lines = 0;
        TreeSet<String> once = new TreeSet<>();
        for (int from = token(); !token.isEmpty(); from = token()) {
            String name = token;
            switch (name) {
                case "sand":
                    if (w.sands.size() == 6) {
                        throw new TextFault(5, from);
                    }
                    w.sands.add(new int[] {number(0, 3), number(0, 9)});
                    stop();
                    break;
                case "tide":
                    tide(w);
                    break;
                case "law":
                case "rot":
                case "gangs":
                    if (!once.add(name)) {
                        throw new TextFault(4, from);
                    }
                    int v = name.equals("law") ? number(0, 3) : name.equals("rot") ? number(1, 9) : number(1, 2);
                    w.law = name.equals("law") ? v : w.law;
                    w.rot = name.equals("rot") ? v : w.rot;
                    w.gangs = name.equals("gangs") ? v : w.gangs;
                    stop();
                    break;
                case "whale":
                    if (w.beasts.size() == 3) {
                        throw new TextFault(5, from);
                    }
                    whale(w);
                    break;
                default:
                    throw new TextFault(2, from);
            }
            lines++;
        }
        if (w.tides.isEmpty()) {
            w.tides.add(0);
        }
        behindAll(w);
        return lines;
    }

    private void tide(World w) throws TextFault {
        int from = token();
        do {
            if (token.matches("[0-9]+") && w.tides.size() == 6) {
                throw new TextFault(5, from);
            }
            w.tides.add(bounded(from, 0, 9));
            from = token();
        } while (!token.equals(";"));
    }

    private void whale(World w) throws TextFault {
        Beast b = new Beast();
        b.head = number(0, 5);
        int from = token();
        do {
            if (token.matches("[0-9]+") && b.parts.size() == 3) {
                throw new TextFault(5, from);
            }
            Part p = new Part();
            p.worth = bounded(from, 0, 9);
            p.work = number(1, 3);
            p.lump = number(0, 8);
            b.parts.add(p);
            from = token();
        } while (!token.equals(";"));
        w.beasts.add(b);
    }

    private void behindAll(World w) throws TextFault {
        int[] many = new int[20];
        for (Beast b : w.beasts) {
            for (int i = 0; i < b.parts.size(); i++) {
                many[b.head + i]++;
            }
        }
        for (int i = w.sands.size(); i < 20; i++) {
            if (many[i] > 0) {
                throw new TextFault(6, tape.length());
            }
        }
        for (int i = 0; i < 20; i++) {
            if (many[i] > 1) {
                throw new TextFault(7, tape.length());
            }
        }
    }

    int fault() {
        return fault;
    }

    int rule(int what) {
        int[] all = {now.sands.size(), now.tides.size(), now.beasts.size(), now.law, now.rot, now.gangs, now.hour};
        return what < 0 || what >= all.length ? BAD : all[what];
    }

    private boolean isPlace(int i) {
        return i >= 0 && i < now.sands.size();
    }

    private boolean isBeast(int b) {
        return b >= 0 && b < now.beasts.size();
    }

    int place(int i, int what) {
        return !isPlace(i) || what < 0 || what > 1 ? BAD : now.sands.get(i)[what];
    }

    int level(int h) {
        return h < 0 || h > 999 ? BAD : now.level(h);
    }

    int beast(int b, int what) {
        if (!isBeast(b) || what < 0 || what > 2) {
            return BAD;
        }
        Beast it = now.beasts.get(b);
        return what == 0 ? it.head : what == 1 ? it.parts.size() : it.lost ? 1 : 0;
    }

    int part(int x, int what) {
        if (!now.known(x) || what < 0 || what > 5) {
            return BAD;
        }
        Part p = now.part(x);
        int[] all = {p.worth, p.work, p.lump, now.now(x), now.workable(x) ? 1 : 0, now.whose(x, now.law)};
        return all[what];
    }

    int mark(int i, int v) {
        if (!isPlace(i) || v < 0 || v > 9) {
            return BAD;
        }
        int was = now.sands.get(i)[1];
        now.sands.get(i)[1] = v;
        now.lose();
        return was;
    }

    int own(int i, int v) {
        if (!isPlace(i) || v < 0 || v > 3) {
            return BAD;
        }
        int was = now.sands.get(i)[0];
        now.sands.get(i)[0] = v;
        return was;
    }

    int law(int v) {
        int was = now.law;
        if (v < 0 || v > 3) {
            return BAD;
        }
        now.law = v;
        return was;
    }

    int rot(int v) {
        int was = now.rot;
        if (v < 1 || v > 9) {
            return BAD;
        }
        now.rot = v;
        return was;
    }

    int gangs(int v) {
        int was = now.gangs;
        if (v < 1 || v > 2) {
            return BAD;
        }
        now.gangs = v;
        return was;
    }

    int lump(int x, int v) {
        if (!now.known(x) || v < 0 || v > 8) {
            return BAD;
        }
        int was = now.part(x).lump;
        now.part(x).lump = v;
        return was;
    }

    int go(int x, int y) {
        int no = now.refusal(x, y);
        return no < 0 ? no : now.pass(x, y);
    }

    int wet(int h) {
        if (h < 0 || h > 999) {
            return BAD;
        }
        int bits = 0;
        for (int i = 0; i < now.sands.size(); i++) {
            bits += now.wet(i, h) ? 1 << i : 0;
        }
        return bits;
    }

    int floats(int b) {
        if (!isBeast(b)) {
            return BAD;
        }
        if (now.beasts.get(b).lost) {
            return STATE;
        }
        for (int h = now.hour; h < now.hour + 60; h++) {
            if (now.floats(now.beasts.get(b), h)) {
                return h;
            }
        }
        return NONE;
    }

    int has(int o) {
        return o < 0 || o > 3 ? BAD : now.has[o];
    }

    int best(int n, int what) {
        if (n < 0 || n > 6) {
            return BAD;
        }
        if (what == 0) {
            return now.row(n)[0];
        }
        if (what < 10 || (what - 10) / 2 >= n) {
            return BAD;
        }
        return now.row(n)[what - 9];
    }

    int worth(int b, int n) {
        if (!isBeast(b) || n < 0 || n > 6) {
            return BAD;
        }
        World without = now.copy();
        without.beasts.remove(b);
        return now.row(n)[0] - without.row(n)[0];
    }

    int salted(int n) {
        if (n < 0 || n > 6) {
            return BAD;
        }
        World w = now.copy();
        w.rot = 9;
        int most = w.row(n)[0];
        for (w.rot = 1; w.row(n)[0] != most; w.rot++) {
            continue;
        }
        return w.rot;
    }

    int share(int o, int v) {
        return o < 0 || o > 3 || v < 0 || v > 3 ? BAD : now.share(o, v);
    }

    int tell(int o, int w) {
        if (o < 0 || o > 3 || w < 0 || w > 99) {
            return BAD;
        }
        if (told.size() == 6) {
            return FULL;
        }
        told.add(new int[] {o, w});
        return told.size();
    }

    int forget(int n) {
        int had = told.size();
        if (n < 0 || n > had) {
            return BAD;
        }
        told = new ArrayList<>(told.subList(0, n));
        return had;
    }

    private boolean explains(World w, int by) {
        return told.stream().allMatch(t -> w.share(t[0], by) == t[1]);
    }

    int laws() {
        int bits = 0;
        for (int v = 0; v < 4; v++) {
            bits += explains(now, v) ? 1 << v : 0;
        }
        return bits;
    }

    int whose(int i) {
        if (!isPlace(i)) {
            return BAD;
        }
        int bits = 0;
        for (int o = 0; o < 4; o++) {
            World w = now.copy();
            w.sands.get(i)[0] = o;
            bits += explains(w, w.law) ? 1 << o : 0;
        }
        return bits;
    }

    int strand(int n, int h) {
        if (n < 1 || n > 3 || h < 0 || h > 998) {
            return BAD;
        }
        int bits = 0;
        for (int i = 0; i + n - 1 < now.sands.size(); i++) {
            Beast guest = new Beast();
            guest.head = i;
            for (int p = 0; p < n; p++) {
                guest.parts.add(new Part());
            }
            boolean free = true;
            for (Beast b : now.beasts) {
                boolean apart = b.head + b.parts.size() <= i || i + n <= b.head;
                free &= b.lost || apart;
            }
            bits += free && now.floats(guest, h) && !now.floats(guest, h + 1) ? 1 << i : 0;
        }
        return bits;
    }

    long luck(int b, int what) {
        if (!isBeast(b) || what < 0 || what > 1) {
            return BAD;
        }
        long up = 0, down = 1;
        for (Part p : now.beasts.get(b).parts) {
            if (p.work > 0 && !now.beasts.get(b).lost) {
                // of those that hold none so far, lump of eight more do
                up = up * 8 + (down - up) * p.lump;
                down *= 8;
            }
        }
        long a = up, c = down;
        while (c != 0) {
            long r = a % c;
            a = c;
            c = r;
        }
        return what == 0 ? up / a : down / a;
    }

    int open() {
        int first = NONE;
        for (int x : now.workables()) {
            Part p = now.part(x);
            if (first == NONE || p.lump * 6 / p.work > now.part(first).lump * 6 / now.part(first).work) {
                first = x;
            }
        }
        return first;
    }

    int drift(int seed, int n, int what) {
        if (n < 1 || n > 60 || what < 0 || what > 1) {
            return BAD;
        }
        World w = now.copy();
        long s = seed;
        int won = 0;
        for (int i = 0; i < n; i++) {
            s = (s * 1103515245L + 12345L) & 0xffffffffL;
            List<Integer> all = w.workables();
            all.add(NONE);
            won += w.pass(all.get((int) ((s >> 16 & 0x7fff) % all.size())), NONE);
        }
        return what == 0 ? won : (int) w.beasts.stream().filter(b -> b.lost).count();
    }

    int keep(int k) {
        if (k < 0 || k > 1) {
            return BAD;
        }
        int was = images[k] == null ? 0 : 1;
        images[k] = now.copy();
        return was;
    }

    int back(int k) {
        if (k < 0 || k > 1) {
            return BAD;
        }
        if (images[k] == null) {
            return STATE;
        }
        now = images[k].copy();
        return now.hour;
    }

    int sheet(int k, int lane, int n) {
        if (k < 0 || k > 3 || lane < 0 || lane > 2 || n > 40) {
            return BAD;
        }
        if (n < 0) {
            return -14;
        }
        sheets[k] = lane == 0 ? new byte[n] : lane == 1 ? new short[n] : (Object) new int[n];
        return 1;
    }

    int lay(int k, int i, int v) {
        if (k < 0 || k > 3) {
            return BAD;
        }
        if (sheets[k] == null) {
            return -11;
        }
        try {
            if (sheets[k] instanceof byte[] row) {
                row[i] = (byte) v;
            } else if (sheets[k] instanceof short[] row) {
                row[i] = (short) v;
            } else if (sheets[k] instanceof int[] row) {
                row[i] = v;
            }
            return 1;
        } catch (ArrayIndexOutOfBoundsException e) {
            return -12;
        }
    }

    int read(int k, int lane, int f, int n) {
        if (k < 0 || k > 3 || lane < 0 || lane > 2 || n < 0 || n > 20) {
            return BAD;
        }
        World trial = now.copy();
        int found = 0;
        int i = 0;
        try {
            for (; i < n; i++) {
                Object s = sheets[k];
                int x = lane == 0 ? ((byte[]) s)[f + i] : lane == 1 ? ((short[]) s)[f + i] : ((int[]) s)[f + i];
                if (trial.refusal(x, NONE) != 0) {
                    return -20 - i;
                }
                trial.pass(x, NONE);
            }
        } catch (NullPointerException e) {
            found = 1;
        } catch (ArrayIndexOutOfBoundsException e) {
            found = 2;
        } catch (ClassCastException e) {
            found = 3;
        }
        now = trial;
        torn = found;
        return i;
    }

    int torn() {
        return torn;
    }

    int count(int what) {
        switch (what) {
            case 0: return told.size();
            case 1: return (images[0] == null ? 0 : 1) + (images[1] == null ? 0 : 1);
            case 2: return tape.length();
            case 3: return sheets[0] == null ? NONE : java.lang.reflect.Array.getLength(sheets[0]);
            case 4: return (int) now.numbers().stream().filter(x -> now.part(x).work == 0).count();
            case 5: return (int) now.beasts.stream().filter(b -> b.lost).count();
            default: return BAD;
        }
    }
}
