import java.util.ArrayList;
import java.util.Collections;
import java.util.List;
import java.util.Random;

/** Long runs of calls by seeds, on the class and on the model: all answers alike. All promises, 1 to 39. */
public final class FuzzTest {
    private static final int[] FAR = {Integer.MIN_VALUE, Integer.MAX_VALUE, -5, -4, -3, -2, -1, 1000, 999, 998, 41, 100, 1 << 16, 256};
    private static final int MOST_CALLS = 512;
    private static final int LOOK_CALLS = 7 * 6 + 4 * (3 + 4 * 6);
    private static final Check CHECK = new Check();

    private final Random random;
    /** Of such a run half of the calls ask for best rows: one object finds hundreds of them. */
    private final boolean asksForRows;
    private final WeighedWhales x = new WeighedWhales();
    private final Model m = new Model();
    private int calls = 0;

    private FuzzTest(long seed) {
        random = new Random(seed);
        asksForRows = seed % 5 == 0;
    }

    public static void main(String[] args) {
        int runs = args.length > 0 ? Integer.parseInt(args[0]) : 1500;
        int first = args.length > 1 ? Integer.parseInt(args[1]) : 1;
        for (int seed = first; seed < first + runs; seed++) {
            CHECK.in("seed " + seed);
            new FuzzTest(seed).run();
        }
        CHECK.finish("FuzzTest");
    }

    /** Behind an object's 512th call its answers are free: the last ones are for the look at all that there is. */
    private void run() {
        tellText(random.nextInt(10) == 0 ? "" : text());
        while (calls < MOST_CALLS - LOOK_CALLS - 4) {
            if (random.nextInt(60) == 0) {
                tellText(random.nextInt(3) == 0 ? broken(text()) : text());
            }
            if (random.nextInt(500) == 0) {
                idle();
            }
            if (calls < MOST_CALLS - LOOK_CALLS - 4) {
                call(asksForRows && random.nextBoolean() ? 20 + random.nextInt(5) : random.nextInt(44));
            }
        }
        look();
    }

    private void tellText(String text) {
        if (calls + text.length() + 2 <= MOST_CALLS - LOOK_CALLS) {
            feedAll(text);
            due("text()", x.text(), m.text());
            due("fault()", x.fault(), m.fault());
        }
    }

    private void due(String call, long got, long want) {
        calls++;
        if (calls > MOST_CALLS) {
            throw new IllegalStateException("an object is used for more than " + MOST_CALLS + " calls");
        }
        CHECK.due(call, got, want);
    }

    private void feedAll(String text) {
        for (int i = 0; i < text.length(); i++) {
            due("feed", x.feed(text.charAt(i)), m.feed(text.charAt(i)));
        }
    }

    /** Hours up to the last ones. */
    private void idle() {
        int reads = Math.min(random.nextInt(52), MOST_CALLS - LOOK_CALLS - calls - 21);
        if (reads < 1) {
            return;
        }
        due("sheet", x.sheet(2, 1, 40), m.sheet(2, 1, 40));
        for (int i = 0; i < 20; i++) {
            due("lay", x.lay(2, i, Model.NONE), m.lay(2, i, Model.NONE));
        }
        for (int i = 0; i < reads; i++) {
            due("read", x.read(2, 1, 0, 20), m.read(2, 1, 0, 20));
        }
    }

    /** Everything that can be looked at. */
    private void look() {
        for (int i = 0; i < 7; i++) {
            due("rule", x.rule(i), m.rule(i));
            due("count", x.count(i), m.count(i));
            due("level", x.level(i), m.level(i));
            due("has", x.has(i - 1), m.has(i - 1));
            due("place", x.place(i, 0), m.place(i, 0));
            due("place", x.place(i, 1), m.place(i, 1));
        }
        for (int b = 0; b < 4; b++) {
            for (int w = 0; w < 3; w++) {
                due("beast", x.beast(b, w), m.beast(b, w));
            }
            for (int p = 0; p < 4; p++) {
                for (int w = 0; w < 6; w++) {
                    due("part", x.part(10 * b + p, w), m.part(10 * b + p, w));
                }
            }
        }
    }

    private int in(int low, int high) {
        if (random.nextInt(25) == 0) {
            return FAR[random.nextInt(FAR.length)];
        }
        return low + random.nextInt(high - low + 1);
    }

    /** A number of a part, mostly one that there is. */
    private int number() {
        List<Integer> all = m.now.numbers();
        int r = random.nextInt(12);
        if (r == 0 || all.isEmpty()) {
            return in(-1, 33);
        }
        if (r == 1) {
            return Model.NONE;
        }
        List<Integer> able = m.now.workables();
        return r < 9 && !able.isEmpty() ? able.get(random.nextInt(able.size())) : all.get(random.nextInt(all.size()));
    }

    private int hours() {
        return random.nextInt(4) == 0 ? in(0, 6) : in(0, 3);
    }

    private void call(int which) {
        if (which < 20) {
            callOne(which);
        } else {
            callOther(which);
        }
    }

    private void callOne(int which) {
        int a = 0, b = 0;
        switch (which) {
            case 0: a = in(0, 127); due("feed(" + a + ")", x.feed(a), m.feed(a)); break;
            case 1: a = in(0, 30); due("end(" + a + ")", x.end(a), m.end(a)); break;
            case 2: due("fault()", x.fault(), m.fault()); break;
            case 3: a = in(0, 6); due("rule(" + a + ")", x.rule(a), m.rule(a)); break;
            case 4: a = in(0, 6); b = in(0, 1); due("place", x.place(a, b), m.place(a, b)); break;
            case 5: a = in(0, 999); due("level(" + a + ")", x.level(a), m.level(a)); break;
            case 6: a = in(0, 2); b = in(0, 2); due("beast", x.beast(a, b), m.beast(a, b)); break;
            case 7: a = number(); b = in(0, 5); due("part(" + a + ", " + b + ")", x.part(a, b), m.part(a, b)); break;
            case 8: a = in(0, 6); b = in(0, 9);
                if (random.nextInt(3) == 0) {
                    due("mark(" + a + ", " + b + ")", x.mark(a, b), m.mark(a, b));
                }
                break;
            case 9: a = in(0, 6); b = in(0, 3); due("own(" + a + ", " + b + ")", x.own(a, b), m.own(a, b)); break;
            case 10: a = in(0, 3); due("law(" + a + ")", x.law(a), m.law(a)); break;
            case 11: a = in(1, 9); due("rot(" + a + ")", x.rot(a), m.rot(a)); break;
            case 12: a = in(1, 2); due("gangs(" + a + ")", x.gangs(a), m.gangs(a)); break;
            case 13: a = number(); b = in(0, 8); due("lump(" + a + ", " + b + ")", x.lump(a, b), m.lump(a, b)); break;
            case 14:
            case 15: a = number(); b = random.nextBoolean() ? Model.NONE : number();
                due("go(" + a + ", " + b + ")", x.go(a, b), m.go(a, b)); break;
            case 16: a = in(0, 999); due("wet(" + a + ")", x.wet(a), m.wet(a)); break;
            case 17: a = in(0, 2); due("floats(" + a + ")", x.floats(a), m.floats(a)); break;
            case 18: a = in(0, 3); due("has(" + a + ")", x.has(a), m.has(a)); break;
            default: a = in(0, 6); due("count(" + a + ")", x.count(a), m.count(a)); break;
        }
    }

    private void callOther(int which) {
        int a = 0, b = 0, c = 0, d = 0;
        switch (which) {
            case 20:
            case 21:
            case 22: a = hours(); b = random.nextInt(3) == 0 ? 0 : in(9, 22);
                due("best(" + a + ", " + b + ")", x.best(a, b), m.best(a, b)); break;
            case 23: a = in(0, 2); b = hours(); due("worth(" + a + ", " + b + ")", x.worth(a, b), m.worth(a, b)); break;
            case 24: a = hours();
                if (random.nextInt(3) == 0) {
                    due("salted(" + a + ")", x.salted(a), m.salted(a));
                }
                break;
            case 25: a = in(0, 3); b = in(0, 3); due("share(" + a + ", " + b + ")", x.share(a, b), m.share(a, b)); break;
            case 26: a = in(0, 3); b = random.nextInt(3) == 0 ? in(0, 99) : Math.max(0, m.share(a, random.nextInt(4)));
                due("tell(" + a + ", " + b + ")", x.tell(a, b), m.tell(a, b)); break;
            case 27: a = in(0, 6); due("forget(" + a + ")", x.forget(a), m.forget(a)); break;
            case 28: due("laws()", x.laws(), m.laws()); break;
            case 29: a = in(0, 6); due("whose(" + a + ")", x.whose(a), m.whose(a)); break;
            case 30: a = in(1, 3); b = in(0, 12); due("strand(" + a + ", " + b + ")", x.strand(a, b), m.strand(a, b)); break;
            case 31: a = in(0, 2); b = in(0, 1); due("luck(" + a + ", " + b + ")", x.luck(a, b), m.luck(a, b)); break;
            case 32: due("open()", x.open(), m.open()); break;
            case 33: a = random.nextInt(); b = in(1, 60); c = in(0, 1);
                due("drift(" + a + ", " + b + ", " + c + ")", x.drift(a, b, c), m.drift(a, b, c)); break;
            case 34: a = in(0, 1); due("keep(" + a + ")", x.keep(a), m.keep(a)); break;
            case 35: a = in(0, 1); due("back(" + a + ")", x.back(a), m.back(a)); break;
            case 36: a = in(0, 3); b = in(0, 2); c = in(0, 40);
                due("sheet(" + a + ", " + b + ", " + c + ")", x.sheet(a, b, c), m.sheet(a, b, c)); break;
            case 37:
            case 38:
            case 39: a = in(0, 3);
                for (int i = 0; i < 4; i++) {
                    b = in(0, 5);
                    c = random.nextInt(3) == 0 ? Model.NONE : random.nextInt(8) == 0 ? random.nextInt() : number();
                    due("lay(" + a + ", " + b + ", " + c + ")", x.lay(a, b, c), m.lay(a, b, c));
                }
                break;
            case 40:
            case 41: a = in(0, 3); b = in(0, 2); c = in(0, 5); d = in(0, 6);
                due("read(" + a + ", " + b + ", " + c + ", " + d + ")", x.read(a, b, c, d), m.read(a, b, c, d));
                due("torn()", x.torn(), m.torn()); break;
            default: due("torn()", x.torn(), m.torn()); break;
        }
    }

    /** A text without faults, but that it may be too long for the tape. */
    private String text() {
        List<String> lines = new ArrayList<>();
        int places = random.nextInt(7);
        int low = random.nextInt(7);
        for (int i = 0; i < places; i++) {
            lines.add("sand " + random.nextInt(4) + " " + (low + random.nextInt(10 - low)) + ";");
        }
        if (random.nextInt(5) > 0) {
            int high = random.nextInt(3) == 0 ? 10 : 6;
            for (int left = 1 + random.nextInt(6); left > 0;) {
                int here = 1 + random.nextInt(left);
                StringBuilder line = new StringBuilder("tide");
                for (int i = 0; i < here; i++) {
                    line.append(' ').append(random.nextInt(high));
                }
                lines.add(line + ";");
                left -= here;
            }
        }
        int beasts = 0;
        for (int at = random.nextInt(2); at < places && beasts < 3; at += random.nextInt(2)) {
            int parts = 1 + random.nextInt(Math.min(3, places - at));
            StringBuilder line = new StringBuilder("whale ").append(at);
            for (int p = 0; p < parts; p++) {
                line.append(' ').append(random.nextInt(10)).append(' ').append(1 + random.nextInt(3));
                line.append(' ').append(random.nextInt(9));
            }
            lines.add(line + ";");
            beasts++;
            at += parts;
        }
        String[] more = {"law " + random.nextInt(4) + ";", "rot " + (1 + random.nextInt(9)) + ";", "gangs " + (1 + random.nextInt(2)) + ";"};
        for (String line : more) {
            if (random.nextBoolean()) {
                lines.add(line);
            }
        }
        Collections.shuffle(lines, random);
        String all = String.join("", lines);
        return all.length() < 150 && random.nextInt(3) == 0 ? all.replaceFirst(";", " ; ") : all;
    }

    private String broken(String text) {
        StringBuilder s = new StringBuilder(text);
        for (int i = random.nextInt(3); i >= 0; i--) {
            int at = random.nextInt(s.length() + 1);
            String some = "sand tide law rot gangs whale 0123456789 ; ;A{`/:\u007f";
            char c = some.charAt(random.nextInt(some.length()));
            switch (random.nextInt(4)) {
                case 0: s.insert(at, c); break;
                case 1: if (at < s.length()) s.deleteCharAt(at); break;
                case 2: if (at < s.length()) s.setCharAt(at, c); break;
                default: s.setLength(at); break;
            }
        }
        if (random.nextInt(4) == 0) {
            String[] more = {"law 1;law 2;", "rot 1;rot 2;", "sand 0 0;sand 0 0;sand 0 0;", "whale 0 1 1 1;whale 0 1 1 1;", "tide 1 2 3 4;tide 1 2 3;"};
            s.append(more[random.nextInt(more.length)]);
        }
        return s.toString();
    }
}
