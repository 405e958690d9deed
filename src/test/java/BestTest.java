import java.util.Random;

/** Promises 21 to 23: the best row. */
public final class BestTest {
    private static final int NONE = Check.NONE;
    private static final Check C = new Check();
    private static final String TEXT = "sand 0 3;sand 1 2;sand 1 5;sand 2 4;tide 1 3 5 2;rot 2;gangs 2;"
        + "whale 0 9 2 4 6 1 0;whale 2 8 1 8 5 3 1;";
    private static final String FULL_SHORE = "sand 0 9;sand 0 9;sand 1 9;sand 2 9;sand 3 9;sand 0 9;rot 3;gangs 2;"
        + "whale 0 9 3 8 8 2 8 7 3 8;whale 3 9 3 1 5 1 1 9 3 1;";

    public static void main(String[] args) {
        best();
        bestOfOneGang();
        bestIsFirst();
        bestRefuses();
        worth();
        salted();
        againstModel(FULL_SHORE);
        againstEveryRow();
        random();
        C.finish("BestTest");
    }

    private static void row(WeighedWhales x, int n, int... due) {
        for (int i = 0; i < due.length; i++) {
            C.due("best(" + n + ", " + (10 + i) + ")", x.best(n, 10 + i), due[i]);
        }
    }

    private static void best() {
        C.in("21 best");
        WeighedWhales x = Check.shore(TEXT);
        int[] won = {0, 14, 23, 23, 23, 23, 26};
        for (int n : new int[] {0, 1, 2, 3, 6}) {
            C.due("best(" + n + ", 0)", x.best(n, 0), won[n]);
        }
        row(x, 1, 1, 10);
        row(x, 3, 0, 1, 0, 10, NONE, NONE);
        C.due("nothing goes", x.rule(6), 0);
        C.due("nothing is worked", x.part(0, 1), 2);
        C.due("nothing is won", x.has(0), 0);
    }

    private static void bestOfOneGang() {
        C.in("21 best of one gang");
        WeighedWhales x = Check.shore("sand 0 9;sand 0 9;sand 0 9;rot 1;whale 0 1 1 0 9 1 0 4 2 0;");
        C.due("best(1, 0)", x.best(1, 0), 9);
        row(x, 1, 1, NONE);
        C.due("best(2, 0)", x.best(2, 0), 9);
        row(x, 2, 0, NONE, 1, NONE);
        x.rot(9);
        C.due("best(2, 0)", x.best(2, 0), 10);
        row(x, 2, 0, NONE, 1, NONE);
        C.due("best(3, 0)", x.best(3, 0), 13);
        row(x, 3, 1, NONE, 2, NONE, 2, NONE);
        C.due("best(5, 0)", x.best(5, 0), 14);
        row(x, 5, 0, NONE, 1, NONE, 2, NONE, 2, NONE, NONE, NONE);
    }

    private static void bestIsFirst() {
        C.in("21 best, of several the first");
        WeighedWhales x = Check.shore("sand 0 9;sand 0 9;sand 0 9;gangs 2;whale 0 0 1 0 0 2 0;whale 2 0 1 0;");
        C.due("best(2, 0)", x.best(2, 0), 0);
        row(x, 2, 0, 1, 1, 10);
        row(x, 3, 0, 1, 1, 10, NONE, NONE);
        WeighedWhales y = Check.shore("sand 0 9;sand 0 0;tide 0 1;gangs 2;whale 0 3 3 0 3 3 0;");
        row(y, 4, 0, 1, 0, NONE, 0, 1, NONE, NONE);
        C.due("the second part is cut in hour 4", y.best(5, 0), 5);
    }

    private static void bestRefuses() {
        C.in("21 best refused");
        WeighedWhales x = Check.shore(TEXT);
        C.due("best(-1, 0)", x.best(-1, 0), Check.BAD);
        C.due("best(7, 0)", x.best(7, 0), Check.BAD);
        int[] whats = {-1, 1, 9, Integer.MIN_VALUE, Integer.MAX_VALUE};
        for (int what : whats) {
            C.due("best(3, " + what + ")", x.best(3, what), Check.BAD);
        }
        for (int n = 0; n <= 6; n++) {
            C.due("k is n", x.best(n, 10 + 2 * n), Check.BAD);
            C.due("k is n", x.best(n, 11 + 2 * n), Check.BAD);
        }
        C.due("best(6, 21)", x.best(6, 21) == Check.BAD ? 1 : 0, 0);
    }

    private static void worth() {
        C.in("22 worth");
        WeighedWhales x = Check.shore(TEXT);
        C.due("worth(0, 0)", x.worth(0, 0), 0);
        C.due("worth(0, 3)", x.worth(0, 3), 15);
        C.due("worth(1, 6)", x.worth(1, 6), 11);
        C.due("worth(0, -1)", x.worth(0, -1), Check.BAD);
        C.due("worth(0, 7)", x.worth(0, 7), Check.BAD);
        C.due("worth(2, 3)", x.worth(2, 3), Check.BAD);
        C.due("worth(-1, 3)", x.worth(-1, 3), Check.BAD);
        x.go(NONE, NONE);
        x.go(NONE, NONE);
        C.due("of a lost one", x.worth(0, 6), 0);
        WeighedWhales y = Check.shore("sand 0 9;sand 0 9;whale 0 7 1 0;whale 1 5 1 0;");
        C.due("worth(0, 1): the other one is cut", y.worth(0, 1), 2);
        C.due("worth(1, 1)", y.worth(1, 1), 0);
        C.due("worth(1, 2)", y.worth(1, 2), 5);
    }

    private static void salted() {
        C.in("23 salted");
        WeighedWhales x = Check.shore(TEXT);
        C.due("salted(0)", x.salted(0), 1);
        C.due("salted(1)", x.salted(1), 1);
        C.due("salted(3)", x.salted(3), 2);
        C.due("salted(6)", x.salted(6), 5);
        C.due("rot stays", x.rule(4), 2);
        C.due("salted(-1)", x.salted(-1), Check.BAD);
        C.due("salted(7)", x.salted(7), Check.BAD);
        WeighedWhales y = Check.shore("sand 0 9;whale 0 9 1 0;");
        Check.idle(y, 8);
        C.due("hour 8", y.salted(1), 9);
        Check.idle(y, 1);
        C.due("hour 9, by rot 9 too 1 less", y.salted(1), 5);
        Check.idle(y, 81);
        C.due("hour 90: nothing is left to win", y.salted(6), 1);
    }

    private static void againstModel(String text) {
        WeighedWhales x = new WeighedWhales();
        Model m = new Model();
        for (int i = 0; i < text.length(); i++) {
            x.feed(text.charAt(i));
            m.feed(text.charAt(i));
        }
        C.in("model " + text);
        C.due("text", x.text(), m.text());
        for (int n = 0; n <= 6; n++) {
            int[] row = m.now.row(n);
            C.due("best(" + n + ", 0)", x.best(n, 0), row[0]);
            for (int i = 0; i < 2 * n; i++) {
                C.due("best(" + n + ", " + (10 + i) + ")", x.best(n, 10 + i), row[1 + i]);
            }
        }
        for (int b = 0; b < 3; b++) {
            C.due("worth(" + b + ", 5)", x.worth(b, 5), m.worth(b, 5));
        }
        C.due("salted(5)", x.salted(5), m.salted(5));
    }

    /** Rows of three hours, every one of them tried without a memory of what was tried. */
    private static void againstEveryRow() {
        for (String text : new String[] {TEXT, FULL_SHORE, "sand 0 1;sand 1 2;sand 2 0;tide 0 1 2;gangs 2;whale 0 5 1 0 6 1 0 7 2 0;"}) {
            WeighedWhales x = Check.shore(text);
            Model m = new Model();
            for (int i = 0; i < text.length(); i++) {
                m.feed(text.charAt(i));
            }
            m.text();
            for (int n = 1; n <= 3; n++) {
                C.in("every row of " + n + ", " + text);
                int[] row = tried(m.now, n);
                C.due("best(" + n + ", 0)", x.best(n, 0), row[0]);
                for (int i = 0; i < 2 * n; i++) {
                    C.due("best(" + n + ", " + (10 + i) + ")", x.best(n, 10 + i), row[1 + i]);
                }
            }
        }
    }

    private static int[] tried(Model.World w, int n) {
        int[] best = {-1};
        if (n == 0) {
            return new int[] {0};
        }
        for (int[] choice : w.choices()) {
            Model.World next = w.copy();
            int won = next.pass(choice[0], choice[1]);
            int[] rest = tried(next, n - 1);
            if (won + rest[0] > best[0]) {
                best = new int[1 + 2 * n];
                best[0] = won + rest[0];
                best[1] = choice[0];
                best[2] = choice[1];
                System.arraycopy(rest, 1, best, 3, 2 * n - 2);
            }
        }
        return best;
    }

    /** Shores that are full of beasts, with few tides above the marks. */
    private static void random() {
        Random r = new Random(5);
        for (int run = 0; run < 60; run++) {
            StringBuilder text = new StringBuilder();
            for (int i = 0; i < 6; i++) {
                text.append("sand ").append(r.nextInt(4)).append(' ').append(2 + r.nextInt(8)).append(';');
            }
            text.append("tide");
            for (int i = r.nextInt(6); i >= 0; i--) {
                text.append(' ').append(r.nextInt(8));
            }
            text.append(";rot ").append(1 + r.nextInt(4)).append(";gangs ").append(1 + r.nextInt(2)).append(';');
            for (int at = 0, beasts = 0; at < 6 && beasts < 3; beasts++) {
                int parts = Math.min(6 - at, 2 + r.nextInt(2));
                text.append("whale ").append(at);
                for (int p = 0; p < parts; p++) {
                    text.append(' ').append(r.nextInt(10)).append(' ').append(1 + r.nextInt(3)).append(" 0");
                }
                text.append(';');
                at += parts;
            }
            if (text.length() <= 160) {
                againstModel(text.toString());
            }
        }
    }
}
