/** Promises 24 to 28: laws. */
public final class LawsTest {
    private static final Check C = new Check();
    private static final String TEXT = "sand 0 3;sand 1 2;sand 1 5;sand 2 4;tide 1 3 5 2;rot 2;gangs 2;"
        + "whale 0 9 2 4 6 1 0;whale 2 8 1 8 5 3 1;";

    public static void main(String[] args) {
        share();
        shareOfThree();
        tell();
        forget();
        laws();
        whose();
        C.finish("LawsTest");
    }

    private static void shares(WeighedWhales x, int[][] due) {
        for (int v = 0; v < 4; v++) {
            for (int o = 0; o < 4; o++) {
                C.due("share(" + o + ", " + v + ")", x.share(o, v), due[v][o]);
            }
        }
    }

    private static void share() {
        C.in("24 share");
        WeighedWhales x = Check.shore(TEXT);
        int[][] due = {{15, 13, 0, 0}, {0, 15, 13, 0}, {9, 14, 5, 0}, {15, 13, 0, 0}};
        shares(x, due);
        x.go(0, 10);
        x.go(0, Check.NONE);
        C.due("cut", x.count(4), 2);
        C.due("lost", x.count(5), 1);
        shares(x, due);
        C.due("share(-1, 0)", x.share(-1, 0), Check.BAD);
        C.due("share(4, 0)", x.share(4, 0), Check.BAD);
        C.due("share(0, -1)", x.share(0, -1), Check.BAD);
        C.due("share(0, 4)", x.share(0, 4), Check.BAD);
    }

    private static void shareOfThree() {
        C.in("24 share of three parts");
        WeighedWhales x = Check.shore("sand 0 9;sand 3 9;sand 3 9;sand 2 9;sand 1 9;whale 0 1 1 0 2 1 0 4 1 0;whale 3 7 1 0 9 1 0;");
        shares(x, new int[][] {{7, 0, 16, 0}, {0, 16, 0, 7}, {1, 9, 7, 6}, {0, 16, 0, 7}});
        x.own(0, 1);
        x.own(1, 2);
        C.due("all unlike: the least", x.share(1, 3), 23);
    }

    private static void tell() {
        C.in("25 tell");
        WeighedWhales x = Check.shore(TEXT);
        C.due("tell(-1, 0)", x.tell(-1, 0), Check.BAD);
        C.due("tell(4, 0)", x.tell(4, 0), Check.BAD);
        C.due("tell(0, -1)", x.tell(0, -1), Check.BAD);
        C.due("tell(0, 100)", x.tell(0, 100), Check.BAD);
        C.due("count(0)", x.count(0), 0);
        C.due("tell(0, 0)", x.tell(0, 0), 1);
        C.due("tell(3, 99)", x.tell(3, 99), 2);
        for (int i = 3; i <= 6; i++) {
            C.due("tell", x.tell(0, 0), i);
        }
        C.due("full", x.tell(0, 0), Check.FULL);
        C.due("BAD ahead of FULL", x.tell(4, 0), Check.BAD);
        C.due("count(0)", x.count(0), 6);
    }

    private static void forget() {
        C.in("26 forget");
        WeighedWhales x = Check.shore(TEXT);
        C.due("forget(0)", x.forget(0), 0);
        C.due("forget(1)", x.forget(1), Check.BAD);
        x.tell(0, 15);
        x.tell(0, 99);
        C.due("laws()", x.laws(), 0);
        C.due("forget(-1)", x.forget(-1), Check.BAD);
        C.due("forget(3)", x.forget(3), Check.BAD);
        C.due("forget(2)", x.forget(2), 2);
        C.due("forget(1)", x.forget(1), 2);
        C.due("the first one stays", x.laws(), 9);
        C.due("forget(0)", x.forget(0), 1);
        C.due("count(0)", x.count(0), 0);
        C.due("laws()", x.laws(), 15);
    }

    private static void laws() {
        C.in("27 laws");
        WeighedWhales x = Check.shore(TEXT);
        C.due("nothing told", x.laws(), 15);
        x.tell(3, 0);
        C.due("laws()", x.laws(), 15);
        x.tell(1, 14);
        C.due("laws()", x.laws(), 4);
        x.forget(1);
        x.tell(1, 15);
        C.due("laws()", x.laws(), 2);
        x.tell(1, 14);
        C.due("one owner, two sums", x.laws(), 0);
        x.forget(0);
        x.tell(2, 0);
        x.go(0, 10);
        C.due("cut or not", x.laws(), 9);
        x.law(1);
        C.due("whatever the law is", x.laws(), 9);
    }

    private static void whose() {
        C.in("28 whose");
        WeighedWhales x = Check.shore(TEXT);
        C.due("nothing told", x.whose(0), 15);
        C.due("whose(-1)", x.whose(-1), Check.BAD);
        C.due("whose(4)", x.whose(4), Check.BAD);
        x.tell(0, 15);
        C.due("the head's place", x.whose(0), 1);
        C.due("not the head's", x.whose(1), 15);
        C.due("the other head's: not owner 0", x.whose(2), 14);
        C.due("owners stay", x.place(2, 0), 1);
        x.forget(0);
        x.tell(3, 5);
        C.due("no owner", x.whose(3), 0);
        x.law(2);
        C.due("by law 2", x.whose(3), 8);
        C.due("the place of another part", x.whose(0), 0);
        x.tell(2, 0);
        C.due("both", x.whose(3), 8);
        x.tell(2, 5);
        C.due("what can not be", x.whose(3), 0);
    }
}
