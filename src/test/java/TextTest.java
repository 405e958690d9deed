/** Promises 1 to 5: a new object, the tape, the text and its faults. */
public final class TextTest {
    private static final Check C = new Check();

    public static void main(String[] args) {
        newObject();
        feed();
        end();
        textTaken();
        textTellsAll();
        textRefusedChangesNothing();
        faultsOfTokens();
        faultsOfPlace();
        faultsOfBounds();
        faultsOfSecondTime();
        faultsOfTooMany();
        faultsBehindAll();
        C.finish("TextTest");
    }

    private static void newObject() {
        C.in("1 new");
        WeighedWhales x = new WeighedWhales();
        int[] rules = {0, 1, 0, 0, 4, 1, 0};
        for (int i = 0; i < rules.length; i++) {
            C.due("rule(" + i + ")", x.rule(i), rules[i]);
        }
        C.due("place(0, 0)", x.place(0, 0), Check.BAD);
        C.due("beast(0, 0)", x.beast(0, 0), Check.BAD);
        C.due("part(0, 0)", x.part(0, 0), Check.BAD);
        C.due("level(0)", x.level(0), 0);
        C.due("fault()", x.fault(), 0);
        C.due("torn()", x.torn(), 0);
        for (int o = 0; o < 4; o++) {
            C.due("has", x.has(o), 0);
        }
        int[] counts = {0, 0, 0, Check.NONE, 0, 0};
        for (int i = 0; i < counts.length; i++) {
            C.due("count(" + i + ")", x.count(i), counts[i]);
        }
        for (int k = 0; k < 4; k++) {
            C.due("lay", x.lay(k, 0, 1), -11);
        }
        C.due("back(0)", x.back(0), Check.STATE);
        C.due("back(1)", x.back(1), Check.STATE);
    }

    private static void feed() {
        C.in("2 feed");
        WeighedWhales x = new WeighedWhales();
        C.due("feed(-1)", x.feed(-1), Check.BAD);
        C.due("feed(128)", x.feed(128), Check.BAD);
        C.due("feed(min)", x.feed(Integer.MIN_VALUE), Check.BAD);
        C.due("feed(max)", x.feed(Integer.MAX_VALUE), Check.BAD);
        C.due("count(2)", x.count(2), 0);
        C.due("feed(0)", x.feed(0), 1);
        C.due("feed(127)", x.feed(127), 2);
        for (int i = 3; i <= 160; i++) {
            C.due("feed", x.feed(32), i);
        }
        C.due("feed full", x.feed(32), Check.FULL);
        C.due("feed(128) full", x.feed(128), Check.BAD);
        C.due("count(2)", x.count(2), 160);
    }

    private static void end() {
        C.in("3 end");
        WeighedWhales x = new WeighedWhales();
        C.due("end(1)", x.end(1), Check.BAD);
        C.due("end(0)", x.end(0), 0);
        Check.feed(x, "law 3;!!");
        C.due("end(-1)", x.end(-1), Check.BAD);
        C.due("end(9)", x.end(9), Check.BAD);
        C.due("end(max)", x.end(Integer.MAX_VALUE), Check.BAD);
        C.due("end(8)", x.end(8), 8);
        C.due("end(6)", x.end(6), 8);
        C.due("text()", x.text(), 1);
        C.due("rule(3)", x.rule(3), 3);
        Check.feed(x, "law 1");
        C.due("end(4)", x.end(4), 5);
        Check.feed(x, "2;");
        C.due("text()", x.text(), 1);
        C.due("rule(3)", x.rule(3), 2);
    }

    private static void taken(String text, int lines) {
        WeighedWhales x = new WeighedWhales();
        C.due("text \"" + text + "\"", Check.tell(x, text), lines);
        C.due("fault", x.fault(), 0);
        C.due("tape is empty", x.count(2), 0);
    }

    private static void textTaken() {
        C.in("4 text taken");
        taken("", 0);
        taken("   ", 0);
        taken("sand 0 0;", 1);
        taken("  sand   3   9  ;  ", 1);
        taken("sand 03 09;", 1);
        taken("sand0 0;sand1 1;", 2);
        taken("tide 0;", 1);
        taken("tide 1 2 3 4 5 6;", 1);
        taken("tide 1;tide 2 3;tide 4 5 6;", 3);
        taken("law 0;rot 1;gangs 1;", 3);
        taken("law 3;rot 9;gangs 2;", 3);
        taken("whale 0 0 1 0;sand 0 0;", 2);
        taken("whale 5 9 3 8;sand 0 0;sand 0 0;sand 0 0;sand 0 0;sand 0 0;sand 0 0;", 7);
        taken("whale 1 1 1 1 2 2 2 3 3 3;sand 0 9;sand 0 9;sand 0 9;sand 0 9;", 5);
        taken("sand 0 9;sand 0 9;sand 0 9;whale 0 1 1 1;whale 2 1 1 1;whale 1 1 1 1;", 6);
    }

    private static void textTellsAll() {
        C.in("4 text tells all");
        WeighedWhales x = Check.shore("sand 1 9;sand 2 9;tide 3 4;tide 5;law 2;rot 7;gangs 2;whale 0 9 1 1 8 2 2;");
        int[] rules = {2, 3, 1, 2, 7, 2, 0};
        for (int i = 0; i < rules.length; i++) {
            C.due("rule(" + i + ")", x.rule(i), rules[i]);
        }
        C.due("level(0)", x.level(0), 3);
        C.due("level(2)", x.level(2), 5);
        C.due("go", x.go(0, Check.NONE), 9);
        x.tell(0, 1);
        x.keep(0);
        x.sheet(0, 1, 7);
        C.due("text", Check.tell(x, "sand 3 2;"), 1);
        int[] after = {1, 1, 0, 0, 4, 1, 0};
        for (int i = 0; i < after.length; i++) {
            C.due("rule(" + i + ")", x.rule(i), after[i]);
        }
        C.due("level(5)", x.level(5), 0);
        C.due("has(1)", x.has(1), 0);
        C.due("told are gone", x.count(0), 0);
        C.due("images are gone", x.count(1), 0);
        C.due("back(0)", x.back(0), Check.STATE);
        C.due("sheets stay", x.count(3), 7);
        C.due("cut", x.count(4), 0);
        C.due("lost at once", Check.tell(x, "sand 0 4;sand 0 3;tide 4 0;whale 0 1 1 1;whale 1 1 1 1;"), 5);
        C.due("beast(0, 2)", x.beast(0, 2), 0);
        C.due("beast(1, 2)", x.beast(1, 2), 1);
    }

    private static void textRefusedChangesNothing() {
        C.in("4 text refused");
        WeighedWhales x = Check.shore("sand 1 9;sand 2 8;tide 3 4;law 2;rot 7;gangs 2;whale 0 9 1 1 8 2 2;");
        x.go(0, Check.NONE);
        x.tell(0, 1);
        x.keep(1);
        String[] texts = {"sand 0 0;tide 9 9 9;law 1;rot 1;gangs 1;whale 0 1 1 1 1 1 1;", "!", "sand 0 0;whale 0 1 1 1;whale 0 1 1 1;"};
        for (String text : texts) {
            C.due("text", Check.tell(x, text) <= -10 ? 1 : 0, 1);
            C.due("tape is empty", x.count(2), 0);
            int[] rules = {2, 2, 1, 2, 7, 2, 1};
            for (int i = 0; i < rules.length; i++) {
                C.due("rule(" + i + ")", x.rule(i), rules[i]);
            }
            C.due("place(1, 0)", x.place(1, 0), 2);
            C.due("place(1, 1)", x.place(1, 1), 8);
            C.due("level(1)", x.level(1), 4);
            C.due("part(0, 1)", x.part(0, 1), 0);
            C.due("part(1, 0)", x.part(1, 0), 8);
            C.due("has(1)", x.has(1), 9);
            C.due("told", x.count(0), 1);
            C.due("images", x.count(1), 1);
        }
        C.due("fault()", x.fault(), 7);
        C.due("a good one", Check.tell(x, "rot 1;"), 1);
        C.due("fault()", x.fault(), 0);
    }

    private static void refused(String text, int fault, int at) {
        WeighedWhales x = new WeighedWhales();
        C.due("text \"" + text + "\"", Check.tell(x, text), -10 - at);
        C.due("fault of \"" + text + "\"", x.fault(), fault);
        C.due("tape is empty", x.count(2), 0);
    }

    private static void faultsOfTokens() {
        C.in("5 fault 1");
        refused("!", 1, 0);
        refused("  A", 1, 2);
        refused("sand 0 0;\n", 1, 9);
        refused("sand 000 0;", 1, 5);
        refused("sand 0 123;", 1, 7);
        refused("123", 1, 0);
        refused("law 1,", 1, 5);
        refused("sandX 0 0;", 1, 4);
        refused("{", 1, 0);
        refused("`", 1, 0);
        refused(":", 1, 0);
        refused("/", 1, 0);
        refused("tide 1 2 3 4 5 6 777;", 1, 17);
        refused("whale 0 1 1 1 1 1 1 1 1 1 999;", 1, 26);
    }

    private static void faultsOfPlace() {
        C.in("5 fault 2");
        refused(";", 2, 0);
        refused("7", 2, 0);
        refused("sandy 0 0;", 2, 0);
        refused("san 0 0;", 2, 0);
        refused("rot 1; lawn 1;", 2, 7);
        refused("sand", 2, 4);
        refused("sand  ", 2, 6);
        refused("sand 0", 2, 6);
        refused("sand 0 1", 2, 8);
        refused("sand 0 1 2;", 2, 9);
        refused("sand ;", 2, 5);
        refused("sand 0 ;", 2, 7);
        refused("sand law", 2, 5);
        refused("tide ;", 2, 5);
        refused("tide 1", 2, 6);
        refused("tide 1 tide 2;", 2, 7);
        refused("tide 1 2 3 4 5 6 law 1;", 2, 17);
        refused("law ;", 2, 4);
        refused("law 1 1;", 2, 6);
        refused("rot 1 1;", 2, 6);
        refused("gangs 1 1;", 2, 8);
        refused("whale ;", 2, 6);
        refused("whale 0;", 2, 7);
        refused("whale 0 1;", 2, 9);
        refused("whale 0 1 1;", 2, 11);
        refused("whale 0 1 1 1", 2, 13);
        refused("whale 0 1 1 1 1;", 2, 15);
        refused("whale 0 1 1 1 1 1;", 2, 17);
        refused("whale 0 1 1 1 1 1 1 1 1 1 law", 2, 26);
        refused("rot 1;;", 2, 6);
    }

    private static void faultsOfBounds() {
        C.in("5 fault 3");
        refused("sand 4 0;", 3, 5);
        refused("sand 0 10;", 3, 7);
        refused("sand 10 10;", 3, 5);
        refused("tide 10;", 3, 5);
        refused("tide 9 99;", 3, 7);
        refused("law 4;", 3, 4);
        refused("rot 0;", 3, 4);
        refused("rot 10;", 3, 4);
        refused("gangs 0;", 3, 6);
        refused("gangs 3;", 3, 6);
        refused("whale 6 1 1 1;", 3, 6);
        refused("whale 0 10 1 1;", 3, 8);
        refused("whale 0 1 0 1;", 3, 10);
        refused("whale 0 1 4 1;", 3, 10);
        refused("whale 0 1 1 9;", 3, 12);
        refused("whale 0 1 1 1 10 1 1;", 3, 14);
        refused("whale 0 1 1 1 1 1 1 1 0 1;", 3, 22);
        refused("whale 0 1 1 1 1 1 1 1 1 9;", 3, 24);
    }

    private static void faultsOfSecondTime() {
        C.in("5 fault 4");
        refused("law 1;law 1;", 4, 6);
        refused("law 1;law", 4, 6);
        refused("rot 1;law 1; rot 11;", 4, 13);
        refused("gangs 1;gangs 2;", 4, 8);
    }

    private static void faultsOfTooMany() {
        C.in("5 fault 5");
        String sands = "sand 0 9;sand 0 9;sand 0 9;sand 0 9;sand 0 9;sand 0 9;";
        refused(sands + "sand 0 9;", 5, 54);
        refused(sands + "sand", 5, 54);
        String whales = "whale 0 1 1 1;whale 0 1 1 1;whale 0 1 1 1;";
        refused(whales + "whale;", 5, 42);
        refused("tide 1 2 3 4 5 6 7;", 5, 17);
        refused("tide 1 2 3 4 5 6 70;", 5, 17);
        refused("tide 1 2 3 4 5 6;tide 7;", 5, 22);
        refused("tide 1 2 3 4;tide 5 6 10;", 5, 22);
        refused("tide 1 2 3 4 5 6;tide ;", 2, 22);
        refused("whale 0 1 1 1 1 1 1 1 1 1 1;", 5, 26);
        refused("whale 0 1 1 1 1 1 1 1 1 1 99;", 5, 26);
    }

    private static void faultsBehindAll() {
        C.in("5 faults 6, 7");
        refused("whale 0 1 1 1;", 6, 14);
        refused("sand 0 9;whale 0 1 1 1 1 1 1;  ", 6, 31);
        refused("sand 0 9;whale 1 1 1 1;", 6, 23);
        refused("sand 0 9;whale 5 1 1 1 1 1 1 1 1 1;", 6, 35);
        refused("sand 0 9;whale 0 1 1 1;whale 0 1 1 1;", 7, 37);
        refused("sand 0 9;sand 0 9;sand 0 9;whale 1 1 1 1 1 1 1;whale 0 1 1 1 1 1 1; ", 7, 68);
        refused("sand 0 9;whale 0 1 1 1;whale 0 1 1 1;whale 1 1 1 1;", 6, 51);
        refused("whale 0 1 1 1;law 4;", 3, 18);
    }
}
