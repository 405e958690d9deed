/** The boundaries of promises 1 to 5: a new object, THE TAPE, the text and its FAULTS. */
public final class EdgeTextTest {
    private static final Check C = new Check();
    private static final String SANDS = "sand 0 9;sand 0 9;sand 0 9;sand 0 9;sand 0 9;sand 0 9;";
    /** Of everything something: HOURS gone, a PART CUT, a BEAST LOST, TOLD, IMAGES, SHEETS, a FAULT of both kinds, bytes. */
    private static final String[] BUSY = {
        "text sand 0 3;sand 1 2;sand 1 5;sand 2 4;tide 1 3 5 2;law 2;rot 2;gangs 2;whale 0 9 2 4 6 1 0;whale 2 8 1 8 5 3 1;",
        "keep(0) = 0", "go(0, 10) = 8", "keep(1) = 0", "go(11, NONE) = 0", "tell(0, 9) = 1", "tell(2, 5) = 2",
        "sheet(0, 0, 3) = 1", "lay(0, 0, 11) = 1", "lay(0, 1, NONE) = 1", "sheet(1, 1, 2) = 1", "sheet(2, 2, 40) = 1",
        "tape law 4;", "text() = -14", "read(0, 1, 0, 1) = 0", "tape rot 5;"};

    public static void main(String[] args) {
        newObjectHasNothing();
        newObjectAnswers();
        tapeIsFull();
        tapeIsEnded();
        tapeOfOneByte();
        tapeOfAByteBehindANumber();
        tokensAsLongAsMayBe();
        numbersTooLong();
        blanks();
        namesThatBeginNoLine();
        linesBrokenAtEachToken();
        numbersAtTheirBounds();
        numbersOfEachPart();
        secondTime();
        tooMany();
        allThatThereMayBe();
        eachLineItsOwn();
        placesThatThereAreNot();
        beastsOnOnePlace();
        theFirstMet();
        theWholeTape();
        refusedChangesNothing();
        takenTellsAll();
        atOnceLost();
        faultOfTheLatest();
        C.finish("EdgeTextTest");
    }

    private static void newObjectHasNothing() {
        Script.run(C, "1: no PLACES, no BEASTS; SHEETS have nothing",
            "rule(0) = 0", "rule(2) = 0", "place(0, 0) = BAD", "place(0, 1) = BAD", "beast(0, 0) = BAD", "beast(0, 2) = BAD",
            "part(0, 0) = BAD", "mark(0, 0) = BAD", "own(0, 0) = BAD", "lump(0, 0) = BAD", "floats(0) = BAD", "worth(0, 0) = BAD",
            "whose(0) = BAD", "luck(0, 0) = BAD", "luck(0, 1) = BAD", "go(0, NONE) = BAD", "count(3) = NONE", "lay(0, 0, 0) = -11",
            "lay(1, 0, 0) = -11", "lay(2, 0, 0) = -11", "lay(3, 0, 0) = -11", "torn() = 0", "read(0, 0, 0, 1) = 0", "torn() = 1",
            "read(3, 2, 0, 20) = 0", "torn() = 1", "count(4) = 0", "count(5) = 0");
        Script.run(C, "Terms 1: at first", "rule(1) = 1", "level(0) = 0", "level(1) = 0", "level(999) = 0", "rule(3) = 0",
            "rule(4) = 4", "rule(5) = 1", "rule(6) = 0", "fault() = 0", "torn() = 0", "has(0) = 0", "has(1) = 0", "has(2) = 0",
            "has(3) = 0", "count(0) = 0", "count(1) = 0", "count(2) = 0", "back(0) = STATE", "back(1) = STATE", "end(0) = 0",
            "end(1) = BAD", "forget(0) = 0", "forget(1) = BAD");
    }

    private static void newObjectAnswers() {
        Script.run(C, "1: what is asked of nothing", "wet(0) = 0", "wet(999) = 0", "best(0, 0) = 0", "best(6, 0) = 0",
            "best(6, 10) = NONE", "best(6, 21) = NONE", "salted(0) = 1", "salted(6) = 1", "share(0, 0) = 0", "share(3, 3) = 0",
            "laws() = 15", "strand(1, 0) = 0", "strand(3, 998) = 0", "open() = NONE", "drift(0, 1, 0) = 0", "drift(7, 60, 1) = 0",
            "tell(3, 0) = 1", "laws() = 15", "tell(3, 1) = 2", "laws() = 0", "keep(0) = 0", "go(NONE, NONE) = 0", "rule(6) = 1",
            "go(NONE, 0) = BAD", "back(0) = 0", "rule(6) = 0", "text() = 0", "fault() = 0");
    }

    private static void tapeIsFull() {
        Script.run(C, "2: a byte (0 to 127)", "feed(-1) = BAD", "feed(MIN) = BAD", "count(2) = 0", "feed(0) = 1", "feed(127) = 2",
            "feed(128) = BAD", "feed(MAX) = BAD", "feed(256) = BAD", "count(2) = 2");
        String[] full = new String[160];
        for (int i = 0; i < 160; i++) {
            full[i] = "feed(32) = " + (i + 1);
        }
        Script.run(C, "2: FULL: more than 160", Script.join(full, "count(2) = 160", "feed(32) = FULL", "feed(0) = FULL",
            "feed(127) = FULL", "feed(-1) = BAD", "feed(128) = BAD", "count(2) = 160", "end(159) = 160", "feed(33) = 160",
            "feed(33) = FULL", "text() = -169", "fault() = 1", "count(2) = 0", "feed(32) = 1"));
    }

    private static void tapeIsEnded() {
        Script.run(C, "3: nothing on it", "end(-1) = BAD", "end(1) = BAD", "end(MIN) = BAD", "end(MAX) = BAD", "end(0) = 0");
        Script.run(C, "3: its first n bytes", "tape law 2;!", "end(-1) = BAD", "end(8) = BAD", "end(MAX) = BAD", "end(7) = 7",
            "count(2) = 7", "end(6) = 7", "count(2) = 6", "end(7) = BAD", "end(6) = 6", "text() = 1", "rule(3) = 2",
            "end(1) = BAD", "tape law 3;", "end(0) = 6", "count(2) = 0", "end(0) = 0", "text() = 0", "rule(3) = 0");
        Script.run(C, "3: those behind come behind the first n", "tape law 1", "end(4) = 5", "tape 3;", "text() = 1", "rule(3) = 3");
    }

    private static void taken(String text, int lines) {
        WeighedWhales x = new WeighedWhales();
        C.due("text \"" + text + "\"", Check.tell(x, text), lines);
        C.due("fault of \"" + text + "\"", x.fault(), 0);
        C.due("tape is empty behind \"" + text + "\"", x.count(2), 0);
    }

    private static void refused(String text, int fault, int at) {
        WeighedWhales x = new WeighedWhales();
        C.due("text \"" + text + "\"", Check.tell(x, text), -10 - at);
        C.due("fault of \"" + text + "\"", x.fault(), fault);
        C.due("tape is empty behind \"" + text + "\"", x.count(2), 0);
    }

    private static boolean isLetter(char c) {
        return "abcdefghijklmnopqrstuvwxyz".indexOf(c) >= 0;
    }

    private static boolean isFigure(char c) {
        return "0123456789".indexOf(c) >= 0;
    }

    private static void tapeOfOneByte() {
        C.in("4, 5: every byte alone");
        for (char c = 0; c < 128; c++) {
            if (c == ' ') {
                taken(" ", 0);
            } else {
                refused("" + c, isLetter(c) || isFigure(c) || c == ';' ? 2 : 1, 0);
            }
        }
    }

    private static void tapeOfAByteBehindANumber() {
        C.in("4, 5: every byte behind a NUMBER");
        for (char c = 0; c < 128; c++) {
            if (c == ';') {
                taken("law 1;", 1);
            } else if (c == ' ') {
                refused("law 1 ", 2, 6);
            } else if (isFigure(c)) {
                refused("law 1" + c, 3, 4);
            } else {
                refused("law 1" + c, isLetter(c) ? 2 : 1, 5);
            }
        }
    }

    private static void tokensAsLongAsMayBe() {
        C.in("Terms 1: TOKENS, each as long as may be");
        taken("sand3 9;", 1);
        taken("tide1 2 3;law1;", 2);
        taken("sand 00 09;", 1);
        refused("sand 12;", 3, 5);
        refused("sand sand;", 2, 5);
        refused("sandsand 0 0;", 2, 0);
        refused("law 1law 1;", 2, 5);
        refused("sa nd 0 0;", 2, 0);
        refused("tide 1 ;2;", 2, 8);
        refused("Sand 0 0;", 1, 0);
        refused("sanD 0 0;", 2, 0);
        refused("sandD 0 0;", 1, 4);
    }

    private static void numbersTooLong() {
        C.in("5: 1, a NUMBER that is too long (its first byte)");
        taken("law 00;", 1);
        refused("law 000;", 1, 4);
        refused("law 001;", 1, 4);
        refused("law  1234567890123;", 1, 5);
        refused("law 1 000;", 1, 6);
        refused("000", 1, 0);
        refused("00", 2, 0);
        refused("law 1;000", 1, 6);
        refused("tide 1 2 3 4 5 6 000;", 1, 17);
        refused("tide 1 2 3 4 5 6 00;", 5, 17);
        refused("whale 0 1 1 1 1 1 1 1 1 1 000;", 1, 26);
        refused("whale 0 1 1 1 1 1 1 1 1 1 00;", 5, 26);
        String figures = "9".repeat(156);
        refused("law " + figures, 1, 4);
    }

    private static void blanks() {
        C.in("Terms 1: blanks (32) between");
        taken("   law   1   ;   ", 1);
        taken("                ", 0);
        refused("law\t1;", 1, 3);
        refused("law 1\n;", 1, 5);
        refused("law 1;\n", 1, 6);
        refused("law 1;\0", 1, 6);
        refused("law" + (char) 31 + "1;", 1, 3);
        refused("law" + (char) 33 + "1;", 1, 3);
        refused("   law   ", 2, 9);
        refused("   lax   ", 2, 3);
    }

    private static void namesThatBeginNoLine() {
        C.in("5: 2, a NAME that begins no line");
        String[] names = {"sand", "tide", "law", "rot", "gangs", "whale"};
        for (String name : names) {
            refused(name.substring(0, name.length() - 1) + " 0 0;", 2, 0);
            refused(name + "s 0 0;", 2, 0);
            refused("s" + name + " 0 0;", 2, 0);
            refused(name.substring(1) + " 0 0;", 2, 0);
            refused(name.substring(0, name.length() - 1) + "z 0 0;", 2, 0);
            refused("z" + name.substring(1) + " 0 0;", 2, 0);
            refused("sand 0 0; " + name + "x 0 0;", 2, 10);
        }
        refused("a", 2, 0);
        refused("z;", 2, 0);
    }

    private static void linesBrokenAtEachToken() {
        C.in("5: 2, a TOKEN that can not stand there, or the end");
        String[] lines = {"sand 0 0 ;", "tide 0 ;", "law 0 ;", "rot 1 ;", "gangs 1 ;", "whale 0 1 1 1 ;"};
        for (String line : lines) {
            String[] tokens = line.split(" ");
            StringBuilder ahead = new StringBuilder(tokens[0]);
            for (int i = 1; i < tokens.length; i++) {
                String so = ahead + " ";
                refused(so, 2, so.length());
                refused(ahead.toString(), 2, ahead.length());
                refused(so + "law", 2, so.length());
                if (i < tokens.length - 1) {
                    refused(so + ";", 2, so.length());
                }
                ahead.append(' ').append(tokens[i]);
            }
            refused(ahead + ";", 2, ahead.length());
            refused(ahead + "0;", 2, ahead.length());
        }
        refused("sand 0 0 0;", 2, 9);
        refused("law 0 0;", 2, 6);
        refused("rot 1 1;", 2, 6);
        refused("gangs 1 1;", 2, 8);
        refused("whale 0 1 1 1 1;", 2, 15);
        refused("whale 0 1 1 1 1 1;", 2, 17);
        refused("whale 0 1 1 1 1 1 1 1;", 2, 21);
        refused("whale 0 1 1 1 1 1 1 1 1;", 2, 23);
        refused("whale 0 1 1 1 1", 2, 15);
        refused("whale 0 1 1 1 1 law", 2, 16);
    }

    private static void numbersAtTheirBounds() {
        C.in("5: 3, a NUMBER out of its bounds");
        bounds("sand ", new String[] {"0", "3", "4"}, " 0;");
        bounds("sand 0 ", new String[] {"0", "9", "10"}, ";");
        bounds("tide ", new String[] {"0", "9", "10"}, ";");
        bounds("tide 1 2 3 4 5 ", new String[] {"0", "9", "10"}, ";");
        bounds("law ", new String[] {"0", "3", "4"}, ";");
        bounds("rot ", new String[] {"1", "9", "10"}, ";");
        bounds("gangs ", new String[] {"1", "2", "3"}, ";");
        refused("rot 0;", 3, 4);
        refused("rot 00;", 3, 4);
        refused("gangs 0;", 3, 6);
        refused("sand 99 0;", 3, 5);
        refused("sand 0 99;", 3, 7);
        refused("tide 99;", 3, 5);
        refused("law 99;", 3, 4);
        refused("rot 99;", 3, 4);
        refused("gangs 99;", 3, 6);
    }

    /** The least and the greatest that are taken, and the first that is not. */
    private static void bounds(String ahead, String[] sides, String behind) {
        taken(ahead + sides[0] + behind, 1);
        taken(ahead + sides[1] + behind, 1);
        refused(ahead + sides[2] + behind, 3, ahead.length());
    }

    private static void numbersOfEachPart() {
        C.in("5: 3, the NUMBERS of a whale");
        for (int head = 0; head <= 5; head++) {
            taken(SANDS + "whale " + head + " 1 1 1;", 7);
        }
        refused(SANDS + "whale 6 1 1 1;", 3, 60);
        refused(SANDS + "whale 99 1 1 1;", 3, 60);
        String[] parts = {"", "1 1 1 ", "1 1 1 1 1 1 "};
        for (String part : parts) {
            String ahead = SANDS + "whale 0 " + part;
            for (int worth = 0; worth <= 9; worth++) {
                taken(ahead + worth + " 1 1;", 7);
            }
            refused(ahead + "10 1 1;", 3, ahead.length());
            refused(ahead + "99 1 1;", 3, ahead.length());
            for (int work = 1; work <= 3; work++) {
                taken(ahead + "1 " + work + " 1;", 7);
            }
            refused(ahead + "1 0 1;", 3, ahead.length() + 2);
            refused(ahead + "1 4 1;", 3, ahead.length() + 2);
            for (int lump = 0; lump <= 8; lump++) {
                taken(ahead + "1 1 " + lump + ";", 7);
            }
            refused(ahead + "1 1 9;", 3, ahead.length() + 4);
            refused(ahead + "1 1 10;", 3, ahead.length() + 4);
        }
    }

    private static void secondTime() {
        C.in("5: 4, law, rot, gangs for the second time (its NAME)");
        for (String name : new String[] {"law", "rot", "gangs"}) {
            String once = name + " 1;";
            refused(once + once, 4, once.length());
            refused(once + " " + name, 4, once.length() + 1);
            refused(once + name + "!", 4, once.length());
            refused(once + "sand 0 0;tide 1;" + name + " 77;", 4, once.length() + 16);
            refused(once + once + once, 4, once.length());
        }
        taken("law 1;rot 1;gangs 1;", 3);
        taken("gangs 2;rot 2;law 2;", 3);
        taken("sand 0 0;sand 0 0;tide 1;tide 1;", 4);
        taken("sand 0 9;sand 0 9;whale 0 1 1 1;whale 1 1 1 1;", 4);
        refused("law 1;rot 1;gangs 1;rot 1;", 4, 20);
        // a NAME that is refused for its NUMBER has a FAULT of its own, met first
        refused("law 4;law 1;", 3, 4);
    }

    private static void tooMany() {
        C.in("5: 5, one more than there may be");
        taken(SANDS, 6);
        refused(SANDS + "sand 0 9;", 5, 54);
        refused(SANDS + "  sand", 5, 56);
        refused(SANDS + "sand 9 9;", 5, 54);
        refused(SANDS + "sand!", 5, 54);
        taken(SANDS + "whale 0 1 1 1;whale 1 1 1 1;whale 2 1 1 1;", 9);
        refused(SANDS + "whale 0 1 1 1;whale 1 1 1 1;whale 2 1 1 1;whale 3 1 1 1;", 5, 96);
        refused("whale 0 1 1 1;whale 0 1 1 1;whale 0 1 1 1;whale", 5, 42);
        refused("whale 0 1 1 1;whale 0 1 1 1;whale 0 1 1 1;whale 9;", 5, 42);
        taken("tide 1 2 3 4 5 6;", 1);
        refused("tide 1 2 3 4 5 6 7;", 5, 17);
        refused("tide 1 2 3 4 5 6 7", 5, 17);
        refused("tide 1 2 3 4 5 6 10;", 5, 17);
        refused("tide 1 2 3 4 5 6 99;", 5, 17);
        refused("tide 1 2 3 4 5 6 law;", 2, 17);
        refused("tide 1 2 3 4 5 6 !", 1, 17);
        taken("tide 1;tide 2;tide 3;tide 4;tide 5;tide 6;", 6);
        refused("tide 1;tide 2;tide 3;tide 4;tide 5;tide 6;tide 7;", 5, 47);
        refused("tide 1;tide 2;tide 3;tide 4;tide 5;tide 6;tide ;", 2, 47);
        refused("tide 1;tide 2;tide 3;tide 4;tide 5;tide 6;tide", 2, 46);
        taken("tide 1 2 3 4 5;tide 6;", 2);
        refused("tide 1 2 3 4 5;tide 6 7;", 5, 22);
        taken(SANDS + "whale 0 1 1 1 1 1 1 1 1 1;", 7);
        refused(SANDS + "whale 0 1 1 1 1 1 1 1 1 1 1;", 5, 80);
        refused(SANDS + "whale 0 1 1 1 1 1 1 1 1 1 1 1 1;", 5, 80);
        refused(SANDS + "whale 0 1 1 1 1 1 1 1 1 1 10", 5, 80);
        refused(SANDS + "whale 0 1 1 1 1 1 1 1 1 1 law", 2, 80);
        refused(SANDS + "whale 0 1 1 1 1 1 1 1 1 1", 2, 79);
    }

    private static void allThatThereMayBe() {
        String all = "sand0 9;sand1 8;sand2 7;sand3 6;sand0 5;sand1 4;tide0;tide1;tide2;tide3;tide2;tide1;"
            + "whale0 9 3 8;whale5 0 1 0;whale3 5 2 4;law3;rot9;gangs2;";
        Script.run(C, "Terms 1: all that there may be", "text " + all, "rule(0) = 6", "rule(1) = 6", "rule(2) = 3", "rule(3) = 3",
            "rule(4) = 9", "rule(5) = 2", "place(5, 0) = 1", "place(5, 1) = 4", "level(5) = 1", "level(6) = 0", "beast(2, 0) = 3",
            "part(0, 0) = 9", "part(0, 1) = 3", "part(0, 2) = 8", "part(10, 0) = 0", "part(10, 1) = 1", "part(10, 2) = 0",
            "part(20, 0) = 5", "part(20, 1) = 2", "part(20, 2) = 4");
        Script.run(C, "Terms 1: the longest BEASTS", "text " + SANDS + "whale 3 1 1 1 2 2 2 3 3 3;whale 0 4 1 4 5 2 5 6 3 6;",
            "rule(2) = 2", "beast(0, 0) = 3", "beast(0, 1) = 3", "beast(1, 0) = 0", "beast(1, 1) = 3", "part(2, 0) = 3",
            "part(2, 1) = 3", "part(2, 2) = 3", "part(12, 0) = 6", "part(12, 2) = 6", "part(10, 0) = 4", "part(11, 1) = 2");
    }

    /** PLACES, LEVELS, BEASTS, LAW, ROT, GANGS behind a text. */
    private static void tells(String text, int... due) {
        String[] rows = {"text " + text};
        for (int i = 0; i < due.length; i++) {
            rows = Script.join(rows, "rule(" + i + ") = " + due[i]);
        }
        Script.run(C, "Terms 1: what is not told is as at first, " + text, rows);
    }

    private static void eachLineItsOwn() {
        tells("", 0, 1, 0, 0, 4, 1);
        tells("sand 3 9;", 1, 1, 0, 0, 4, 1);
        tells("tide 9;", 0, 1, 0, 0, 4, 1);
        tells("tide 9 9;", 0, 2, 0, 0, 4, 1);
        tells("law 0;", 0, 1, 0, 0, 4, 1);
        tells("law 3;", 0, 1, 0, 3, 4, 1);
        tells("rot 1;", 0, 1, 0, 0, 1, 1);
        tells("rot 9;", 0, 1, 0, 0, 9, 1);
        tells("gangs 1;", 0, 1, 0, 0, 4, 1);
        tells("gangs 2;", 0, 1, 0, 0, 4, 2);
        tells("whale 0 9 3 8;sand 0 0;", 1, 1, 1, 0, 4, 1);
    }

    private static void placesThatThereAreNot() {
        C.in("5: 6, a BEAST that lies on a PLACE that there is not (the length)");
        refused("whale 0 1 1 1;", 6, 14);
        String[] parts = {" 1 1 1", " 1 1 1 1 1 1", " 1 1 1 1 1 1 1 1 1"};
        for (int places = 1; places <= 6; places++) {
            String sands = SANDS.substring(0, 9 * places);
            for (int n = 1; n <= 3; n++) {
                for (int head = 0; head <= 5; head++) {
                    String text = sands + "whale " + head + parts[n - 1] + ";";
                    if (head + n <= places) {
                        taken(text, places + 1);
                        taken(text + "  ", places + 1);
                    } else {
                        refused(text, 6, text.length());
                        refused(text + "  ", 6, text.length() + 2);
                    }
                }
            }
        }
        taken("whale 0 1 1 1;sand 0 9;", 2);
        refused("sand 0 9;whale 0 1 1 1;whale 1 1 1 1;", 6, 37);
    }

    private static void beastsOnOnePlace() {
        C.in("5: 7, two BEASTS on one PLACE (the length)");
        String[] parts = {" 1 1 1", " 1 1 1 1 1 1", " 1 1 1 1 1 1 1 1 1"};
        for (int n = 1; n <= 3; n++) {
            for (int m = 1; m <= 3; m++) {
                for (int at = 0; at + m <= 6; at++) {
                    String text = SANDS + "whale 2" + parts[n - 1] + ";whale " + at + parts[m - 1] + ";";
                    if (at + m <= 2 || at >= 2 + n) {
                        taken(text, 8);
                    } else {
                        refused(text, 7, text.length());
                        refused(text + " ", 7, text.length() + 1);
                    }
                }
            }
        }
        refused(SANDS + "whale 0 1 1 1;whale 1 1 1 1;whale 0 1 1 1;", 7, 96);
        refused(SANDS + "whale 0 1 1 1;whale 1 1 1 1;whale 1 1 1 1;", 7, 96);
        refused("sand 0 9;whale 0 1 1 1;whale 0 1 1 1;whale 1 1 1 1;", 6, 51);
    }

    private static void theFirstMet() {
        C.in("5: the first met as it is read");
        refused("law 4!", 3, 4);
        refused("law 4 law", 3, 4);
        refused("law !4", 1, 4);
        refused("law 1 !", 1, 6);
        refused("sand 4 10;", 3, 5);
        refused("sand 0 10!", 3, 7);
        refused("lax!", 2, 0);
        refused("law 1 2!", 2, 6);
        refused("whale 0 1 1 1;law 4;", 3, 18);
        refused("whale 0 1 1 1;whale 0 1 1 1;!", 1, 28);
        refused("whale 6 10 0 9;", 3, 6);
        refused("whale 0 10 0 9;", 3, 8);
        refused("whale 0 9 0 9;", 3, 10);
        refused("whale 0 9 1 9;", 3, 12);
        refused("! law 4;", 1, 0);
        refused("rot 1;rot 0;", 4, 6);
    }

    private static void theWholeTape() {
        C.in("4: a text of 160 bytes");
        String line = "law 1;";
        taken(line + " ".repeat(154), 1);
        taken(" ".repeat(154) + line, 1);
        taken(" ".repeat(160), 0);
        refused(" ".repeat(155) + "law 1", 2, 160);
        refused(" ".repeat(159) + ";", 2, 159);
        refused(" ".repeat(159) + "!", 1, 159);
        refused(" ".repeat(159) + "a", 2, 159);
        refused(" ".repeat(154) + "law 4;", 3, 158);
        refused(" ".repeat(146) + "whale 0 1 1 1;", 6, 160);
        refused("a".repeat(160), 2, 0);
        refused(";".repeat(160), 2, 0);
        C.in("4: an empty one");
        taken("", 0);
    }

    private static void refusedChangesNothing() {
        Script.run(C, "4: that which was told stays", Script.join(BUSY, "text() = 1"));
        String[] texts = {"!", "lax", "sand 0 0;law 4;", "rot 1;rot 1;", "tide 9 9 9 9 9 9 9;", "whale 0 1 1 1;",
            "sand 0 0;whale 0 1 1 1;whale 0 1 1 1;"};
        int[] answers = {-10, -10, -23, -16, -27, -24, -47};
        for (int i = 0; i < texts.length; i++) {
            Script.run(C, "4: that which was told stays, but THE TAPE is empty",
                Script.join(BUSY, "end(0) = 6", "tape " + texts[i], "text() = " + answers[i], "count(2) = 0"));
        }
    }

    private static void takenTellsAll() {
        String[] texts = {"", "sand 3 2;", "tide 1 9;", "sand 0 9;sand 0 9;whale 1 1 1 1;", "sand 0 0;sand 0 1;tide 0 1;law 1;rot 1;whale 0 3 3 3 2 2 2;"};
        for (String text : texts) {
            Script.alike(C, "Terms 1: a text that is taken tells all, in place of what there was",
                Script.join(BUSY, "end(0) = 6", "text " + text), new String[] {"sheet(0, 0, 3) = 1", "text " + text});
        }
        Script.run(C, "Terms 1: HOUR is 0, nobody HAS anything, nothing is TOLD; IMAGES are gone", Script.join(BUSY, "rule(6) = 2",
            "has(1) = 8", "count(0) = 2", "count(1) = 2", "count(2) = 6", "count(4) = 1", "count(5) = 1", "text() = 1",
            "rule(6) = 0", "has(1) = 0", "count(0) = 0", "count(1) = 0", "count(2) = 0", "back(0) = STATE", "back(1) = STATE",
            "keep(1) = 0", "rule(0) = 0", "rule(1) = 1", "level(0) = 0", "rule(2) = 0", "rule(3) = 0", "rule(4) = 5",
            "rule(5) = 1", "count(3) = 3", "torn() = 3", "count(4) = 0", "count(5) = 0"));
    }

    private static void atOnceLost() {
        Script.run(C, "Terms 2: if it does in HOUR (also at once), it is LOST",
            "text sand 0 4;sand 0 5;sand 0 4;sand 0 4;tide 5 0;whale 0 1 1 1;whale 1 1 1 1;whale 2 1 1 1 1 1 1;",
            "beast(0, 2) = 1", "beast(1, 2) = 0", "beast(2, 2) = 1", "count(5) = 2", "part(0, 4) = 0", "part(10, 4) = 1",
            "part(20, 4) = 0", "go(0, NONE) = STATE", "floats(0) = STATE", "best(1, 10) = 10");
        Script.run(C, "Terms 2: not in HOUR 0, but later", "text sand 0 4;tide 4 5;whale 0 1 3 1;", "beast(0, 2) = 0",
            "go(0, NONE) = 0", "beast(0, 2) = 1");
        Script.run(C, "Terms 2: one PLACE is dry", "text sand 0 0;sand 0 0;sand 0 9;tide 9;whale 0 1 1 1 1 1 1 1 1 1;",
            "beast(0, 2) = 0", "part(0, 4) = 0", "part(1, 4) = 0", "part(2, 4) = 1");
    }

    private static void faultOfTheLatest() {
        Script.run(C, "5: the FAULT of the latest text(); 0", "fault() = 0", "tape !", "fault() = 0", "text() = -10", "fault() = 1",
            "tape law", "fault() = 1", "end(0) = 3", "fault() = 1", "text() = 0", "fault() = 0", "tape law 9;", "text() = -14",
            "fault() = 3", "feed(-1) = BAD", "keep(0) = 0", "back(0) = 0", "sheet(0, 0, -1) = -14", "fault() = 3", "tape law",
            "text() = -13", "fault() = 2", "text rot 3;", "fault() = 0");
    }
}
