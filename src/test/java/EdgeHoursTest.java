/** The boundaries of promises 17 to 20: HOURS. */
public final class EdgeHoursTest {
    private static final Check C = new Check();
    private static final String SHORE = "text sand 0 3;sand 1 2;sand 1 5;sand 2 4;tide 1 3 5 2;rot 2;gangs 2;"
        + "whale 0 9 2 4 6 1 0;whale 2 8 1 8 5 3 1;";

    public static void main(String[] args) {
        noSuchPart();
        alike();
        oneGang();
        canNotBeWorked();
        theFirstThatFits();
        workAndCut();
        wonInThatHour();
        lostBehindTheHour();
        lostForGood();
        hourWrapsAround();
        theThousandth();
        wet();
        floats();
        floatsBeyond();
        has();
        C.finish("EdgeHoursTest");
    }

    private static void noSuchPart() {
        Script.run(C, "17: BAD: no such PART", SHORE, "go(MIN, NONE) = BAD", "go(-10, NONE) = BAD", "go(-5, NONE) = BAD",
            "go(-3, NONE) = BAD", "go(-2, NONE) = BAD", "go(-1, NONE) = BAD", "go(2, NONE) = BAD", "go(9, NONE) = BAD",
            "go(12, NONE) = BAD", "go(20, NONE) = BAD", "go(30, NONE) = BAD", "go(MAX, NONE) = BAD", "go(NONE, MIN) = BAD",
            "go(NONE, -5) = BAD", "go(NONE, -3) = BAD", "go(NONE, -1) = BAD", "go(NONE, 2) = BAD", "go(NONE, 12) = BAD",
            "go(NONE, 20) = BAD", "go(NONE, MAX) = BAD", "go(0, 2) = BAD", "go(2, 0) = BAD", "rule(6) = 0", "go(0, 11) = 0",
            "rule(6) = 1");
        Script.run(C, "17: nothing there", "gangs(2) = 1", "go(0, NONE) = BAD", "go(NONE, 0) = BAD", "go(NONE, NONE) = 0", "rule(6) = 1");
    }

    private static void alike() {
        Script.run(C, "17: BAD: alike", SHORE, "go(0, 0) = BAD", "go(11, 11) = BAD", "go(2, 2) = BAD", "go(NONE, NONE) = 0", "rule(6) = 1");
    }

    private static void oneGang() {
        Script.run(C, "17: BAD: y not NONE of one GANG", SHORE, "gangs(1) = 2", "go(0, 1) = BAD", "go(NONE, 1) = BAD", "go(NONE, 2) = BAD",
            "go(NONE, -1) = BAD", "part(1, 1) = 1", "rule(6) = 0", "go(1, NONE) = 6", "go(NONE, NONE) = 0", "rule(6) = 2");
        Script.run(C, "17: two GANGS", SHORE, "go(NONE, 1) = 6", "go(NONE, NONE) = 0", "rule(6) = 2", "go(NONE, 11) = STATE",
            "go(NONE, NONE) = 0", "go(11, NONE) = 0", "part(11, 1) = 2");
    }

    private static void canNotBeWorked() {
        Script.run(C, "17: STATE: it can not be WORKED", SHORE, "go(0, 10) = 8", "go(10, NONE) = STATE", "go(NONE, 10) = STATE",
            "go(11, 10) = STATE", "go(10, 11) = STATE", "go(1, NONE) = STATE", "go(0, 1) = STATE", "go(1, 0) = STATE", "rule(6) = 1",
            "part(0, 1) = 1", "part(11, 1) = 3", "go(NONE, NONE) = 0", "go(0, NONE) = STATE", "go(1, NONE) = STATE",
            "go(11, NONE) = STATE", "go(NONE, NONE) = 0", "go(0, NONE) = STATE", "go(11, 0) = STATE", "go(11, NONE) = 0");
        Script.run(C, "17: LEVEL at MARK and 1 above it", "text sand 0 4;sand 0 9;tide 4 5;whale 0 1 3 0 1 1 0;", "go(0, NONE) = 0",
            "go(0, NONE) = STATE", "go(1, NONE) = 1", "go(0, NONE) = 0");
    }

    private static void theFirstThatFits() {
        Script.run(C, "BAD ahead of STATE", SHORE, "go(10, NONE) = 8", "go(10, 10) = BAD", "go(10, 2) = BAD", "go(2, 10) = BAD",
            "go(1, 1) = BAD", "gangs(1) = 2", "go(10, 11) = BAD", "go(10, NONE) = STATE");
    }

    private static void workAndCut() {
        Script.run(C, "Terms 2: WORK of it is 1 less; if it is 0, the PART is CUT and won",
            "text sand 0 9;sand 1 9;sand 2 9;law 2;rot 9;gangs 2;whale 0 3 1 0 5 2 0 7 3 0;", "go(1, 2) = 0", "part(1, 1) = 1",
            "part(2, 1) = 2", "part(0, 1) = 1", "count(4) = 0", "go(2, 1) = 5", "count(4) = 1", "has(1) = 5", "go(0, 2) = 10",
            "has(0) = 3", "has(2) = 7", "count(4) = 3", "rule(6) = 3", "part(2, 1) = 0", "part(2, 0) = 7", "go(0, NONE) = STATE",
            "go(NONE, NONE) = 0");
        Script.run(C, "Terms 2: of WORTH 0", "text sand 0 9;whale 0 0 1 0;", "go(0, NONE) = 0", "count(4) = 1", "has(0) = 0");
    }

    private static void wonInThatHour() {
        Script.run(C, "Terms 2: what it is worth NOW (in that HOUR)", "text sand 0 9;sand 0 9;sand 0 9;rot 1;whale 0 9 1 0 9 1 0 9 1 0;",
            "go(0, NONE) = 9", "part(1, 3) = 8", "go(1, NONE) = 8", "part(2, 3) = 7", "go(2, NONE) = 7", "has(0) = 24");
        Script.run(C, "Terms 2: its OWNER by LAW, as they are in that HOUR", "text sand 0 9;sand 1 9;rot 9;whale 0 3 1 0 5 1 0;",
            "law(1) = 0", "go(0, NONE) = 3", "has(1) = 3", "own(1, 3) = 1", "go(1, NONE) = 5", "has(3) = 5", "has(1) = 3", "has(0) = 0");
    }

    private static void lostBehindTheHour() {
        Script.run(C, "Terms 2: HOUR is 1 more; BEASTS that FLOAT then are LOST",
            "text sand 0 4;sand 0 5;tide 4 5;gangs 2;whale 0 6 1 0;whale 1 7 2 0;", "go(0, 10) = 6", "has(0) = 6", "count(4) = 1",
            "beast(0, 2) = 1", "beast(1, 2) = 0", "go(10, NONE) = 7", "count(5) = 1");
        Script.run(C, "Terms 2: all of its PARTS that are not CUT", "text sand 0 4;sand 0 4;tide 0 5;whale 0 6 1 0 7 1 0;",
            "go(0, NONE) = 6", "count(4) = 1", "count(5) = 1", "part(1, 1) = 1", "part(1, 4) = 0", "go(1, NONE) = STATE", "has(0) = 6");
    }

    private static void lostForGood() {
        String[] numbers = {"0", "10", "11", "20", "21", "22"};
        String[] rows = {"text sand 0 4;sand 0 4;sand 0 4;sand 0 4;sand 0 4;sand 0 4;tide 0 5 0;gangs 2;"
            + "whale 0 9 3 8;whale 1 9 3 8 9 3 8;whale 3 9 3 8 9 3 8 9 3 8;", "go(NONE, NONE) = 0", "wet(1) = 63", "count(5) = 3",
            "go(NONE, NONE) = 0", "wet(2) = 0", "count(5) = 3"};
        for (String x : numbers) {
            rows = Script.join(rows, "part(" + x + ", 4) = 0", "go(" + x + ", NONE) = STATE", "go(NONE, " + x + ") = STATE");
        }
        Script.run(C, "Terms 2: what is LOST can not be WORKED, though it is dry again", Script.join(rows, "open() = NONE",
            "best(1, 10) = NONE", "best(6, 0) = 0", "drift(0, 60, 0) = 0", "drift(0, 1, 1) = 3", "luck(0, 0) = 0", "luck(1, 0) = 0",
            "luck(2, 0) = 0"));
        Script.run(C, "Terms 2: one that is LOST, others that are not",
            "text sand 0 9;sand 0 4;sand 0 4;sand 0 9;tide 0 5 0;whale 0 9 3 8;whale 1 9 3 8 9 3 8;whale 3 9 3 8;", "go(NONE, NONE) = 0",
            "go(NONE, NONE) = 0", "beast(0, 2) = 0", "beast(1, 2) = 1", "beast(2, 2) = 0", "part(0, 4) = 1", "part(10, 4) = 0",
            "part(11, 4) = 0", "part(20, 4) = 1", "go(11, NONE) = STATE", "go(20, NONE) = 0", "go(0, NONE) = 0");
    }

    private static void hourWrapsAround() {
        Script.run(C, "Terms 1: LEVEL of HOUR 2 of 2 is that of HOUR 0", "text sand 0 9;tide 4 0;whale 0 5 3 0;", "go(0, NONE) = 0",
            "mark(0, 3) = 9", "beast(0, 2) = 0", "go(0, NONE) = 0", "rule(6) = 2", "beast(0, 2) = 1");
        Script.run(C, "Terms 1: the last LEVEL of six", "text sand 0 4;tide 0 0 0 0 0 5;whale 0 5 3 0;", "go(NONE, NONE) = 0",
            "go(NONE, NONE) = 0", "go(NONE, NONE) = 0", "go(NONE, NONE) = 0", "beast(0, 2) = 0", "go(NONE, NONE) = 0", "rule(6) = 5",
            "beast(0, 2) = 1");
    }

    private static void theThousandth() {
        String shore = "text sand 0 9;sand 0 4;sand 0 9;tide 0 5;gangs 2;whale 0 5 1 0 5 1 0 5 3 0;";
        String[] late = Script.join(Script.join(new String[] {shore, "keep(0) = 0", "go(0, NONE) = 5"}, Script.idle(997)),
            "rule(6) = 998", "keep(1) = 0", "go(2, NONE) = 0");
        Script.run(C, "17: FULL: it would be the 1000th", Script.join(late, "rule(6) = 999", "go(NONE, NONE) = FULL", "go(2, NONE) = FULL",
            "go(NONE, 2) = FULL", "go(0, NONE) = STATE", "go(1, NONE) = STATE", "go(3, NONE) = BAD", "go(2, 2) = BAD",
            "read(3, 0, 0, 1) = -20", "read(3, 0, 0, 0) = 0", "rule(6) = 999", "part(2, 1) = 2", "level(999) = 5"));
        Script.run(C, "17: back from the last", Script.join(late, "go(NONE, NONE) = FULL", "back(1) = 998", "go(NONE, NONE) = 0",
            "go(NONE, NONE) = FULL", "back(0) = 0", "go(0, 1) = 10", "rule(6) = 1"));
        Script.run(C, "17: a text from the last", Script.join(late, "go(NONE, NONE) = FULL", "text() = 0", "go(NONE, NONE) = 0", "rule(6) = 1"));
    }

    private static void wet() {
        Script.run(C, "18: PLACES that are WET in an HOUR (0 to 999; bits)",
            "text sand 0 0;sand 0 1;sand 0 5;sand 0 9;sand 0 8;sand 0 2;tide 0 1 2 6 9;", "wet(MIN) = BAD", "wet(-1) = BAD", "wet(0) = 0",
            "wet(1) = 1", "wet(2) = 3", "wet(3) = 39", "wet(4) = 55", "wet(5) = 0", "wet(6) = 1", "wet(998) = 39", "wet(999) = 55",
            "wet(1000) = BAD", "wet(MAX) = BAD", "mark(3, 8) = 9", "wet(4) = 63", "wet(9) = 63");
        Script.run(C, "8, 18: of an HOUR, whatever HOUR is", "text sand 0 3;tide 1 4 2;", "go(NONE, NONE) = 0", "level(0) = 1", "level(1) = 4",
            "level(2) = 2", "level(3) = 1", "wet(0) = 0", "wet(1) = 1", "wet(2) = 0", "go(NONE, NONE) = 0", "level(0) = 1", "wet(1) = 1");
        Script.run(C, "18: no PLACES", "text tide 9;", "wet(0) = 0", "wet(999) = 0", "wet(1000) = BAD");
        Script.run(C, "18: one PLACE", "text sand 0 8;tide 8 9;", "wet(0) = 0", "wet(1) = 1", "wet(2) = 0");
        Script.run(C, "18: MARK 9 is never WET", "text sand 0 9;tide 9;", "wet(0) = 0");
    }

    private static void floats() {
        Script.run(C, "19: no such BEAST", "floats(-1) = BAD", "floats(0) = BAD", "floats(MAX) = BAD");
        Script.run(C, "19: in which a BEAST FLOATS", SHORE, "floats(MIN) = BAD", "floats(-1) = BAD", "floats(0) = 2", "floats(1) = NONE",
            "floats(2) = BAD", "floats(MAX) = BAD", "go(NONE, NONE) = 0", "floats(0) = 2", "go(NONE, NONE) = 0", "floats(0) = STATE",
            "floats(1) = NONE");
        Script.run(C, "19: of three BEASTS", "text sand 0 3;sand 0 4;sand 0 5;tide 3 4 5 6;whale 2 1 1 0;whale 1 1 1 0;whale 0 1 1 0;",
            "floats(0) = 3", "floats(1) = 2", "floats(2) = 1", "floats(3) = BAD", "go(NONE, NONE) = 0", "floats(2) = STATE", "floats(1) = 2");
        Script.run(C, "19: all its PLACES", "text sand 0 3;sand 0 4;sand 0 5;tide 4 5 6;whale 0 1 1 0 1 1 0 1 1 0;", "floats(0) = 2",
            "mark(2, 6) = 5", "floats(0) = NONE", "mark(2, 4) = 6", "floats(0) = 1", "mark(1, 3) = 4", "floats(0) = 1");
    }

    private static void floatsBeyond() {
        Script.run(C, "19: from HOUR on, an HOUR behind how many LEVELS there are", "text sand 0 9;tide 6 0 0 0 0 0;whale 0 1 3 0;",
            "floats(0) = NONE", "go(NONE, NONE) = 0", "mark(0, 5) = 9", "floats(0) = 6", "go(NONE, NONE) = 0", "floats(0) = 6");
        Script.run(C, "19: the last LEVEL of six", "text sand 0 5;tide 0 0 0 0 0 6;whale 0 1 3 0;", "floats(0) = 5", "go(0, NONE) = 0",
            "floats(0) = 5");
        String[] last = Script.join(Script.join(new String[] {"text sand 0 9;tide 0 0 0 0 0 6;whale 0 5 3 0;"}, Script.idle(999)),
            "rule(6) = 999", "floats(0) = NONE", "mark(0, 5) = 9");
        Script.run(C, "19: from HOUR on, when HOUR is the last that go() comes to", Script.join(last, "beast(0, 2) = 0", "floats(0) = 1001"));
        Script.run(C, "19: with all PARTS CUT", "text sand 0 5;tide 0 0 6;whale 0 1 1 0;", "go(0, NONE) = 1", "floats(0) = 2",
            "go(NONE, NONE) = 0", "floats(0) = STATE");
    }

    private static void has() {
        Script.run(C, "20: an OWNER (0 to 3)", SHORE, "has(MIN) = BAD", "has(-1) = BAD", "has(0) = 0", "has(1) = 0", "has(2) = 0",
            "has(3) = 0", "has(4) = BAD", "has(MAX) = BAD", "go(1, 10) = 14", "has(0) = 6", "has(1) = 8", "has(2) = 0", "has(-1) = BAD",
            "has(4) = BAD");
        Script.run(C, "20: all that can be had", "text sand 3 9;sand 3 9;sand 3 9;sand 3 9;sand 3 9;sand 3 9;rot 9;gangs 2;"
            + "whale 0 9 1 0 9 1 0 9 1 0;whale 3 9 1 0 9 1 0 9 1 0;", "go(0, 1) = 18", "go(2, 10) = 18", "go(11, 12) = 18", "has(3) = 54",
            "has(2) = 0", "count(4) = 6");
    }
}
