/** The boundaries of promises 24 to 28: LAWS, what is TOLD. */
public final class EdgeLawsTest {
    private static final Check C = new Check();
    private static final String SHORE = "text sand 0 3;sand 1 2;sand 1 5;sand 2 4;tide 1 3 5 2;rot 2;gangs 2;"
        + "whale 0 9 2 4 6 1 0;whale 2 8 1 8 5 3 1;";
    private static final String ALL = "text sand 3 9;sand 3 9;sand 3 9;sand 3 9;sand 3 9;sand 3 9;"
        + "whale 0 9 3 0 9 3 0 9 3 0;whale 3 9 3 0 9 3 0 9 3 0;";

    public static void main(String[] args) {
        shareBounds();
        shareOfAll();
        shareOfCutAndLost();
        tellBounds();
        tellIsFull();
        forget();
        lawsOfNothing();
        lawsJustSoMuch();
        whoseBounds();
        whoseOfPlaces();
        C.finish("EdgeLawsTest");
    }

    private static void shareBounds() {
        Script.run(C, "24: an OWNER, a LAW (0 to 3)", SHORE, "share(MIN, 0) = BAD", "share(-1, 0) = BAD", "share(0, 0) = 15", "share(3, 0) = 0",
            "share(4, 0) = BAD", "share(MAX, 0) = BAD", "share(0, MIN) = BAD", "share(0, -1) = BAD", "share(1, 1) = 15", "share(2, 1) = 13",
            "share(1, 2) = 14", "share(2, 2) = 5", "share(1, 3) = 13", "share(0, 3) = 15", "share(0, 4) = BAD", "share(0, MAX) = BAD",
            "share(4, 4) = BAD", "rule(3) = 0");
        Script.run(C, "24: no BEASTS", "text sand 0 9;", "share(0, 0) = 0", "share(3, 3) = 0", "share(4, 0) = BAD", "share(0, 4) = BAD");
    }

    private static void shareOfAll() {
        Script.run(C, "24: all that there may be", ALL, "share(3, 0) = 54", "share(3, 1) = 54", "share(3, 2) = 54", "share(3, 3) = 54",
            "share(2, 3) = 0", "share(0, 0) = 0", "own(0, 0) = 3", "share(0, 0) = 27", "share(0, 1) = 0", "share(0, 2) = 9", "share(0, 3) = 0",
            "own(1, 0) = 3", "share(0, 3) = 27", "own(5, 1) = 3", "share(1, 1) = 27", "share(1, 0) = 0", "share(1, 2) = 9");
    }

    private static void shareOfCutAndLost() {
        Script.run(C, "24: at their full WORTH, LOST or not, CUT or not", SHORE, "go(0, 10) = 8", "go(NONE, NONE) = 0", "count(5) = 1",
            "share(0, 0) = 15", "share(1, 0) = 13", "tell(0, 15) = 1", "laws() = 9", "go(NONE, NONE) = 0", "go(NONE, NONE) = 0",
            "share(0, 0) = 15", "laws() = 9", "whose(0) = 1");
    }

    private static void tellBounds() {
        Script.run(C, "25: an OWNER had so much (0 to 99)", SHORE, "tell(MIN, 0) = BAD", "tell(-1, 0) = BAD", "tell(4, 0) = BAD",
            "tell(MAX, 0) = BAD", "tell(0, MIN) = BAD", "tell(0, -1) = BAD", "tell(0, 100) = BAD", "tell(0, MAX) = BAD", "count(0) = 0",
            "tell(0, 0) = 1", "tell(3, 99) = 2", "tell(0, 99) = 3", "tell(3, 0) = 4", "tell(4, 100) = BAD", "count(0) = 4");
        Script.run(C, "25: of nothing", "tell(0, 0) = 1", "tell(3, 99) = 2", "laws() = 0", "forget(1) = 2", "laws() = 15");
    }

    private static void tellIsFull() {
        Script.run(C, "25: TOLD (6); FULL", SHORE, "tell(0, 15) = 1", "tell(0, 15) = 2", "tell(1, 13) = 3", "tell(2, 0) = 4", "tell(3, 0) = 5",
            "laws() = 9", "tell(0, 15) = 6", "laws() = 9", "tell(0, 14) = FULL", "tell(0, 15) = FULL", "tell(0, 100) = BAD", "tell(4, 0) = BAD",
            "count(0) = 6", "laws() = 9", "forget(5) = 6", "tell(0, 14) = 6", "laws() = 0", "tell(0, 0) = FULL");
    }

    private static void forget() {
        Script.run(C, "26: nothing TOLD", SHORE, "forget(MIN) = BAD", "forget(-1) = BAD", "forget(1) = BAD", "forget(MAX) = BAD", "forget(0) = 0");
        Script.run(C, "26: the first n alone", SHORE, "tell(1, 15) = 1", "tell(2, 13) = 2", "tell(3, 1) = 3", "laws() = 0", "forget(-1) = BAD",
            "forget(4) = BAD", "forget(3) = 3", "count(0) = 3", "forget(2) = 3", "count(0) = 2", "laws() = 2", "forget(3) = BAD",
            "forget(1) = 2", "laws() = 2", "forget(0) = 1", "count(0) = 0", "laws() = 15", "forget(1) = BAD", "forget(0) = 0", "tell(0, 9) = 1",
            "laws() = 4");
        Script.run(C, "26: all six", SHORE, "tell(0, 1) = 1", "tell(0, 1) = 2", "tell(0, 1) = 3", "tell(0, 1) = 4", "tell(0, 1) = 5",
            "tell(0, 1) = 6", "forget(7) = BAD", "forget(6) = 6", "forget(0) = 6", "count(0) = 0");
    }

    private static void lawsOfNothing() {
        Script.run(C, "27: nothing TOLD, no BEASTS", "laws() = 15", "tell(0, 0) = 1", "laws() = 15", "tell(0, 1) = 2", "laws() = 0");
        Script.run(C, "27: no LAW", ALL, "tell(3, 53) = 1", "laws() = 0", "forget(0) = 1", "tell(3, 55) = 1", "laws() = 0", "forget(0) = 1",
            "tell(3, 54) = 1", "laws() = 15", "tell(0, 0) = 2", "tell(1, 0) = 3", "tell(2, 0) = 4", "laws() = 15", "tell(2, 1) = 5", "laws() = 0");
    }

    private static void lawsJustSoMuch() {
        Script.run(C, "27: just so much", SHORE, "tell(0, 15) = 1", "laws() = 9", "forget(0) = 1", "tell(0, 14) = 1", "laws() = 0",
            "forget(0) = 1", "tell(0, 16) = 1", "laws() = 0", "forget(0) = 1", "tell(0, 0) = 1", "laws() = 2", "forget(0) = 1", "tell(0, 9) = 1",
            "laws() = 4", "tell(0, 9) = 2", "laws() = 4", "tell(0, 8) = 3", "laws() = 0", "forget(0) = 3", "tell(3, 0) = 1", "laws() = 15",
            "tell(2, 0) = 2", "laws() = 9", "law(2) = 0", "laws() = 9");
        Script.run(C, "27: each LAW by itself", "text sand 0 9;sand 1 9;sand 1 9;whale 0 1 1 0 2 1 0 4 1 0;", "tell(0, 7) = 1", "laws() = 1",
            "forget(0) = 1", "tell(1, 7) = 1", "laws() = 10", "forget(0) = 1", "tell(1, 6) = 1", "laws() = 4", "own(2, 0) = 1", "forget(0) = 1",
            "tell(1, 2) = 1", "laws() = 4", "forget(0) = 1", "tell(0, 7) = 1", "laws() = 11");
    }

    private static void whoseBounds() {
        Script.run(C, "28: there is no such PLACE", "whose(-1) = BAD", "whose(0) = BAD", "whose(MIN) = BAD", "whose(MAX) = BAD");
        Script.run(C, "28: PLACES", SHORE, "whose(MIN) = BAD", "whose(-1) = BAD", "whose(0) = 15", "whose(3) = 15", "whose(4) = BAD",
            "whose(MAX) = BAD");
        Script.run(C, "28: six PLACES", ALL, "whose(5) = 15", "whose(6) = BAD", "tell(3, 54) = 1", "whose(0) = 8", "whose(5) = 15",
            "law(1) = 0", "whose(5) = 8", "whose(0) = 15", "law(3) = 1", "whose(0) = 15", "whose(5) = 15", "own(1, 0) = 3", "whose(0) = 8",
            "law(2) = 3", "whose(0) = 0", "whose(1) = 8");
    }

    private static void whoseOfPlaces() {
        Script.run(C, "28: to no OWNER, to some, to all", SHORE, "tell(0, 15) = 1", "whose(0) = 1", "whose(1) = 15", "whose(2) = 14",
            "whose(3) = 15", "tell(1, 13) = 2", "whose(2) = 2", "whose(0) = 1", "tell(1, 12) = 3", "whose(0) = 0", "whose(1) = 0");
        Script.run(C, "28: a PLACE without a BEAST", "text sand 0 9;sand 1 9;whale 0 5 1 0;", "tell(0, 5) = 1", "whose(1) = 15", "whose(0) = 1",
            "tell(0, 4) = 2", "whose(1) = 0");
        Script.run(C, "28: LAW, not another one", SHORE, "law(2) = 0", "tell(2, 5) = 1", "whose(3) = 4", "whose(0) = 11", "law(0) = 2",
            "whose(3) = 0", "place(3, 0) = 2");
        Script.run(C, "28: LAW 3, of several the least", "text sand 1 9;sand 2 9;law 3;whale 0 5 1 0 4 1 0;", "tell(1, 9) = 1", "whose(0) = 2",
            "whose(1) = 14", "own(0, 2) = 1", "whose(1) = 2", "whose(0) = 2");
    }
}
