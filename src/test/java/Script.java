import java.util.ArrayList;
import java.util.List;
import java.util.Set;

/**
 * Runs of calls told as rows: "go(0, NONE) = STATE" is a call with the answer that is due, "text sand 0 9;" feeds a
 * text that is taken, "tape sand" feeds bytes alone. Behind every call that only asks, and behind every one that is
 * refused, the object is held against a twin that was not called so: nothing may have changed.
 */
final class Script {
    private static final int MOST_CALLS = 512;
    private static final Set<String> ASKS = Set.of("fault", "rule", "place", "level", "beast", "part", "wet", "floats", "has",
        "best", "worth", "salted", "share", "laws", "whose", "strand", "luck", "open", "drift", "torn", "count");
    private static final List<Row> SHORE = shoreRows();
    private static final List<List<Row>> LOOKS = List.of(SHORE, toldRows(), sheetRows(), imageRows(), tapeRows());

    private record Row(String name, int[] args, boolean judged, long due) {
        boolean isRefused() {
            return judged && due < 0;
        }

        @Override
        public String toString() {
            StringBuilder s = new StringBuilder(name).append('(');
            for (int i = 0; i < args.length; i++) {
                s.append(i == 0 ? "" : ", ").append(args[i]);
            }
            return s.append(')').toString();
        }
    }

    /** One object, which is used for no more calls than the document promises answers for. */
    private static final class Run {
        private final WeighedWhales x = new WeighedWhales();
        private int calls = 0;

        Run(List<Row> rows) {
            for (Row row : rows) {
                ask(row);
            }
        }

        long ask(Row row) {
            calls++;
            if (calls > MOST_CALLS) {
                throw new IllegalStateException("more than " + MOST_CALLS + " calls, at " + row);
            }
            return row.args.length < 2 ? askShort(row) : askLong(row);
        }

        private long askShort(Row row) {
            int a = row.args.length > 0 ? row.args[0] : 0;
            switch (row.name) {
                case "feed": return x.feed(a);
                case "end": return x.end(a);
                case "text": return x.text();
                case "fault": return x.fault();
                case "rule": return x.rule(a);
                case "level": return x.level(a);
                case "law": return x.law(a);
                case "rot": return x.rot(a);
                case "gangs": return x.gangs(a);
                case "wet": return x.wet(a);
                case "floats": return x.floats(a);
                case "has": return x.has(a);
                case "salted": return x.salted(a);
                case "forget": return x.forget(a);
                case "laws": return x.laws();
                case "whose": return x.whose(a);
                case "open": return x.open();
                case "keep": return x.keep(a);
                case "back": return x.back(a);
                case "torn": return x.torn();
                case "count": return x.count(a);
                default: throw new IllegalArgumentException(row.toString());
            }
        }

        private long askLong(Row row) {
            int a = row.args[0];
            int b = row.args[1];
            switch (row.name) {
                case "place": return x.place(a, b);
                case "beast": return x.beast(a, b);
                case "part": return x.part(a, b);
                case "mark": return x.mark(a, b);
                case "own": return x.own(a, b);
                case "lump": return x.lump(a, b);
                case "go": return x.go(a, b);
                case "best": return x.best(a, b);
                case "worth": return x.worth(a, b);
                case "share": return x.share(a, b);
                case "tell": return x.tell(a, b);
                case "strand": return x.strand(a, b);
                case "luck": return x.luck(a, b);
                case "drift": return x.drift(a, b, row.args[2]);
                case "sheet": return x.sheet(a, b, row.args[2]);
                case "lay": return x.lay(a, b, row.args[2]);
                case "read": return x.read(a, b, row.args[2], row.args[3]);
                default: throw new IllegalArgumentException(row.toString());
            }
        }
    }

    private Script() {
    }

    /** Runs the rows on a new object. */
    static void run(Check c, String sentence, String... lines) {
        c.in(sentence);
        List<Row> rows = parse(lines);
        Run run = new Run(List.of());
        for (int i = 0; i < rows.size(); i++) {
            Row row = rows.get(i);
            long got = run.ask(row);
            if (!row.judged) {
                continue;
            }
            c.due("call " + i + ", " + row, got, row.due);
            if (ASKS.contains(row.name) || row.isRefused()) {
                unchanged(c, rows.subList(0, i), row);
            }
        }
    }

    /** After both runs all but SHEETS, and what torn() answers, is alike. */
    static void alike(Check c, String sentence, String[] lines, String[] others) {
        c.in(sentence);
        for (List<Row> look : List.of(SHORE, toldRows(), imageRows(), tapeRows())) {
            hold(c, new Run(parse(lines)), new Run(parse(others)), look, Set.of("torn"));
        }
    }

    /** Of two rows of rows one behind the other. */
    static String[] join(String[] ahead, String... behind) {
        List<String> all = new ArrayList<>(List.of(ahead));
        all.addAll(List.of(behind));
        return all.toArray(new String[0]);
    }

    /** HOURS in which nobody works, by SHEET 3. */
    static String[] idle(int hours) {
        List<String> all = new ArrayList<>();
        all.add("sheet(3, 0, 20) = 1");
        for (int i = 0; i < 20; i++) {
            all.add("lay(3, " + i + ", NONE) = 1");
        }
        for (int went = 0; went < hours; went += 20) {
            int n = Math.min(20, hours - went);
            all.add("read(3, 0, 0, " + n + ") = " + n);
        }
        return all.toArray(new String[0]);
    }

    private static void unchanged(Check c, List<Row> before, Row asked) {
        // what a refused text() empties all the same is THE TAPE, and it has a FAULT
        boolean isText = asked.name.equals("text");
        for (List<Row> look : LOOKS) {
            Run twin = new Run(before);
            if (isText) {
                twin.ask(row("end(0)"));
            }
            Run run = new Run(before);
            run.ask(asked);
            hold(c, run, twin, look, isText ? Set.of("fault") : Set.of());
        }
    }

    private static void hold(Check c, Run run, Run twin, List<Row> look, Set<String> but) {
        for (Row row : look) {
            long got = run.ask(row);
            long want = twin.ask(row);
            if (!but.contains(row.name)) {
                c.due(row + " of what shall be alike", got, want);
            }
        }
    }

    private static List<Row> parse(String... lines) {
        List<Row> rows = new ArrayList<>();
        for (String line : lines) {
            if (line.startsWith("text ")) {
                String text = line.substring(5);
                feed(rows, text);
                long ends = text.chars().filter(c -> c == ';').count();
                rows.add(new Row("text", new int[0], true, ends));
            } else if (line.startsWith("tape ")) {
                feed(rows, line.substring(5));
            } else {
                rows.add(row(line));
            }
        }
        return rows;
    }

    private static void feed(List<Row> rows, String text) {
        for (char c : text.toCharArray()) {
            rows.add(new Row("feed", new int[] {c}, false, 0));
        }
    }

    private static Row row(String line) {
        int open = line.indexOf('(');
        int close = line.indexOf(')');
        int is = line.indexOf('=');
        String inside = line.substring(open + 1, close).trim();
        String[] words = inside.isEmpty() ? new String[0] : inside.split(",");
        int[] args = new int[words.length];
        for (int i = 0; i < words.length; i++) {
            args[i] = number(words[i].trim());
        }
        long due = is < 0 ? 0 : number(line.substring(is + 1).trim());
        return new Row(line.substring(0, open), args, is >= 0, due);
    }

    private static int number(String word) {
        switch (word) {
            case "BAD": return Check.BAD;
            case "STATE": return Check.STATE;
            case "FULL": return Check.FULL;
            case "NONE": return Check.NONE;
            case "MIN": return Integer.MIN_VALUE;
            case "MAX": return Integer.MAX_VALUE;
            default: return Integer.parseInt(word);
        }
    }

    private static List<Row> shoreRows() {
        List<Row> rows = new ArrayList<>();
        for (int i = 0; i < 7; i++) {
            rows.add(row("rule(" + i + ")"));
            rows.add(row("level(" + i + ")"));
        }
        for (int i = 0; i < 6; i++) {
            rows.add(row("place(" + i + ", 0)"));
            rows.add(row("place(" + i + ", 1)"));
            rows.add(row("count(" + i + ")"));
        }
        for (int b = 0; b < 3; b++) {
            for (int w = 0; w < 3; w++) {
                rows.add(row("beast(" + b + ", " + w + ")"));
            }
            for (int p = 0; p < 3; p++) {
                for (int w = 0; w < 6; w++) {
                    rows.add(row("part(" + (10 * b + p) + ", " + w + ")"));
                }
            }
        }
        for (int o = 0; o < 4; o++) {
            rows.add(row("has(" + o + ")"));
        }
        for (String asked : new String[] {"open()", "laws()", "floats(0)", "floats(1)", "best(2, 0)", "best(2, 10)", "best(2, 13)",
            "drift(5, 9, 0)", "drift(3, 9, 1)", "luck(0, 0)", "luck(1, 1)", "strand(1, 0)", "share(0, 2)", "share(1, 3)"}) {
            rows.add(row(asked));
        }
        rows.add(row("fault()"));
        rows.add(row("torn()"));
        return rows;
    }

    /** What is TOLD, looked at from its last one on. */
    private static List<Row> toldRows() {
        List<Row> rows = new ArrayList<>();
        rows.add(row("count(0)"));
        for (int n = 6; n >= 0; n--) {
            rows.add(row("forget(" + n + ")"));
            rows.add(row("laws()"));
            rows.add(row("whose(0)"));
            rows.add(row("whose(2)"));
        }
        return rows;
    }

    /** Lanes, CELLS by what HOURS they tell, lengths. */
    private static List<Row> sheetRows() {
        List<Row> rows = new ArrayList<>();
        for (int k = 0; k < 4; k++) {
            for (int lane = 0; lane < 3; lane++) {
                for (int i = 0; i < 4; i++) {
                    rows.add(row("read(" + k + ", " + lane + ", " + i + ", 1)"));
                    rows.add(row("torn()"));
                }
            }
            for (int x : new int[] {0, 1, 10, 11, 20}) {
                rows.add(row("part(" + x + ", 1)"));
            }
            for (int i : new int[] {0, 1, 2, 3, 19, 20, 39}) {
                rows.add(row("lay(" + k + ", " + i + ", 0)"));
            }
        }
        return rows;
    }

    private static List<Row> imageRows() {
        List<Row> rows = new ArrayList<>();
        rows.add(row("count(1)"));
        for (int k = 0; k < 2; k++) {
            rows.add(row("back(" + k + ")"));
            rows.addAll(SHORE);
        }
        return rows;
    }

    private static List<Row> tapeRows() {
        List<Row> rows = new ArrayList<>();
        rows.add(row("count(2)"));
        rows.add(row("text()"));
        rows.addAll(SHORE);
        return rows;
    }
}
