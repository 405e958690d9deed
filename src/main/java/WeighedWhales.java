import java.util.Arrays;

/**
 * A shore of places, its tides, the beasts that lie there and what gangs win of them hour by hour.
 * The document ../shared/DOC.md tells every call; words in capitals there are the names here.
 */
public final class WeighedWhales {
    public static final int BAD = -1, STATE = -2, FULL = -3, NONE = -4;

    private static final int MOST_PLACES = 6;
    private static final int MOST_LEVELS = 6;
    private static final int MOST_BEASTS = 3;
    private static final int MOST_PARTS = 3;
    private static final int SLOTS = MOST_BEASTS * MOST_PARTS;
    private static final int OWNERS = 4;
    private static final int LAWS = 4;
    private static final int HIGHEST = 9;
    private static final int HIGHEST_LUMP = 8;
    private static final int MOST_WORK = 3;
    private static final int MOST_ROT = 9;
    private static final int MOST_GANGS = 2;
    private static final int LAST_HOUR = 999;
    private static final int FLOAT_HOURS = 60;
    private static final int DRIFT_HOURS = 60;
    private static final int ROW_HOURS = 6;
    private static final int TAPE_BYTES = 160;
    private static final int MOST_TOLD = 6;
    private static final int HIGHEST_TOLD = 99;
    private static final int IMAGES = 2;
    private static final int SHEETS = 4;
    private static final int LANES = 3;
    private static final int MOST_CELLS = 40;
    private static final int READ_HOURS = 20;
    private static final int NULL_FAULT = 1;
    private static final int INDEX_FAULT = 2;
    private static final int CAST_FAULT = 3;
    private static final int SIZE_FAULT = 4;
    private static final int NOWHERE = -1;

    private final Tape tape;
    private final Teller teller;
    private final Shore now;
    /** A text's draft, drift()'s trial, what read() goes back to: never two of these at once. */
    private final Shore spare;
    private final Shore[] images;
    private int keptImages;
    private final Tales tales;
    private final Planner planner;
    private final Sheet[] sheets;
    private int tornFault;

    public WeighedWhales() {
        tape = new Tape();
        teller = new Teller();
        now = new Shore();
        spare = new Shore();
        images = new Shore[IMAGES];
        for (int k = 0; k < images.length; k++) {
            images[k] = new Shore();
        }
        tales = new Tales();
        planner = new Planner();
        sheets = new Sheet[SHEETS];
        for (int k = 0; k < sheets.length; k++) {
            sheets[k] = new Sheet();
        }
        now.clear();
    }

    // ---- the text, what there is

    public int feed(int c) {
        if (!within(c, 0, 127)) {
            return BAD;
        }
        return tape.add(c) ? tape.size : FULL;
    }

    public int end(int n) {
        if (!within(n, 0, tape.size)) {
            return BAD;
        }
        int had = tape.size;
        tape.size = n;
        return had;
    }

    public int text() {
        int lines = teller.tellAll(tape, spare);
        tape.size = 0;
        if (teller.found != 0) {
            return -10 - teller.foundAt;
        }
        now.copyFrom(spare);
        now.loseFloating();
        tales.size = 0;
        keptImages = 0;
        return lines;
    }

    public int fault() {
        return teller.found;
    }

    public int rule(int what) {
        switch (what) {
            case 0: return now.places;
            case 1: return now.levels;
            case 2: return now.beasts;
            case 3: return now.lawNow;
            case 4: return now.rotNow;
            case 5: return now.gangsNow;
            case 6: return now.hour;
            default: return BAD;
        }
    }

    public int place(int i, int what) {
        if (!now.hasPlace(i)) {
            return BAD;
        }
        switch (what) {
            case 0: return now.ownerOf[i];
            case 1: return now.markOf[i];
            default: return BAD;
        }
    }

    public int level(int h) {
        return within(h, 0, LAST_HOUR) ? now.levelIn(h) : BAD;
    }

    public int beast(int b, int what) {
        if (!now.hasBeast(b)) {
            return BAD;
        }
        switch (what) {
            case 0: return now.headOf[b];
            case 1: return now.partsOf[b];
            case 2: return now.isLost(b) ? 1 : 0;
            default: return BAD;
        }
    }

    public int part(int x, int what) {
        int slot = now.slotOf(x);
        if (slot == NOWHERE) {
            return BAD;
        }
        switch (what) {
            case 0: return now.worthOf[slot];
            case 1: return now.workOf[slot];
            case 2: return now.lumpOf[slot];
            case 3: return now.worthIn(slot, now.hour, now.rotNow);
            case 4: return now.canWork(slot) ? 1 : 0;
            case 5: return now.ownerBy(slot, now.lawNow);
            default: return BAD;
        }
    }

    // ---- what is changed

    public int mark(int i, int v) {
        if (!now.hasPlace(i) || !within(v, 0, HIGHEST)) {
            return BAD;
        }
        int was = now.markOf[i];
        now.markOf[i] = v;
        now.loseFloating();
        return was;
    }

    public int own(int i, int v) {
        if (!now.hasPlace(i) || !within(v, 0, OWNERS - 1)) {
            return BAD;
        }
        int was = now.ownerOf[i];
        now.ownerOf[i] = v;
        return was;
    }

    public int law(int v) {
        if (!within(v, 0, LAWS - 1)) {
            return BAD;
        }
        int was = now.lawNow;
        now.lawNow = v;
        return was;
    }

    public int rot(int v) {
        if (!within(v, 1, MOST_ROT)) {
            return BAD;
        }
        int was = now.rotNow;
        now.rotNow = v;
        return was;
    }

    public int gangs(int v) {
        if (!within(v, 1, MOST_GANGS)) {
            return BAD;
        }
        int was = now.gangsNow;
        now.gangsNow = v;
        return was;
    }

    public int lump(int x, int v) {
        int slot = now.slotOf(x);
        if (slot == NOWHERE || !within(v, 0, HIGHEST_LUMP)) {
            return BAD;
        }
        int was = now.lumpOf[slot];
        now.lumpOf[slot] = v;
        return was;
    }

    // ---- hours

    public int go(int x, int y) {
        int refused = now.refusal(x, y);
        return refused != 0 ? refused : now.hourGoes(now.slotOf(x), now.slotOf(y));
    }

    public int wet(int h) {
        return within(h, 0, LAST_HOUR) ? now.wetPlaces(h) : BAD;
    }

    public int floats(int b) {
        if (!now.hasBeast(b)) {
            return BAD;
        }
        if (now.isLost(b)) {
            return STATE;
        }
        for (int i = 0; i < FLOAT_HOURS; i++) {
            if ((now.floatingBeasts(now.hour + i) >> b & 1) == 1) {
                return now.hour + i;
            }
        }
        return NONE;
    }

    public int has(int o) {
        return within(o, 0, OWNERS - 1) ? now.wonBy[o] : BAD;
    }

    // ---- the best

    public int best(int n, int what) {
        if (!within(n, 0, ROW_HOURS)) {
            return BAD;
        }
        if (what != 0 && !within(what, 10, 9 + 2 * n)) {
            return BAD;
        }
        int most = planner.mostBy(now, n, now.rotNow, NOWHERE);
        return what == 0 ? most : planner.bestAt(what - 10);
    }

    public int worth(int b, int n) {
        if (!now.hasBeast(b) || !within(n, 0, ROW_HOURS)) {
            return BAD;
        }
        int withIt = planner.mostBy(now, n, now.rotNow, NOWHERE);
        return withIt - planner.mostBy(now, n, now.rotNow, b);
    }

    public int salted(int n) {
        if (!within(n, 0, ROW_HOURS)) {
            return BAD;
        }
        int most = planner.mostBy(now, n, MOST_ROT, NOWHERE);
        int low = 1;
        int high = MOST_ROT;
        // a greater ROT never wins less, so the bounds can close from both sides
        for (int i = 0; i < MOST_ROT && low < high; i++) {
            int middle = (low + high) / 2;
            if (planner.mostBy(now, n, middle, NOWHERE) == most) {
                high = middle;
            } else {
                low = middle + 1;
            }
        }
        return low;
    }

    // ---- laws

    public int share(int o, int v) {
        if (!within(o, 0, OWNERS - 1) || !within(v, 0, LAWS - 1)) {
            return BAD;
        }
        return now.shareBy(o, v);
    }

    public int tell(int o, int w) {
        if (!within(o, 0, OWNERS - 1) || !within(w, 0, HIGHEST_TOLD)) {
            return BAD;
        }
        return tales.add(o, w) ? tales.size : FULL;
    }

    public int forget(int n) {
        if (!within(n, 0, tales.size)) {
            return BAD;
        }
        int had = tales.size;
        tales.size = n;
        return had;
    }

    public int laws() {
        int bits = 0;
        for (int v = 0; v < LAWS; v++) {
            if (tales.areExplained(now, v)) {
                bits |= 1 << v;
            }
        }
        return bits;
    }

    public int whose(int i) {
        if (!now.hasPlace(i)) {
            return BAD;
        }
        int was = now.ownerOf[i];
        int bits = 0;
        for (int o = 0; o < OWNERS; o++) {
            now.ownerOf[i] = o;
            if (tales.areExplained(now, now.lawNow)) {
                bits |= 1 << o;
            }
        }
        now.ownerOf[i] = was;
        return bits;
    }

    // ---- where, lumps

    public int strand(int n, int h) {
        if (!within(n, 1, MOST_PARTS) || !within(h, 0, LAST_HOUR - 1)) {
            return BAD;
        }
        int under = now.wetPlaces(h);
        int underNext = now.wetPlaces(h + 1);
        int taken = now.takenPlaces();
        int bits = 0;
        for (int i = 0; i + n <= now.places; i++) {
            int body = bodyAt(i, n);
            boolean comes = (under & body) == body;
            boolean leaves = (underNext & body) == body;
            if (comes && !leaves && (taken & body) == 0) {
                bits |= 1 << i;
            }
        }
        return bits;
    }

    public long luck(int b, int what) {
        if (!now.hasBeast(b) || !within(what, 0, 1)) {
            return BAD;
        }
        long all = 1;
        long without = 1;
        for (int p = 0; p < now.partsOf[b]; p++) {
            int slot = b * MOST_PARTS + p;
            if (now.workOf[slot] > 0 && !now.isLost(b)) {
                all *= 8;
                without *= 8 - now.lumpOf[slot];
            }
        }
        long with = all - without;
        // all is a power of two, so halving both brings the fraction to lowest terms
        for (int i = 0; i < 3 * MOST_PARTS && all > 1 && with % 2 == 0; i++) {
            all /= 2;
            with /= 2;
        }
        return what == 0 ? with : all;
    }

    public int open() {
        int first = NOWHERE;
        for (int slot = 0; slot < SLOTS; slot++) {
            if (now.canWork(slot) && (first == NOWHERE || now.isRicher(slot, first))) {
                first = slot;
            }
        }
        return first == NOWHERE ? NONE : numberOf(first);
    }

    // ---- by a seed

    public int drift(int seed, int n, int what) {
        if (!within(n, 1, DRIFT_HOURS) || !within(what, 0, 1)) {
            return BAD;
        }
        spare.copyFrom(now);
        int won = 0;
        int state = seed;
        for (int i = 0; i < n; i++) {
            state = state * 1103515245 + 12345;
            int choices = spare.workableParts() + 1;
            int pick = choices < 1 ? 0 : (state >>> 16 & 32767) % choices;
            won += spare.hourGoes(spare.workableSlot(pick), NOWHERE);
        }
        return what == 0 ? won : Integer.bitCount(spare.lostBeasts);
    }

    // ---- images, sheets

    public int keep(int k) {
        if (!within(k, 0, IMAGES - 1)) {
            return BAD;
        }
        int was = keptImages >> k & 1;
        images[k].copyFrom(now);
        keptImages |= 1 << k;
        return was;
    }

    public int back(int k) {
        if (!within(k, 0, IMAGES - 1)) {
            return BAD;
        }
        if ((keptImages >> k & 1) == 0) {
            return STATE;
        }
        now.copyFrom(images[k]);
        return now.hour;
    }

    public int sheet(int k, int lane, int n) {
        if (!within(k, 0, SHEETS - 1) || !within(lane, 0, LANES - 1) || n > MOST_CELLS) {
            return BAD;
        }
        if (n < 0) {
            return -10 - SIZE_FAULT;
        }
        sheets[k].renew(lane, n);
        return 1;
    }

    public int lay(int k, int i, int v) {
        if (!within(k, 0, SHEETS - 1)) {
            return BAD;
        }
        Sheet sheet = sheets[k];
        int found = sheet.faultAt(sheet.laneOf, i);
        if (found != 0) {
            return -10 - found;
        }
        sheet.put(i, v);
        return 1;
    }

    public int read(int k, int lane, int f, int n) {
        if (!within(k, 0, SHEETS - 1) || !within(lane, 0, LANES - 1) || !within(n, 0, READ_HOURS)) {
            return BAD;
        }
        Sheet sheet = sheets[k];
        spare.copyFrom(now);
        int found = 0;
        int went = 0;
        while (went < n && found == 0) {
            found = sheet.faultAt(lane, f + went);
            if (found == 0) {
                int x = sheet.cells[f + went];
                if (now.refusal(x, NONE) != 0) {
                    now.copyFrom(spare);
                    return -20 - went;
                }
                now.hourGoes(now.slotOf(x), NOWHERE);
                went++;
            }
        }
        tornFault = found;
        return went;
    }

    public int torn() {
        return tornFault;
    }

    public int count(int what) {
        switch (what) {
            case 0: return tales.size;
            case 1: return Integer.bitCount(keptImages);
            case 2: return tape.size;
            case 3: return sheets[0].size < 0 ? NONE : sheets[0].size;
            case 4: return now.cutParts();
            case 5: return Integer.bitCount(now.lostBeasts);
            default: return BAD;
        }
    }

    // ---- what several of the classes below need

    private static boolean within(int v, int low, int high) {
        return v >= low && v <= high;
    }

    private static int bodyAt(int place, int length) {
        return (1 << length) - 1 << place;
    }

    private static int numberOf(int slot) {
        return slot / MOST_PARTS * 10 + slot % MOST_PARTS;
    }

    /** All that an IMAGE holds, and the tides; a PART stands in slot 3 times the BEAST and the PART. */
    private static final class Shore {
        final int[] ownerOf = new int[MOST_PLACES];
        final int[] markOf = new int[MOST_PLACES];
        final int[] levelOf = new int[MOST_LEVELS];
        final int[] headOf = new int[MOST_BEASTS];
        final int[] partsOf = new int[MOST_BEASTS];
        final int[] worthOf = new int[SLOTS];
        final int[] workOf = new int[SLOTS];
        final int[] lumpOf = new int[SLOTS];
        final int[] wonBy = new int[OWNERS];
        int places, levels, beasts;
        int lawNow, rotNow, gangsNow;
        int hour;
        int lostBeasts;

        void clear() {
            places = 0;
            levels = 1;
            levelOf[0] = 0;
            beasts = 0;
            lawNow = 0;
            rotNow = 4;
            gangsNow = 1;
            hour = 0;
            lostBeasts = 0;
            Arrays.fill(wonBy, 0);
        }

        void copyFrom(Shore other) {
            copyAll(other.ownerOf, ownerOf);
            copyAll(other.markOf, markOf);
            copyAll(other.levelOf, levelOf);
            copyAll(other.headOf, headOf);
            copyAll(other.partsOf, partsOf);
            copyAll(other.worthOf, worthOf);
            copyAll(other.workOf, workOf);
            copyAll(other.lumpOf, lumpOf);
            copyAll(other.wonBy, wonBy);
            places = other.places;
            levels = other.levels;
            beasts = other.beasts;
            lawNow = other.lawNow;
            rotNow = other.rotNow;
            gangsNow = other.gangsNow;
            hour = other.hour;
            lostBeasts = other.lostBeasts;
        }

        private static void copyAll(int[] from, int[] to) {
            System.arraycopy(from, 0, to, 0, Math.min(from.length, to.length));
        }

        /** The j-th NUMBER of a line sand; the first one makes the PLACE. */
        void putSand(int j, int v) {
            if (j == 0 && places < MOST_PLACES) {
                ownerOf[places] = v;
                places++;
            } else if (within(places, 1, MOST_PLACES)) {
                markOf[places - 1] = v;
            }
        }

        void putLevel(int v) {
            if (within(levels, 0, MOST_LEVELS - 1)) {
                levelOf[levels] = v;
                levels++;
            }
        }

        /** The j-th NUMBER of a line whale; the first one makes the BEAST, every third one a PART. */
        void putWhale(int j, int v) {
            if (j == 0 && beasts < MOST_BEASTS) {
                headOf[beasts] = v;
                partsOf[beasts] = 0;
                beasts++;
            } else if (within(beasts, 1, MOST_BEASTS) && within(j, 1, 3 * MOST_PARTS)) {
                int b = beasts - 1;
                int slot = b * MOST_PARTS + (j - 1) / 3;
                switch (j % 3) {
                    case 1: worthOf[slot] = v; break;
                    case 2: workOf[slot] = v; break;
                    default: lumpOf[slot] = v; break;
                }
                partsOf[b] = (j - 1) / 3 + 1;
            }
        }

        boolean hasPlace(int i) {
            return within(i, 0, places - 1);
        }

        boolean hasBeast(int b) {
            return within(b, 0, beasts - 1);
        }

        /** The slot of a PART by its NUMBER; NOWHERE, if there is no such PART. */
        int slotOf(int x) {
            int b = x / 10;
            int p = x % 10;
            return x >= 0 && hasBeast(b) && p < partsOf[b] ? b * MOST_PARTS + p : NOWHERE;
        }

        boolean hasSlot(int slot) {
            return within(slot, 0, SLOTS - 1)
                && hasBeast(slot / MOST_PARTS) && slot % MOST_PARTS < partsOf[slot / MOST_PARTS];
        }

        int placeOf(int slot) {
            return headOf[slot / MOST_PARTS] + slot % MOST_PARTS;
        }

        boolean isLost(int b) {
            return (lostBeasts >> b & 1) == 1;
        }

        int bodyOf(int b) {
            return bodyAt(headOf[b], partsOf[b]);
        }

        int takenPlaces() {
            int bits = 0;
            for (int b = 0; b < beasts; b++) {
                if (!isLost(b)) {
                    bits |= bodyOf(b);
                }
            }
            return bits;
        }

        int levelIn(int h) {
            return levels < 1 || levels > MOST_LEVELS ? 0 : levelOf[Math.floorMod(h, levels)];
        }

        int wetPlaces(int h) {
            int high = levelIn(h);
            int bits = 0;
            for (int i = 0; i < places; i++) {
                if (high > markOf[i]) {
                    bits |= 1 << i;
                }
            }
            return bits;
        }

        int floatingBeasts(int h) {
            int under = wetPlaces(h);
            int bits = 0;
            for (int b = 0; b < beasts; b++) {
                int body = bodyOf(b);
                if ((under & body) == body) {
                    bits |= 1 << b;
                }
            }
            return bits;
        }

        void loseFloating() {
            lostBeasts |= floatingBeasts(hour);
        }

        int worthIn(int slot, int h, int rot) {
            return rot < 1 ? 0 : Math.max(0, worthOf[slot] - h / rot);
        }

        boolean canWork(int slot) {
            return hasSlot(slot) && workOf[slot] > 0 && !isLost(slot / MOST_PARTS)
                && (wetPlaces(hour) >> placeOf(slot) & 1) == 0;
        }

        int workableParts() {
            int many = 0;
            for (int slot = 0; slot < SLOTS; slot++) {
                if (canWork(slot)) {
                    many++;
                }
            }
            return many;
        }

        /** The slot that is pick-th of those that can be WORKED; NOWHERE behind all. */
        int workableSlot(int pick) {
            int ahead = 0;
            for (int slot = 0; slot < SLOTS; slot++) {
                if (canWork(slot)) {
                    if (ahead == pick) {
                        return slot;
                    }
                    ahead++;
                }
            }
            return NOWHERE;
        }

        boolean isRicher(int slot, int other) {
            return lumpOf[slot] * workOf[other] > lumpOf[other] * workOf[slot];
        }

        int cutParts() {
            int many = 0;
            for (int slot = 0; slot < SLOTS; slot++) {
                if (hasSlot(slot) && workOf[slot] == 0) {
                    many++;
                }
            }
            return many;
        }

        int ownerBy(int slot, int law) {
            int b = slot / MOST_PARTS;
            int first = headOf[b];
            int last = first + partsOf[b] - 1;
            switch (law) {
                case 0: return ownerOf[first];
                case 1: return ownerOf[last];
                case 2: return ownerOf[placeOf(slot)];
                default: return ownerOfMost(first, last);
            }
        }

        private int ownerOfMost(int first, int last) {
            int most = 0;
            int found = 0;
            for (int o = 0; o < OWNERS; o++) {
                int many = 0;
                for (int i = first; i <= last; i++) {
                    if (ownerOf[i] == o) {
                        many++;
                    }
                }
                if (many > most) {
                    most = many;
                    found = o;
                }
            }
            return found;
        }

        int shareBy(int o, int law) {
            int sum = 0;
            for (int slot = 0; slot < SLOTS; slot++) {
                if (hasSlot(slot) && ownerBy(slot, law) == o) {
                    sum += worthOf[slot];
                }
            }
            return sum;
        }

        /** Why AN HOUR can not go with GANGS at PARTS x and y; 0, if it can. */
        int refusal(int x, int y) {
            if (isUnknown(x) || isUnknown(y) || x != NONE && x == y || y != NONE && gangsNow < 2) {
                return BAD;
            }
            if (isBarred(x) || isBarred(y)) {
                return STATE;
            }
            return hour >= LAST_HOUR ? FULL : 0;
        }

        private boolean isUnknown(int x) {
            return x != NONE && slotOf(x) == NOWHERE;
        }

        private boolean isBarred(int x) {
            return x != NONE && !canWork(slotOf(x));
        }

        /** AN HOUR goes with GANGS at two slots that can be WORKED (NOWHERE: at none): what is won. */
        int hourGoes(int slot, int other) {
            int won = workAt(slot) + workAt(other);
            hour++;
            loseFloating();
            return won;
        }

        private int workAt(int slot) {
            if (!hasSlot(slot)) {
                return 0;
            }
            workOf[slot]--;
            if (workOf[slot] > 0) {
                return 0;
            }
            int won = worthIn(slot, hour, rotNow);
            wonBy[ownerBy(slot, lawNow)] += won;
            return won;
        }
    }

    /** THE TAPE, and the TOKEN on it that is looked at. */
    private static final class Tape {
        static final int AT_END = 0, NAME = 1, NUMBER = 2, STOP = 3, NO_TOKEN = 4;

        final byte[] bytes = new byte[TAPE_BYTES];
        int size;
        int next;
        int kind, start, value;

        boolean add(int c) {
            if (size >= bytes.length) {
                return false;
            }
            bytes[size] = (byte) c;
            size++;
            return true;
        }

        void step() {
            while (next < size && bytes[next] == ' ') {
                next++;
            }
            start = next;
            if (next >= size) {
                kind = AT_END;
            } else if (isLetter(bytes[next])) {
                stepName();
            } else if (isFigure(bytes[next])) {
                stepNumber();
            } else {
                kind = bytes[next] == ';' ? STOP : NO_TOKEN;
                next++;
            }
        }

        private void stepName() {
            kind = NAME;
            while (next < size && isLetter(bytes[next])) {
                next++;
            }
        }

        private void stepNumber() {
            value = 0;
            while (next < size && isFigure(bytes[next])) {
                value = value * 10 + bytes[next] - '0';
                next++;
            }
            kind = next - start > 2 ? NO_TOKEN : NUMBER;
        }

        boolean isName(String name) {
            if (kind != NAME || next - start != name.length()) {
                return false;
            }
            for (int i = 0; i < name.length(); i++) {
                if (bytes[start + i] != name.charAt(i)) {
                    return false;
                }
            }
            return true;
        }

        private static boolean isLetter(int c) {
            return within(c, 'a', 'z');
        }

        private static boolean isFigure(int c) {
            return within(c, '0', '9');
        }
    }

    /**
     * Reads a text into a draft, up to its first FAULT. A line is a NAME and NUMBERS, so that which
     * line it is and how many NUMBERS stand ahead tell what may come next.
     */
    private static final class Teller {
        private static final int NO_LINE = 0, SAND = 1, TIDE = 2, LAW = 3, ROT = 4, GANGS = 5, WHALE = 6;
        private static final int MOST_NUMBERS = 1 + 3 * MOST_PARTS;

        int found, foundAt;
        /** Bits of the lines law, rot, gangs that there have been. */
        private int toldOnce;

        /** How many lines there are; found is 0, if the draft holds all that they tell. */
        int tellAll(Tape tape, Shore draft) {
            found = 0;
            toldOnce = 0;
            draft.clear();
            draft.levels = 0;
            int lines = 0;
            tape.next = 0;
            tape.step();
            while (lines < TAPE_BYTES && tape.kind != Tape.AT_END && readLine(tape, draft)) {
                lines++;
                tape.step();
            }
            if (found == 0) {
                checkBeasts(tape, draft);
            }
            if (draft.levels == 0) {
                draft.levels = 1;
            }
            return lines;
        }

        private boolean readLine(Tape tape, Shore draft) {
            int line = lineOf(tape);
            if (line == NO_LINE) {
                return failAtToken(tape);
            }
            int refused = refusedName(line, draft);
            if (refused != 0) {
                return fail(refused, tape.start);
            }
            for (int j = 0; j <= MOST_NUMBERS; j++) {
                tape.step();
                if (tape.kind == Tape.STOP && mayStop(line, j)) {
                    return true;
                }
                if (tape.kind != Tape.NUMBER || !mayGoOn(line, j)) {
                    return failAtToken(tape);
                }
                if (isTooMany(line, j, draft)) {
                    return fail(5, tape.start);
                }
                if (tape.value < lowest(line, j) || tape.value > highest(line, j)) {
                    return fail(3, tape.start);
                }
                put(line, j, tape.value, draft);
            }
            return failAtToken(tape);
        }

        private boolean fail(int fault, int at) {
            found = fault;
            foundAt = at;
            return false;
        }

        private boolean failAtToken(Tape tape) {
            return fail(tape.kind == Tape.NO_TOKEN ? 1 : 2, tape.start);
        }

        private static int lineOf(Tape tape) {
            if (tape.isName("sand")) {
                return SAND;
            }
            if (tape.isName("tide")) {
                return TIDE;
            }
            if (tape.isName("law")) {
                return LAW;
            }
            if (tape.isName("rot")) {
                return ROT;
            }
            if (tape.isName("gangs")) {
                return GANGS;
            }
            return tape.isName("whale") ? WHALE : NO_LINE;
        }

        /** The FAULT of a NAME that would be one too many; 0, if it is not. */
        private int refusedName(int line, Shore draft) {
            if (line == SAND) {
                return draft.places >= MOST_PLACES ? 5 : 0;
            }
            if (line == WHALE) {
                return draft.beasts >= MOST_BEASTS ? 5 : 0;
            }
            if (line == TIDE) {
                return 0;
            }
            int again = toldOnce >> line & 1;
            toldOnce |= 1 << line;
            return again == 1 ? 4 : 0;
        }

        private static boolean mayStop(int line, int j) {
            switch (line) {
                case SAND: return j == 2;
                case TIDE: return j > 0;
                case WHALE: return j > 3 && j % 3 == 1;
                default: return j == 1;
            }
        }

        private static boolean mayGoOn(int line, int j) {
            switch (line) {
                case SAND: return j < 2;
                case TIDE: return true;
                case WHALE: return true;
                default: return j < 1;
            }
        }

        private static boolean isTooMany(int line, int j, Shore draft) {
            return line == TIDE && draft.levels >= MOST_LEVELS || line == WHALE && j >= MOST_NUMBERS;
        }

        private static int lowest(int line, int j) {
            boolean isWork = line == WHALE && j % 3 == 2;
            return line == ROT || line == GANGS || isWork ? 1 : 0;
        }

        private static int highest(int line, int j) {
            switch (line) {
                case SAND: return j == 0 ? OWNERS - 1 : HIGHEST;
                case TIDE: return HIGHEST;
                case LAW: return LAWS - 1;
                case ROT: return MOST_ROT;
                case GANGS: return MOST_GANGS;
                default: return highestOfWhale(j);
            }
        }

        private static int highestOfWhale(int j) {
            if (j == 0) {
                return MOST_PLACES - 1;
            }
            switch (j % 3) {
                case 1: return HIGHEST;
                case 2: return MOST_WORK;
                default: return HIGHEST_LUMP;
            }
        }

        private static void put(int line, int j, int v, Shore draft) {
            switch (line) {
                case SAND: draft.putSand(j, v); break;
                case TIDE: draft.putLevel(v); break;
                case LAW: draft.lawNow = v; break;
                case ROT: draft.rotNow = v; break;
                case GANGS: draft.gangsNow = v; break;
                default: draft.putWhale(j, v); break;
            }
        }

        private void checkBeasts(Tape tape, Shore draft) {
            for (int b = 0; b < draft.beasts; b++) {
                if (draft.headOf[b] + draft.partsOf[b] > draft.places) {
                    fail(6, tape.size);
                    return;
                }
            }
            int taken = 0;
            for (int b = 0; b < draft.beasts; b++) {
                int body = draft.bodyOf(b);
                if ((taken & body) != 0) {
                    fail(7, tape.size);
                    return;
                }
                taken |= body;
            }
        }
    }

    /** What is TOLD. */
    private static final class Tales {
        final int[] owners = new int[MOST_TOLD];
        final int[] sums = new int[MOST_TOLD];
        int size;

        boolean add(int o, int w) {
            if (size >= owners.length) {
                return false;
            }
            owners[size] = o;
            sums[size] = w;
            size++;
            return true;
        }

        boolean areExplained(Shore shore, int law) {
            for (int i = 0; i < size; i++) {
                if (shore.shareBy(owners[i], law) != sums[i]) {
                    return false;
                }
            }
            return true;
        }
    }

    /** A SHEET; its CELLS stand in one row that is used again, whatever its lane. */
    private static final class Sheet {
        final int[] cells = new int[MOST_CELLS];
        int laneOf;
        /** Below 0: there is nothing. */
        int size = -1;

        void renew(int lane, int n) {
            laneOf = lane;
            size = n;
            Arrays.fill(cells, 0);
        }

        /** What the machine would find at CELL i, were this taken as of a lane; 0, if nothing. */
        int faultAt(int lane, int i) {
            if (size < 0) {
                return NULL_FAULT;
            }
            if (laneOf != lane) {
                return CAST_FAULT;
            }
            return within(i, 0, size - 1) ? 0 : INDEX_FAULT;
        }

        void put(int i, int v) {
            switch (laneOf) {
                case 0: cells[i] = (byte) v; break;
                case 1: cells[i] = (short) v; break;
                default: cells[i] = v; break;
            }
        }
    }

    /**
     * The best ROW. What is lost in an HOUR hangs on the tides alone, so WORK that is left
     * (two bits for each PART) and how many HOURS went are all that the rest can hang on.
     */
    private static final class Planner {
        /** PARTS that are left can not be more: no two lie on one PLACE. */
        private static final int MOST_LEFT = MOST_PLACES;
        private static final int CODES = 1 << 2 * MOST_LEFT;
        /** Above all that can be won: six PARTS of WORTH 9. */
        private static final int MOST_WON = 64;

        private final int[] memo = new int[ROW_HOURS * CODES];
        private final int[] slots = new int[MOST_LEFT];
        private final int[] ableIn = new int[ROW_HOURS];
        private final int[] gains = new int[ROW_HOURS * MOST_LEFT];
        private int left, hours, gangsAtWork, startCode;
        /** Told in each entry of memo, so that old entries need no clearing. */
        private int stamp;

        /** What is won in the best ROW of n HOURS of a shore by a ROT, were one BEAST not there. */
        int mostBy(Shore shore, int n, int rot, int without) {
            load(shore, n, rot, without);
            return mostFrom(0, startCode);
        }

        private void load(Shore shore, int n, int rot, int without) {
            stamp++;
            hours = Math.min(n, ROW_HOURS);
            gangsAtWork = shore.gangsNow;
            loadParts(shore, without);
            int gone = 0;
            for (int k = 0; k < hours; k++) {
                int h = shore.hour + k;
                gone |= shore.floatingBeasts(h);
                loadHour(shore, k, shore.wetPlaces(h), gone);
                for (int i = 0; i < left; i++) {
                    gains[k * MOST_LEFT + i] = shore.worthIn(slots[i], h, rot);
                }
            }
        }

        private void loadParts(Shore shore, int without) {
            left = 0;
            startCode = 0;
            for (int slot = 0; slot < SLOTS; slot++) {
                int b = slot / MOST_PARTS;
                boolean there = shore.hasSlot(slot) && !shore.isLost(b) && b != without;
                if (there && shore.workOf[slot] > 0 && left < MOST_LEFT) {
                    slots[left] = slot;
                    startCode |= shore.workOf[slot] << 2 * left;
                    left++;
                }
            }
        }

        private void loadHour(Shore shore, int k, int under, int gone) {
            ableIn[k] = 0;
            for (int i = 0; i < left; i++) {
                boolean dry = (under >> shore.placeOf(slots[i]) & 1) == 0;
                boolean here = (gone >> slots[i] / MOST_PARTS & 1) == 0;
                if (dry && here) {
                    ableIn[k] |= 1 << i;
                }
            }
        }

        /** Of the ROW that mostBy() was asked for last: at is twice the HOUR, 1 more for the second GANG. */
        int bestAt(int at) {
            int code = startCode;
            for (int k = 0; k < hours; k++) {
                int pick = firstBest(k, code);
                int one = pick / (MOST_LEFT + 1);
                int two = pick % (MOST_LEFT + 1);
                if (k == at / 2) {
                    return partAt(at % 2 == 0 ? one : two);
                }
                code = after(after(code, one), two);
            }
            return NONE;
        }

        private int partAt(int i) {
            return i < left ? numberOf(slots[i]) : NONE;
        }

        /** The first choice by which as much is won as can be: 7 times one PART and the other; left is none. */
        private int firstBest(int k, int code) {
            int due = mostFrom(k, code);
            for (int one = 0; one < left; one++) {
                if (!canChoose(k, code, one)) {
                    continue;
                }
                for (int two = gangsAtWork > 1 ? one + 1 : left; two <= left; two++) {
                    if (canChoose(k, code, two) && wonBy(k, code, one, two) == due) {
                        return one * (MOST_LEFT + 1) + two;
                    }
                }
            }
            return left * (MOST_LEFT + 1) + left;
        }

        private boolean canChoose(int k, int code, int i) {
            return i == left || (ableIn[k] >> i & 1) == 1 && workIn(code, i) > 0;
        }

        private static int workIn(int code, int i) {
            return code >> 2 * i & 3;
        }

        private int after(int code, int i) {
            return i < left ? code - (1 << 2 * i) : code;
        }

        private int gainOf(int k, int code, int i) {
            return i < left && workIn(code, i) == 1 ? gains[k * MOST_LEFT + i] : 0;
        }

        private int wonBy(int k, int code, int one, int two) {
            return gainOf(k, code, one) + gainOf(k, code, two) + mostFrom(k + 1, after(after(code, one), two));
        }

        /** The most that can be won from the k-th HOUR on. */
        private int mostFrom(int k, int code) {
            if (k >= hours) {
                return 0;
            }
            int entry = k * CODES + code;
            if (memo[entry] / MOST_WON != stamp) {
                memo[entry] = stamp * MOST_WON + triedFrom(k, code);
            }
            return memo[entry] % MOST_WON;
        }

        /** To work is never worse than not to, so as many GANGS work as find a PART of use. */
        private int triedFrom(int k, int code) {
            int useful = usefulIn(k, code);
            boolean both = gangsAtWork > 1 && Integer.bitCount(useful) > 1;
            if (useful == 0) {
                return mostFrom(k + 1, code);
            }
            int most = 0;
            for (int one = 0; one < left; one++) {
                if ((useful >> one & 1) == 0) {
                    continue;
                }
                if (!both) {
                    most = Math.max(most, wonBy(k, code, one, left));
                }
                for (int two = one + 1; both && two < left; two++) {
                    if ((useful >> two & 1) == 1) {
                        most = Math.max(most, wonBy(k, code, one, two));
                    }
                }
            }
            return most;
        }

        /** PARTS that can be WORKED, are worth something and can still be CUT. */
        private int usefulIn(int k, int code) {
            int bits = 0;
            for (int i = 0; i < left; i++) {
                int work = workIn(code, i);
                boolean able = (ableIn[k] >> i & 1) == 1;
                if (able && work > 0 && work <= hours - k && gains[k * MOST_LEFT + i] > 0) {
                    bits |= 1 << i;
                }
            }
            return bits;
        }
    }
}
