import java.util.Arrays;

/**
 * Breaks paragraphs into lines: of all the ways there are that one is found whose demerits
 * together are least. ../shared/DOC.md says what each call answers; its words in capitals are
 * the names used here.
 */
public final class LineDesk {

    public static final int NONE = -1;

    private static final int WIDEST = 1073741823;
    private static final int MOST_ITEMS = 4096;
    private static final int MOST_BREAKS = 400;
    private static final int MOST_MEASURES = 256;
    private static final int MOST_ORDER = 3;
    private static final int MOST_FLAGS = 7;

    private static final int FORBIDDING = 10000;
    private static final int FORCING = -10000;
    private static final int AWFUL = 10000;
    private static final long AWFUL_SQUARE = 100000000L;

    private static final int PRETOLERANCE = 0;
    private static final int TOLERANCE = 1;
    private static final int LINE = 2;
    private static final int HYPHEN = 3;
    private static final int BARE = 4;
    private static final int ADJACENT = 5;
    private static final int TWICE = 6;
    private static final int FINAL = 7;
    private static final int LOOSENESS = 8;

    private static final int BOX = 0;
    private static final int GLUE = 1;
    private static final int KERN = 2;
    private static final int PENALTY = 3;
    private static final int CUT = 4;

    private static final int AHEAD_IS_THERE = 1;
    private static final int BEHIND_IS_THERE = 2;
    private static final int AUTOMATIC = 4;

    private static final int CLASSES = 4;
    private static final int VERY_LOOSE = 0;
    private static final int LOOSE = 1;
    private static final int DECENT = 2;
    private static final int TIGHT = 3;

    private static final int LAST_PASS = 3;
    private static final int MOST_PLACES = (MOST_BREAKS + 1) * CLASSES;
    private static final long MOST_OUT = 2147483647L;

    private final Settings settings;
    private final Items items;
    private final Search search;
    private final Made made;

    public LineDesk() {
        Settings ownSettings = new Settings();
        Items ownItems = new Items();
        settings = ownSettings;
        items = ownItems;
        search = new Search(ownSettings, ownItems);
        made = new Made();
    }

    public boolean rule(int which, int v) {
        if (which < PRETOLERANCE || which > LOOSENESS) {
            return false;
        }
        int most = which == ADJACENT || which == TWICE || which == FINAL ? 1000000000 : 10000;
        if (v < -most || v > most) {
            return false;
        }
        settings.rules[which] = v;
        return true;
    }

    public boolean measure(int k, int width) {
        if (k < 1 || k > settings.measureCount + 1 || k > MOST_MEASURES || !isWidth(width)) {
            return false;
        }
        settings.setMeasure(k, width);
        return true;
    }

    public boolean skip(int side, int width, int stretch, int order, int shrink) {
        if (side < 0 || side > 1 || !isGlue(width, stretch, order, shrink)) {
            return false;
        }
        Spring spring = side == 0 ? settings.left : settings.right;
        spring.set(width, stretch, order, shrink);
        return true;
    }

    public int box(int width) {
        return isWidth(width) ? items.append(BOX, width) : NONE;
    }

    public int glue(int width, int stretch, int order, int shrink) {
        if (!isGlue(width, stretch, order, shrink)) {
            return NONE;
        }
        int number = items.append(GLUE, width);
        items.addSpring(number, stretch, order, shrink);
        return number;
    }

    public int kern(int width) {
        return isWidth(width) ? items.append(KERN, width) : NONE;
    }

    public int penalty(int p) {
        int number = items.append(PENALTY, 0);
        items.setCost(number, Math.max(FORCING, Math.min(FORBIDDING, p)));
        return number;
    }

    public int cut(int ahead, int behind, int uncut, int flags) {
        if (!isWidth(ahead) || !isWidth(behind) || !isWidth(uncut)) {
            return NONE;
        }
        if (flags < 0 || flags > MOST_FLAGS) {
            return NONE;
        }
        int number = items.append(CUT, uncut);
        items.setCut(number, ahead, behind, flags);
        return number;
    }

    public void clear() {
        items.count = 0;
    }

    public int lines() throws IllegalStateException {
        if (items.count == 0) {
            throw new IllegalStateException("there are no items");
        }
        if (items.countBreaks() > MOST_BREAKS) {
            throw new IllegalStateException("there are too many breaks");
        }
        int first = settings.rules[PRETOLERANCE] < 0 ? 2 : 1;
        for (int pass = first; pass <= LAST_PASS; pass++) {
            if (search.findWay(pass)) {
                search.writeTo(made);
                break;
            }
        }
        return made.count;
    }

    public int line(int k, int what) throws IndexOutOfBoundsException {
        if (k < 1 || k > made.count) {
            throw new IndexOutOfBoundsException("there is no such line");
        }
        switch (what) {
            case 0:
                return made.begin[k - 1];
            case 1:
                return made.end[k - 1];
            case 2:
                return made.badness[k - 1];
            case 3:
                return made.fitClass[k - 1];
            case 4:
                return made.out[k - 1];
            default:
                throw new IndexOutOfBoundsException("there is no such what");
        }
    }

    public long about(int what) {
        switch (what) {
            case 0:
                return made.pass;
            case 1:
                return made.count;
            case 2:
                return made.allDemerits;
            case 3:
                return made.allOut;
            case 4:
                return made.over;
            case 5:
                return items.count;
            default:
                return 0;
        }
    }

    private static boolean isWidth(int width) {
        return width >= -WIDEST && width <= WIDEST;
    }

    private static boolean isGlue(int width, int stretch, int order, int shrink) {
        return isWidth(width) && stretch >= 0 && stretch <= WIDEST
            && order >= 0 && order <= MOST_ORDER && shrink >= 0 && shrink <= WIDEST;
    }

    /** Doubling keeps what all growing of a row makes together below twice its last length. */
    private static int grown(int have, int need, int most) {
        return Math.max(need, Math.min(most, 2 * have));
    }

    /** What glue is; of its stretches those of the orders above 0 count alike. */
    private static final class Spring {
        long width;
        long stretch;
        long highStretch;
        long shrink;

        void set(int newWidth, int newStretch, int order, int newShrink) {
            width = newWidth;
            stretch = order == 0 ? newStretch : 0;
            highStretch = order == 0 ? 0 : newStretch;
            shrink = newShrink;
        }
    }

    private static final class Settings {
        final int[] rules;
        final Spring left;
        final Spring right;
        int[] measures;
        int measureCount;

        Settings() {
            rules = new int[] {100, 200, 10, 50, 50, 10000, 10000, 5000, 0};
            left = new Spring();
            right = new Spring();
            measures = new int[4];
            measureCount = 1;
        }

        void setMeasure(int k, int width) {
            if (k < 1 || k > MOST_MEASURES) {
                return;
            }
            if (k > measures.length) {
                measures = Arrays.copyOf(measures, grown(measures.length, k, MOST_MEASURES));
            }
            measures[k - 1] = width;
            measureCount = k;
        }

        long measureOf(int k) {
            return measures[Math.max(1, Math.min(k, measureCount)) - 1];
        }
    }

    /**
     * The items, with the sums of all that stand before each, so that a line is a difference. What
     * only penalties or cuts have is looked at for these alone, so others leave it as it was.
     */
    private static final class Items {
        int count;
        int[] kind;
        int[] cost;
        int[] ahead;
        int[] behind;
        int[] flags;
        long[] width;
        long[] stretch;
        long[] highStretch;
        long[] shrink;

        Items() {
            int room = 32;
            kind = new int[room];
            cost = new int[room];
            ahead = new int[room];
            behind = new int[room];
            flags = new int[room];
            width = new long[room + 1];
            stretch = new long[room + 1];
            highStretch = new long[room + 1];
            shrink = new long[room + 1];
        }

        int append(int newKind, int newWidth) {
            if (count >= MOST_ITEMS) {
                return NONE;
            }
            if (count >= kind.length) {
                makeRoom(grown(kind.length, count + 1, MOST_ITEMS));
            }
            int number = count;
            kind[number] = newKind;
            width[number + 1] = width[number] + newWidth;
            stretch[number + 1] = stretch[number];
            highStretch[number + 1] = highStretch[number];
            shrink[number + 1] = shrink[number];
            count = number + 1;
            return number;
        }

        private void makeRoom(int room) {
            kind = Arrays.copyOf(kind, room);
            cost = Arrays.copyOf(cost, room);
            ahead = Arrays.copyOf(ahead, room);
            behind = Arrays.copyOf(behind, room);
            flags = Arrays.copyOf(flags, room);
            width = Arrays.copyOf(width, room + 1);
            stretch = Arrays.copyOf(stretch, room + 1);
            highStretch = Arrays.copyOf(highStretch, room + 1);
            shrink = Arrays.copyOf(shrink, room + 1);
        }

        void addSpring(int number, int newStretch, int order, int newShrink) {
            if (number < 0 || number >= count) {
                return;
            }
            if (order == 0) {
                stretch[number + 1] += newStretch;
            } else {
                highStretch[number + 1] += newStretch;
            }
            shrink[number + 1] += newShrink;
        }

        void setCost(int number, int newCost) {
            if (number >= 0 && number < count) {
                cost[number] = newCost;
            }
        }

        void setCut(int number, int newAhead, int newBehind, int newFlags) {
            if (number < 0 || number >= count) {
                return;
            }
            ahead[number] = newAhead;
            behind[number] = newBehind;
            flags[number] = newFlags;
        }

        boolean isKind(int number, int wanted) {
            return number >= 0 && number < count && kind[number] == wanted;
        }

        boolean isBoxOrCut(int number) {
            return isKind(number, BOX) || isKind(number, CUT);
        }

        boolean hasFlag(int number, int flag) {
            return isKind(number, CUT) && (flags[number] & flag) != 0;
        }

        boolean mayBreakAt(int number, boolean automaticToo) {
            if (number < 0 || number >= count) {
                return false;
            }
            switch (kind[number]) {
                case GLUE:
                    return isBoxOrCut(number - 1);
                case KERN:
                    return isKind(number + 1, GLUE);
                case PENALTY:
                    return cost[number] < FORBIDDING;
                case CUT:
                    return automaticToo || !hasFlag(number, AUTOMATIC);
                default:
                    return false;
            }
        }

        int countBreaks() {
            int breaks = 1;
            for (int i = 0; i < count; i++) {
                if (mayBreakAt(i, true)) {
                    breaks++;
                }
            }
            return breaks;
        }
    }

    /**
     * The breaks of a pass, 1 to count, the last one END. The number 0 stands for the paragraph's
     * front, so that the first line has a break before it as all others have.
     */
    private static final class Breaks {
        int count;
        int lastForced;
        int[] item;
        int[] cost;
        int[] ahead;
        int[] behind;
        int[] nextBegin;
        int[] lowestBefore;
        boolean[] hyphenated;

        Breaks() {
            makeRows(8);
        }

        private void makeRows(int room) {
            item = new int[room];
            cost = new int[room];
            ahead = new int[room];
            behind = new int[room];
            nextBegin = new int[room];
            lowestBefore = new int[room];
            hyphenated = new boolean[room];
        }

        void gather(Items items, Settings settings, boolean automaticToo) {
            int need = items.countBreaks() + 1;
            if (need > item.length) {
                makeRows(grown(item.length, need, MOST_BREAKS + 1));
            }
            count = 0;
            lastForced = 0;
            int settled = 0;
            for (int i = 0; i < items.count; i++) {
                if (items.isBoxOrCut(i)) {
                    settled = settle(settled, i);
                }
                if (items.mayBreakAt(i, automaticToo)) {
                    append(i, costAt(items, settings, i));
                    describeCut(items, i);
                }
            }
            settle(settled, items.count);
            append(items.count, FORCING);
        }

        private static int costAt(Items items, Settings settings, int i) {
            if (items.isKind(i, CUT)) {
                return settings.rules[items.hasFlag(i, AHEAD_IS_THERE) ? HYPHEN : BARE];
            }
            return items.isKind(i, PENALTY) ? items.cost[i] : 0;
        }

        private void append(int newItem, int newCost) {
            if (count + 1 >= item.length) {
                return;
            }
            count++;
            item[count] = newItem;
            cost[count] = newCost;
            ahead[count] = 0;
            behind[count] = 0;
            nextBegin[count] = newItem;
            hyphenated[count] = false;
            lowestBefore[count] = lastForced;
            if (newCost <= FORCING) {
                lastForced = count;
            }
        }

        private void describeCut(Items items, int i) {
            if (!items.isKind(i, CUT)) {
                return;
            }
            ahead[count] = items.ahead[i];
            behind[count] = items.behind[i];
            hyphenated[count] = true;
            if (items.hasFlag(i, BEHIND_IS_THERE)) {
                nextBegin[count] = i + 1;
            }
        }

        /** The lines behind the breaks that came since the last box or cut begin at this one. */
        private int settle(int settled, int begin) {
            for (int b = settled + 1; b <= count; b++) {
                if (nextBegin[b] == item[b]) {
                    nextBegin[b] = begin;
                }
            }
            return count;
        }

        int beginOf(int before, int own) {
            return Math.min(nextBegin[before], item[own]);
        }
    }

    /** How a line fits; one object serves for all lines, so that a search makes none. */
    private static final class Fit {
        int badness;
        int fitClass;
        long out;

        void judge(Search search, int before, int own, int k) {
            Items items = search.items;
            Breaks breaks = search.breaks;
            Spring left = search.settings.left;
            Spring right = search.settings.right;
            int from = breaks.beginOf(before, own);
            int to = breaks.item[own];
            long width = items.width[to] - items.width[from] + left.width + right.width
                + breaks.ahead[own] + breaks.behind[before];
            long excess = search.settings.measureOf(k) - width;
            if (excess < 0) {
                shrinkBy(-excess, items.shrink[to] - items.shrink[from] + left.shrink + right.shrink);
            } else if (items.highStretch[to] - items.highStretch[from]
                + left.highStretch + right.highStretch > 0) {
                set(0, DECENT, 0);
            } else {
                stretchBy(excess, items.stretch[to] - items.stretch[from] + left.stretch + right.stretch);
            }
        }

        private void shrinkBy(long wanting, long shrink) {
            if (shrink < wanting) {
                set(AWFUL, TIGHT, wanting - shrink);
                return;
            }
            int bad = badnessOf(wanting, shrink);
            set(bad, bad > 12 ? TIGHT : DECENT, 0);
        }

        private void stretchBy(long excess, long stretch) {
            int bad = badnessOf(excess, stretch);
            set(bad, bad > 99 ? VERY_LOOSE : bad > 12 ? LOOSE : DECENT, 0);
        }

        private void set(int newBadness, int newClass, long newOut) {
            badness = newBadness;
            fitClass = newClass;
            out = newOut;
        }

        private static int badnessOf(long t, long s) {
            if (t == 0) {
                return 0;
            }
            if (s == 0) {
                return AWFUL;
            }
            long r = 297 * t / s;
            return r > 1290 ? AWFUL : (int) ((r * r * r + 131072) / 262144);
        }
    }

    /** The best way so far to each of some places, in what the document compares first. */
    private static final class Row {
        boolean any;
        long[] out;
        int[] over;
        long[] demerits;
        int[] lineCount;

        Row(int room) {
            makeRows(room);
        }

        private void makeRows(int room) {
            out = new long[room];
            over = new int[room];
            demerits = new long[room];
            lineCount = new int[room];
        }

        void forget(int places, int most) {
            if (places > out.length) {
                makeRows(grown(out.length, places, most));
            }
            any = false;
            Arrays.fill(lineCount, NONE);
        }

        boolean has(int place) {
            return lineCount[place] != NONE;
        }

        boolean hasAny(int b) {
            int place = b * CLASSES;
            return has(place) || has(place + 1) || has(place + 2) || has(place + 3);
        }

        /** True if the offered way is better than the one that is there, and takes its place. */
        boolean offer(int place, long newOut, int newOver, long newDemerits, int newCount) {
            if (has(place) && !isBetter(place, newOut, newOver, newDemerits, newCount)) {
                return false;
            }
            any = true;
            out[place] = newOut;
            over[place] = newOver;
            demerits[place] = newDemerits;
            lineCount[place] = newCount;
            return true;
        }

        private boolean isBetter(int place, long newOut, int newOver, long newDemerits, int newCount) {
            if (newOut != out[place]) {
                return newOut < out[place];
            }
            if (newOver != over[place]) {
                return newOver < over[place];
            }
            if (newDemerits != demerits[place]) {
                return newDemerits < demerits[place];
            }
            return newCount < lineCount[place];
        }
    }

    /**
     * Finds the way of a pass. A place is a break with the class of the line up to it; the places
     * are filled layer by layer, a layer for each number of lines, since a line's measure hangs on
     * its number. In an open search the last layer also has all longer ways: behind the last
     * measure the number no longer matters. A looseness asks for it, so then there is a second
     * search, with a layer for each number of lines up to the highest one that is wanted.
     */
    private static final class Search {
        final Settings settings;
        final Items items;
        final Breaks breaks;
        final Fit fit;
        final Row layerBest;
        final Row best;
        Row before;
        Row now;
        int pass;
        int layers;
        boolean open;
        int places;
        int wayLayer;
        int wayCount;
        int[] endClass;
        int[] trail;
        int[] back;

        Search(Settings ownSettings, Items ownItems) {
            settings = ownSettings;
            items = ownItems;
            breaks = new Breaks();
            fit = new Fit();
            layerBest = new Row(1);
            best = new Row(1);
            before = new Row(32);
            now = new Row(32);
            endClass = new int[8];
            trail = new int[8];
            back = new int[32];
        }

        boolean findWay(int newPass) {
            pass = newPass;
            breaks.gather(items, settings, pass > 1);
            fillLayers(Math.min(breaks.count, settings.measureCount), true);
            if (!best.any) {
                return false;
            }
            wayCount = best.lineCount[0];
            int goal = Math.max(1, Math.min(breaks.count, wayCount + settings.rules[LOOSENESS]));
            if (goal != wayCount) {
                fillLayers(Math.max(goal, wayCount), false);
                wayLayer = nearestTo(goal, wayCount);
                wayCount = wayLayer;
            }
            return true;
        }

        private void fillLayers(int newLayers, boolean newOpen) {
            layers = newLayers;
            open = newOpen;
            prepareRows();
            before.offer(DECENT, 0, 0, 0, 0);
            for (int layer = 1; layer <= layers; layer++) {
                fillLayer(layer);
                if (!now.any) {
                    break;
                }
                noteEnd(layer);
                Row filled = now;
                now = before;
                before = filled;
            }
        }

        private void prepareRows() {
            int count = breaks.count;
            places = (count + 1) * CLASSES;
            if (count >= trail.length) {
                int room = grown(trail.length, count + 1, MOST_BREAKS + 1);
                trail = new int[room];
                endClass = new int[room];
            }
            if (layers * places > back.length) {
                back = new int[grown(back.length, layers * places, MOST_BREAKS * MOST_PLACES)];
            }
            before.forget(places, MOST_PLACES);
            best.forget(1, 1);
            Arrays.fill(endClass, NONE);
        }

        /** A break has at most as many lines up to it as its own number, so lower breaks are left out. */
        private void fillLayer(int layer) {
            now.forget(places, MOST_PLACES);
            for (int b = layer; b <= breaks.count; b++) {
                for (int a = Math.max(breaks.lowestBefore[b], layer - 1); a < b; a++) {
                    reach(layer, a, b);
                }
            }
        }

        /** Breaks and classes are tried from the lowest on, so the first of equal ways stays. */
        private void reach(int layer, int a, int b) {
            boolean fromBefore = before.hasAny(a);
            boolean fromNow = open && layer == layers && now.hasAny(a);
            if (!fromBefore && !fromNow) {
                return;
            }
            fit.judge(this, a, b, layer);
            if (!isAllowed()) {
                return;
            }
            long demerits = demeritsOf(a, b);
            if (fromBefore) {
                extend(before, a, b, layer, demerits, 0);
            }
            if (fromNow) {
                extend(now, a, b, layer, demerits, 1);
            }
        }

        private boolean isAllowed() {
            if (pass == LAST_PASS) {
                return true;
            }
            int limit = settings.rules[pass == 1 ? PRETOLERANCE : TOLERANCE];
            return fit.out == 0 && fit.badness <= limit;
        }

        private void extend(Row from, int a, int b, int layer, long demerits, int sameLayer) {
            int place = b * CLASSES + fit.fitClass;
            int over = pass == LAST_PASS && fit.badness > settings.rules[TOLERANCE] ? 1 : 0;
            for (int c = 0; c < CLASSES; c++) {
                int old = a * CLASSES + c;
                if (from.has(old) && now.offer(place, from.out[old] + fit.out, from.over[old] + over,
                        from.demerits[old] + demerits + adjacentTo(c), from.lineCount[old] + 1)) {
                    back[(layer - 1) * places + place] = 2 * old + sameLayer;
                }
            }
        }

        /** The line's demerits, but for what hangs on the class of the line before. */
        private long demeritsOf(int a, int b) {
            long sum = settings.rules[LINE] + fit.badness;
            long demerits = sum >= AWFUL || sum <= -AWFUL ? AWFUL_SQUARE : sum * sum;
            long cost = breaks.cost[b];
            if (cost > 0) {
                demerits += cost * cost;
            } else if (cost > FORCING) {
                demerits -= cost * cost;
            }
            if (breaks.hyphenated[a] && breaks.hyphenated[b]) {
                demerits += settings.rules[TWICE];
            }
            if (breaks.hyphenated[a] && b == breaks.count) {
                demerits += settings.rules[FINAL];
            }
            return demerits;
        }

        private long adjacentTo(int classBefore) {
            return Math.abs(fit.fitClass - classBefore) > 1 ? settings.rules[ADJACENT] : 0;
        }

        private void noteEnd(int layer) {
            layerBest.forget(1, 1);
            for (int c = 0; c < CLASSES; c++) {
                int place = breaks.count * CLASSES + c;
                if (now.has(place) && layerBest.offer(0, now.out[place], now.over[place],
                        now.demerits[place], now.lineCount[place])) {
                    endClass[layer] = c;
                }
            }
            if (layerBest.any && best.offer(0, layerBest.out[0], layerBest.over[0],
                    layerBest.demerits[0], layerBest.lineCount[0])) {
                wayLayer = layer;
            }
        }

        /** The number of lines nearest to the goal for which there is a way; for the own one there is. */
        private int nearestTo(int goal, int own) {
            for (int away = Math.abs(goal - own); away > 0; away--) {
                int layer = goal > own ? own + away : own - away;
                if (endClass[layer] != NONE) {
                    return layer;
                }
            }
            return own;
        }

        void writeTo(Made made) {
            traceBack();
            made.start(pass, wayCount);
            int classBefore = DECENT;
            for (int k = 1; k <= wayCount; k++) {
                int a = trail[k - 1];
                int b = trail[k];
                fit.judge(this, a, b, k);
                made.put(k - 1, breaks.beginOf(a, b), breaks.item[b], fit);
                made.allDemerits += demeritsOf(a, b) + adjacentTo(classBefore);
                made.over += fit.badness > settings.rules[TOLERANCE] ? 1 : 0;
                classBefore = fit.fitClass;
            }
        }

        private void traceBack() {
            int layer = wayLayer;
            int place = breaks.count * CLASSES + endClass[layer];
            for (int k = wayCount; k >= 1 && layer >= 1; k--) {
                trail[k] = place / CLASSES;
                int step = back[(layer - 1) * places + place];
                place = step / 2;
                layer -= 1 - step % 2;
            }
            trail[0] = 0;
        }
    }

    /** The lines made last, and what they are together. */
    private static final class Made {
        int pass;
        int count;
        int over;
        long allDemerits;
        long allOut;
        int[] begin;
        int[] end;
        int[] badness;
        int[] fitClass;
        int[] out;

        Made() {
            makeRows(8);
        }

        private void makeRows(int room) {
            begin = new int[room];
            end = new int[room];
            badness = new int[room];
            fitClass = new int[room];
            out = new int[room];
        }

        void start(int newPass, int newCount) {
            if (newCount > begin.length) {
                makeRows(grown(begin.length, newCount, MOST_BREAKS));
            }
            pass = newPass;
            count = newCount;
            over = 0;
            allDemerits = 0;
            allOut = 0;
        }

        void put(int at, int newBegin, int newEnd, Fit fit) {
            if (at < 0 || at >= begin.length) {
                return;
            }
            begin[at] = newBegin;
            end[at] = newEnd;
            badness[at] = fit.badness;
            fitClass[at] = fit.fitClass;
            out[at] = (int) Math.min(MOST_OUT, fit.out);
            allOut += fit.out;
        }
    }
}
