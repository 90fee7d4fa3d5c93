import java.util.ArrayList;
import java.util.HashMap;
import java.util.List;
import java.util.Map;

/**
 * The document once more, by trying every way there is: slow, but with nothing to get wrong but
 * the reading. With more than MOST_TRIED breaks, of the ways up to a break which have equally many
 * lines and the same class of the last one only the best is kept, whole: what comes behind them is
 * the same for all.
 */
final class Reference {
    static final int MOST_TRIED = 11;

    private static final int MAX = 1073741823;

    private record Item(char kind, int width, int stretch, int order, int shrink,
                        int p, int ahead, int behind, int flags) {
    }

    private record Line(int begin, int end, long badness, int fitClass, long out, long demerits) {
    }

    /** A way up to the break of its last line; without lines it has no last one, and none before. */
    private record Way(Way before, Line last, int count, long out, long over, long demerits) {
        int end() {
            return last == null ? -1 : last.end;
        }

        int fitClass() {
            return last == null ? 2 : last.fitClass;
        }
    }

    private static final Way FRONT = new Way(null, null, 0, 0, 0, 0);

    private final int[] rules = {100, 200, 10, 50, 50, 10000, 10000, 5000, 0};
    private final List<Integer> measures = new ArrayList<>(List.of(0));
    private final Item[] skips = {glueItem(0, 0, 0, 0), glueItem(0, 0, 0, 0)};
    private final List<Item> items = new ArrayList<>();
    private Way made = FRONT;
    private int pass = 0;

    private static Item glueItem(int width, int stretch, int order, int shrink) {
        return new Item('g', width, stretch, order, shrink, 0, 0, 0, 0);
    }

    private static boolean fits(int width) {
        return Math.abs((long) width) <= MAX;
    }

    private int add(Item item) {
        items.add(item);
        return items.size() - 1;
    }

    boolean rule(int which, int v) {
        if (which < 0 || which > 8) {
            return false;
        }
        long most = which >= 5 && which <= 7 ? 1000000000 : 10000;
        if (Math.abs((long) v) > most) {
            return false;
        }
        rules[which] = v;
        return true;
    }

    boolean measure(int k, int width) {
        if (k < 1 || k > measures.size() + 1 || k > 256 || !fits(width)) {
            return false;
        }
        while (measures.size() >= k) {
            measures.remove(measures.size() - 1);
        }
        measures.add(width);
        return true;
    }

    private static boolean fitsGlue(int width, int stretch, int order, int shrink) {
        return fits(width) && fits(stretch) && fits(shrink) && stretch >= 0 && shrink >= 0 && order >= 0 && order < 4;
    }

    boolean skip(int side, int width, int stretch, int order, int shrink) {
        if ((side != 0 && side != 1) || !fitsGlue(width, stretch, order, shrink)) {
            return false;
        }
        skips[side] = glueItem(width, stretch, order, shrink);
        return true;
    }

    int box(int width) {
        return fits(width) ? add(new Item('b', width, 0, 0, 0, 0, 0, 0, 0)) : -1;
    }

    int glue(int width, int stretch, int order, int shrink) {
        return fitsGlue(width, stretch, order, shrink) ? add(glueItem(width, stretch, order, shrink)) : -1;
    }

    int kern(int width) {
        return fits(width) ? add(new Item('k', width, 0, 0, 0, 0, 0, 0, 0)) : -1;
    }

    int penalty(int p) {
        return add(new Item('p', 0, 0, 0, 0, p < -10000 ? -10000 : p > 10000 ? 10000 : p, 0, 0, 0));
    }

    int cut(int ahead, int behind, int uncut, int flags) {
        boolean good = fits(ahead) && fits(behind) && fits(uncut) && flags >= 0 && flags <= 7;
        return good ? add(new Item('c', uncut, 0, 0, 0, 0, ahead, behind, flags)) : -1;
    }

    void clear() {
        items.clear();
    }

    private boolean isBreak(int i, int inPass) {
        if (i == items.size()) {
            return true;
        }
        Item item = items.get(i);
        return switch (item.kind) {
            case 'g' -> i > 0 && (items.get(i - 1).kind == 'b' || items.get(i - 1).kind == 'c');
            case 'k' -> i + 1 < items.size() && items.get(i + 1).kind == 'g';
            case 'p' -> item.p < 10000;
            case 'c' -> inPass != 1 || (item.flags & 4) == 0;
            default -> false;
        };
    }

    private List<Integer> breaks(int inPass) {
        List<Integer> found = new ArrayList<>();
        for (int i = 0; i <= items.size(); i++) {
            if (isBreak(i, inPass)) {
                found.add(i);
            }
        }
        return found;
    }

    int countBreaks() {
        return breaks(2).size();
    }

    private int penaltyOf(int i) {
        if (i == items.size()) {
            return -10000;
        }
        Item item = items.get(i);
        if (item.kind == 'c') {
            return (item.flags & 1) != 0 ? rules[3] : rules[4];
        }
        return item.kind == 'p' ? item.p : 0;
    }

    private boolean isHyphenated(int i) {
        return i >= 0 && i < items.size() && items.get(i).kind == 'c';
    }

    private int beginOf(int before, int own) {
        if (before < 0) {
            return 0;
        }
        if (isHyphenated(before) && (items.get(before).flags & 2) != 0) {
            return before + 1;
        }
        for (int i = before + 1; i < own; i++) {
            if (items.get(i).kind == 'b' || items.get(i).kind == 'c') {
                return i;
            }
        }
        return own;
    }

    private static long badnessOf(long t, long s) {
        if (t == 0) {
            return 0;
        }
        if (s == 0) {
            return 10000;
        }
        long r = 297 * t / s;
        return r > 1290 ? 10000 : (r * r * r + 131072) / 262144;
    }

    private Line lineOf(int before, int own, int k, int classBefore) {
        int begin = beginOf(before, own);
        List<Item> parts = new ArrayList<>(items.subList(begin, own));
        parts.add(skips[0]);
        parts.add(skips[1]);
        long width = 0;
        long[] stretches = new long[4];
        long shrink = 0;
        for (Item part : parts) {
            width += part.width;
            stretches[part.order] += part.stretch;
            shrink += part.shrink;
        }
        width += isHyphenated(own) ? items.get(own).ahead : 0;
        width += isHyphenated(before) ? items.get(before).behind : 0;
        long excess = (long) measures.get(Math.min(k, measures.size()) - 1) - width;
        long badness = 0;
        int fitClass = 2;
        long out = 0;
        if (excess >= 0) {
            if (stretches[1] + stretches[2] + stretches[3] == 0) {
                badness = badnessOf(excess, stretches[0]);
                fitClass = badness > 99 ? 0 : badness > 12 ? 1 : 2;
            }
        } else if (shrink < -excess) {
            out = -excess - shrink;
            badness = 10000;
            fitClass = 3;
        } else {
            badness = badnessOf(-excess, shrink);
            fitClass = badness > 12 ? 3 : 2;
        }
        return new Line(begin, own, badness, fitClass, out, demeritsOf(before, own, badness, fitClass, classBefore));
    }

    private long demeritsOf(int before, int own, long badness, int fitClass, int classBefore) {
        long sum = rules[2] + badness;
        long demerits = sum >= 10000 || sum <= -10000 ? 100000000 : sum * sum;
        long p = penaltyOf(own);
        if (p > 0) {
            demerits += p * p;
        }
        if (p < 0 && p > -10000) {
            demerits -= p * p;
        }
        if (isHyphenated(own) && isHyphenated(before)) {
            demerits += rules[6];
        }
        if (own == items.size() && isHyphenated(before)) {
            demerits += rules[7];
        }
        if (Math.abs(fitClass - classBefore) > 1) {
            demerits += rules[5];
        }
        return demerits;
    }

    private Way extend(Way way, int own) {
        Line line = lineOf(way.end(), own, way.count + 1, way.fitClass());
        return new Way(way, line, way.count + 1, way.out + line.out,
            way.over + (line.badness > rules[1] ? 1 : 0), way.demerits + line.demerits);
    }

    private boolean counts(Line line, int inPass) {
        return inPass == 3 || line.out == 0 && line.badness <= rules[inPass - 1];
    }

    private List<Way> ways(int inPass) {
        List<Integer> breaks = breaks(inPass);
        return breaks.size() <= MOST_TRIED ? everyWay(breaks, inPass) : keptWays(breaks, inPass);
    }

    private List<Way> everyWay(List<Integer> breaks, int inPass) {
        int free = breaks.size() - 1;
        List<Way> found = new ArrayList<>();
        for (int mask = 0; mask < 1 << free; mask++) {
            Way way = FRONT;
            boolean good = true;
            for (int j = 0; j <= free && good; j++) {
                if (j == free || (mask >> j & 1) != 0) {
                    way = extend(way, breaks.get(j));
                    good = counts(way.last, inPass);
                } else {
                    good = penaltyOf(breaks.get(j)) > -10000;
                }
            }
            if (good) {
                found.add(way);
            }
        }
        return found;
    }

    private List<Way> keptWays(List<Integer> breaks, int inPass) {
        List<Way> open = new ArrayList<>(List.of(FRONT));
        List<Way> kept = List.of();
        for (int own : breaks) {
            Map<Integer, Way> best = new HashMap<>();
            for (Way way : open) {
                Way longer = extend(way, own);
                if (counts(longer.last, inPass)) {
                    best.merge(longer.count * 4 + longer.fitClass(), longer,
                        (a, b) -> compare(a, b, inPass) <= 0 ? a : b);
                }
            }
            kept = new ArrayList<>(best.values());
            if (penaltyOf(own) <= -10000) {
                open.clear();
            }
            open.addAll(kept);
        }
        return kept;
    }

    /** Below 0 if the first way is better. */
    private static int compare(Way a, Way b, int inPass) {
        if (a.out != b.out) {
            return Long.compare(a.out, b.out);
        }
        if (inPass == 3 && a.over != b.over) {
            return Long.compare(a.over, b.over);
        }
        if (a.demerits != b.demerits) {
            return Long.compare(a.demerits, b.demerits);
        }
        if (a.count != b.count) {
            return Integer.compare(a.count, b.count);
        }
        for (; a.last != null; a = a.before, b = b.before) {
            if (a.fitClass() != b.fitClass()) {
                return Integer.compare(a.fitClass(), b.fitClass());
            }
            if (a.before.end() != b.before.end()) {
                return Integer.compare(a.before.end(), b.before.end());
            }
        }
        return 0;
    }

    private static Way bestOf(List<Way> ways, int inPass, int lineCount) {
        Way best = null;
        for (Way way : ways) {
            if (lineCount != 0 && way.count != lineCount) {
                continue;
            }
            if (best == null || compare(way, best, inPass) < 0) {
                best = way;
            }
        }
        return best;
    }

    int lines() {
        if (items.isEmpty() || countBreaks() > 400) {
            throw new IllegalStateException();
        }
        for (int p = rules[0] < 0 ? 2 : 1; p <= 3; p++) {
            List<Way> ways = ways(p);
            Way best = bestOf(ways, p, 0);
            if (best == null) {
                continue;
            }
            int own = best.count;
            int q = rules[8];
            int goal = Math.max(1, Math.min(breaks(p).size(), own + q));
            for (int n = goal; n != own; n += q > 0 ? -1 : 1) {
                Way other = bestOf(ways, p, n);
                if (other != null) {
                    best = other;
                    break;
                }
            }
            made = best;
            pass = p;
            return best.count;
        }
        throw new AssertionError("pass 3 has no way");
    }

    int line(int k, int what) {
        if (k < 1 || k > made.count || what < 0 || what > 4) {
            throw new IndexOutOfBoundsException();
        }
        Way way = made;
        while (way.count > k) {
            way = way.before;
        }
        Line line = way.last;
        return switch (what) {
            case 0 -> line.begin;
            case 1 -> line.end;
            case 2 -> (int) line.badness;
            case 3 -> line.fitClass;
            default -> (int) Math.min(Integer.MAX_VALUE, line.out);
        };
    }

    long about(int what) {
        return switch (what) {
            case 0 -> pass;
            case 1 -> made.count;
            case 2 -> made.demerits;
            case 3 -> made.out;
            case 4 -> made.over;
            case 5 -> items.size();
            default -> 0;
        };
    }
}
