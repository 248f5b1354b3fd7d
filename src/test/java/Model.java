import java.util.ArrayList;
import java.util.Comparator;
import java.util.HashSet;
import java.util.LinkedHashSet;
import java.util.List;
import java.util.Set;
import java.util.TreeMap;

/**
 * The document's words as directly as they go, without a thought for speed, for RandomRunsTest and
 * TermsEdgesTest to compare with. Every answer is a text, as Due.outcome gives it.
 */
final class Model {
    private static final String NO_ELEMENT = "throws.ArrayIndexOutOfBoundsException";
    private static final String NO_ROW = "throws.IndexOutOfBoundsException";
    private static final String WRONG = "throws.IllegalArgumentException";
    private static final String FULL = "throws.UnsupportedOperationException";

    private record Place(int x, int y) { }

    private record Box(int left, int top, int right, int bottom) {
        boolean has(Place p) {
            return left <= p.x && p.x <= right && top <= p.y && p.y <= bottom;
        }

        List<Place> places() {
            List<Place> all = new ArrayList<>();
            for (int y = top; y <= bottom; y++) {
                for (int x = left; x <= right; x++) {
                    all.add(new Place(x, y));
                }
            }
            return all;
        }

        static Box around(Iterable<Place> places) {
            int l = Integer.MAX_VALUE;
            int t = Integer.MAX_VALUE;
            int r = -1;
            int b = -1;
            for (Place p : places) {
                l = Math.min(l, p.x);
                t = Math.min(t, p.y);
                r = Math.max(r, p.x);
                b = Math.max(b, p.y);
            }
            return new Box(l, t, r, b);
        }
    }

    private record Word(int number, int value, int x, int y) { }

    private record Rule(int kind, int a, boolean fails) { }

    private final int width;
    private final int height;
    private final int[][][] points;
    private int bound;
    private int near;
    private final List<List<Word>> sides = List.of(new ArrayList<>(), new ArrayList<>());
    private final List<TreeMap<Integer, List<Integer>>> pages = List.of(new TreeMap<>(), new TreeMap<>());
    private final List<Rule> rules = new ArrayList<>();
    private List<int[]> faults = new ArrayList<>();
    private final TreeMap<Integer, TreeMap<Integer, Set<Integer>>> approvals = new TreeMap<>();

    Model(int width, int height) {
        this.width = width < 0 ? 0 : width > 32 ? 32 : width;
        this.height = height < 0 ? 0 : height > 32 ? 32 : height;
        points = new int[2][this.width][this.height];
    }

    String point(int side, int x, int y, int v) {
        if (side < 0 || side > 1 || x < 0 || y < 0 || x >= width || y >= height) {
            return NO_ELEMENT;
        }
        int old = points[side][x][y];
        points[side][x][y] = Math.floorMod(v, 256);
        return "" + old;
    }

    String bound(int b, int n) {
        if (b < 0 || b > 255 || n < 0 || n > 2) {
            return WRONG;
        }
        String old = "" + (bound * 10 + near);
        bound = b;
        near = n;
        return old;
    }

    private boolean isMet(int side, Place p) {
        for (int x = 0; x < width; x++) {
            for (int y = 0; y < height; y++) {
                boolean within = Math.abs(x - p.x) <= near && Math.abs(y - p.y) <= near;
                if (within && Math.abs(points[1 - side][x][y] - points[side][p.x][p.y]) <= bound) {
                    return true;
                }
            }
        }
        return false;
    }

    private Set<Place> differingPlaces() {
        Set<Place> found = new LinkedHashSet<>();
        for (int x = 0; x < width; x++) {
            for (int y = 0; y < height; y++) {
                Place p = new Place(x, y);
                if (!isMet(0, p) || !isMet(1, p)) {
                    found.add(p);
                }
            }
        }
        return found;
    }

    String differing() {
        return "" + differingPlaces().size();
    }

    private Set<Place> together(Place start, Set<Place> all) {
        Set<Place> group = new HashSet<>(Set.of(start));
        int before;
        do {
            before = group.size();
            for (Place p : all) {
                for (Place q : List.copyOf(group)) {
                    if (Math.abs(p.x - q.x) <= near + 1 && Math.abs(p.y - q.y) <= near + 1) {
                        group.add(p);
                    }
                }
            }
        } while (group.size() > before);
        return group;
    }

    private List<Box> boxes() {
        Set<Place> left = differingPlaces();
        List<Box> boxes = new ArrayList<>();
        while (!left.isEmpty()) {
            Set<Place> group = together(left.iterator().next(), left);
            left.removeAll(group);
            boxes.add(Box.around(group));
        }
        while (joinTwo(boxes)) {
            continue;
        }
        boxes.sort(Comparator.comparingInt(Box::top).thenComparingInt(Box::left));
        return boxes;
    }

    private static boolean joinTwo(List<Box> boxes) {
        for (Box a : boxes) {
            for (Box b : boxes) {
                if (a != b && a.places().stream().anyMatch(b::has)) {
                    List<Place> both = a.places();
                    both.addAll(b.places());
                    boxes.remove(a);
                    boxes.remove(b);
                    boxes.add(Box.around(both));
                    return true;
                }
            }
        }
        return false;
    }

    String box(int i, int what) {
        List<Box> boxes = boxes();
        if (i == -1) {
            return "" + boxes.size();
        }
        if (i < 0 || i >= boxes.size() || what < 0 || what > 4) {
            return NO_ROW;
        }
        Box b = boxes.get(i);
        long inside = differingPlaces().stream().filter(b::has).count();
        return "" + new long[] {b.left, b.top, b.right, b.bottom, inside}[what];
    }

    String word(int side, int w, int x, int y) {
        if (side < 0 || side > 1) {
            return NO_ELEMENT;
        }
        if (w < 0) {
            return WRONG;
        }
        List<Word> words = sides.get(side);
        if (words.size() == 40) {
            return FULL;
        }
        words.add(new Word(words.size(), w, x, y));
        return "" + (words.size() - 1);
    }

    private static int longest(List<Word> a, List<Word> b) {
        int[][] m = new int[a.size() + 1][b.size() + 1];
        for (int i = 1; i <= a.size(); i++) {
            for (int j = 1; j <= b.size(); j++) {
                boolean same = a.get(i - 1).value == b.get(j - 1).value;
                m[i][j] = Math.max(same ? m[i - 1][j - 1] + 1 : 0, Math.max(m[i - 1][j], m[i][j - 1]));
            }
        }
        return m[a.size()][b.size()];
    }

    private static <T> List<T> behind(List<T> list) {
        return list.subList(1, list.size());
    }

    private List<Word> inOrder(int side) {
        List<Word> sorted = new ArrayList<>(sides.get(side));
        sorted.sort(Comparator.comparingInt(Word::y).thenComparingInt(Word::x).thenComparingInt(Word::number));
        return sorted;
    }

    private List<int[]> rows() {
        List<int[]> met = new ArrayList<>();
        List<Word> a = inOrder(0);
        List<Word> b = inOrder(1);
        while (!a.isEmpty() && !b.isEmpty()) {
            Word first = a.get(0);
            Word second = b.get(0);
            if (first.value == second.value) {
                boolean there = first.x == second.x && first.y == second.y;
                met.add(new int[] {there ? 0 : 4, first.value, first.number, second.number});
                a = behind(a);
                b = behind(b);
            } else if (longest(behind(a), b) >= longest(a, behind(b))) {
                met.add(new int[] {1, first.value, first.number, -1});
                a = behind(a);
            } else {
                met.add(new int[] {3, second.value, -1, second.number});
                b = behind(b);
            }
        }
        a.forEach(w -> met.add(new int[] {1, w.value, w.number, -1}));
        b.forEach(w -> met.add(new int[] {3, w.value, -1, w.number}));
        for (int[] gone : met) {
            int[] pair = gone[0] != 1 ? null
                : met.stream().filter(r -> r[0] == 3 && r[1] == gone[1]).findFirst().orElse(null);
            if (pair != null) {
                gone[0] = 2;
                gone[3] = pair[3];
                pair[0] = 0;
            }
        }
        met.removeIf(r -> r[0] == 0);
        return met;
    }

    String words(int i, int what) {
        List<int[]> rows = rows();
        if (i == -1) {
            return "" + rows.size();
        }
        return i < 0 || i >= rows.size() || what < 0 || what > 3 ? NO_ROW : "" + rows.get(i)[what];
    }

    String size(int side, int page, int w, int h) {
        if (side < 0 || side > 1 || page < 0 || page > 19) {
            return NO_ELEMENT;
        }
        if (w < 1 || h < 1) {
            return WRONG;
        }
        pages.get(side).put(page, List.of(w, h));
        List<Integer> other = pages.get(1 - side).get(page);
        return other == null || other.equals(List.of(w, h)) ? "1" : "0";
    }

    private List<Integer> missingPages() {
        List<Integer> found = new ArrayList<>();
        for (int page = 0; page < 20; page++) {
            for (int side = 0; side < 2; side++) {
                if (!pages.get(side).containsKey(page) && pages.get(1 - side).containsKey(page)) {
                    found.add(2 * page + side);
                }
            }
        }
        return found;
    }

    String missing(int i) {
        List<Integer> found = missingPages();
        if (i == -1) {
            return "" + found.size();
        }
        return i < 0 || i >= found.size() ? NO_ROW : "" + found.get(i);
    }

    String rule(int kind, int a, boolean fails) {
        if (kind < 0 || kind > 5 || a < 0) {
            return WRONG;
        }
        if (rules.size() == 12) {
            return FULL;
        }
        rules.add(new Rule(kind, a, fails));
        return "" + (rules.size() - 1);
    }

    private long find(int kind) {
        return switch (kind) {
            case 0 -> differingPlaces().size();
            case 1 -> boxes().stream().mapToLong(b -> b.places().size()).max().orElse(0);
            case 2 -> rows().stream().filter(r -> r[0] == 1).count();
            case 3 -> rows().stream().filter(r -> r[0] == 2 || r[0] == 4).count();
            case 4 -> missingPages().size();
            default -> pages.get(0).entrySet().stream().filter(e -> pages.get(1).containsKey(e.getKey())
                && !pages.get(1).get(e.getKey()).equals(e.getValue())).count();
        };
    }

    String check() {
        faults = new ArrayList<>();
        for (int i = 0; i < rules.size(); i++) {
            Rule r = rules.get(i);
            long found = r.fails ? 0 : find(r.kind);
            if (r.fails || found > r.a) {
                faults.add(new int[] {i, r.fails ? -1 : r.kind, (int) found});
            }
        }
        return "" + faults.size();
    }

    String fault(int i, int what) {
        return i < 0 || i >= faults.size() || what < 0 || what > 2 ? NO_ROW : "" + faults.get(i)[what];
    }

    String approve(int page, int edition, int who) {
        if (page < 0 || page > 19) {
            return NO_ELEMENT;
        }
        if (edition < 0) {
            return WRONG;
        }
        TreeMap<Integer, Set<Integer>> editions = approvals.computeIfAbsent(page, p -> new TreeMap<>());
        if (!editions.isEmpty() && edition < editions.lastKey()) {
            return "0";
        }
        Set<Integer> people = editions.computeIfAbsent(edition, e -> new HashSet<>());
        if (people.contains(who)) {
            return "0";
        }
        if (people.size() == 6) {
            return FULL;
        }
        people.add(who);
        return "1";
    }

    String approved(int page) {
        if (page < 0 || page > 19) {
            return NO_ELEMENT;
        }
        TreeMap<Integer, Set<Integer>> editions = approvals.get(page);
        return editions != null && editions.lastEntry().getValue().size() >= 2 ? "1" : "0";
    }
}
