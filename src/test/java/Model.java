import java.util.ArrayDeque;
import java.util.ArrayList;
import java.util.Arrays;
import java.util.Deque;
import java.util.List;
import java.util.TreeMap;
import java.util.TreeSet;

/**
 * The document's words again, as plainly as the Java library lets them be said and without a
 * thought of cost: what ModelTest holds the program against.
 */
final class Model {
    static final int NONE = -1, UNKNOWN = -1001, OUTSIDE = -1002, STATE = -1003, FULL = -1004;
    private static final String ITEM_LETTERS = "pqrstuPQRSTU";

    private record Join(int user, int used, int kind) {
    }

    private final List<int[]> terms = new ArrayList<>();
    private final TreeMap<Integer, Integer> parts = new TreeMap<>();
    private final List<Join> joins = new ArrayList<>();
    private String page = "";
    private int left = 0;

    int letter(int code) {
        if (code < 32 || code > 126) {
            return OUTSIDE;
        }
        if (page.length() == 24) {
            return FULL;
        }
        page += (char) code;
        return page.length();
    }

    int blank() {
        int had = page.length();
        page = "";
        return had;
    }

    int fault() {
        for (int end = 1; end <= page.length(); end++) {
            if (!isTerms(page.substring(0, end))) {
                return end - 1;
            }
        }
        return page.length();
    }

    private static boolean isTerms(String text) {
        if (!text.matches("([p-uP-U][+*]?)+")) {
            return false;
        }
        String letters = text.replaceAll("[+*]", "");
        return letters.chars().distinct().count() == letters.length();
    }

    int terms() {
        if (!isTerms(page)) {
            return STATE;
        }
        int[] reaches = new int[12];
        for (int item = 0; item < 12; item++) {
            String letter = ITEM_LETTERS.substring(item, item + 1);
            reaches[item] = page.contains(letter + "*") ? 3
                    : page.contains(letter + "+") ? 2
                    : page.contains(letter) ? 1 : 0;
        }
        int number = like(reaches);
        if (number == NONE && terms.size() == 8) {
            return FULL;
        }
        page = "";
        if (number == NONE) {
            terms.add(reaches);
            return terms.size() - 1;
        }
        return number;
    }

    private int like(int[] reaches) {
        for (int number = 0; number < terms.size(); number++) {
            if (Arrays.equals(terms.get(number), reaches)) {
                return number;
            }
        }
        return NONE;
    }

    private boolean isTermsNumber(int number) {
        return number >= 0 && number < terms.size();
    }

    int reach(int number, int item) {
        if (!isTermsNumber(number)) {
            return UNKNOWN;
        }
        return item < 0 || item > 11 ? OUTSIDE : terms.get(number)[item];
    }

    int two(int one, int other, int what) {
        if (!isTermsNumber(one) || !isTermsNumber(other)) {
            return UNKNOWN;
        }
        if (what < 0 || what > 2) {
            return OUTSIDE;
        }
        int[] both = new int[12];
        int[] common = new int[12];
        boolean first = true;
        boolean second = true;
        for (int item = 0; item < 12; item++) {
            int a = terms.get(one)[item];
            int b = terms.get(other)[item];
            both[item] = Math.max(a, b);
            common[item] = Math.min(a, b);
            first &= a <= b;
            second &= b <= a;
        }
        return what == 0 ? (first ? 1 : 0) + (second ? 2 : 0) : like(what == 1 ? both : common);
    }

    int part(int number) {
        if (!isTermsNumber(number)) {
            return UNKNOWN;
        }
        for (int part = 0; part < 8; part++) {
            if (!parts.containsKey(part)) {
                parts.put(part, number);
                return part;
            }
        }
        return FULL;
    }

    int give(int part, int number) {
        if (!parts.containsKey(part) || !isTermsNumber(number)) {
            return UNKNOWN;
        }
        return parts.put(part, number);
    }

    int leave(int part) {
        if (parts.remove(part) == null) {
            return UNKNOWN;
        }
        int before = joins.size();
        joins.removeIf(join -> join.user == part || join.used == part);
        left++;
        return before - joins.size();
    }

    int join(int user, int used, int kind) {
        if (!parts.containsKey(user) || !parts.containsKey(used) || user == used) {
            return UNKNOWN;
        }
        if (kind < -1 || kind > 3) {
            return OUTSIDE;
        }
        int before = kind(user, used);
        joins.removeIf(join -> join.user == user && join.used == used);
        if (kind != -1) {
            joins.add(new Join(user, used, kind));
        }
        return before;
    }

    int kind(int user, int used) {
        if (!parts.containsKey(user) || !parts.containsKey(used)) {
            return UNKNOWN;
        }
        for (Join join : joins) {
            if (join.user == user && join.used == used) {
                return join.kind;
            }
        }
        return NONE;
    }

    int of(int part, int what) {
        if (!parts.containsKey(part)) {
            return UNKNOWN;
        }
        int duties = 0;
        int bars = 0;
        int clashes = 0;
        for (int act = 0; act < 6; act++) {
            boolean duty = heldAmong(everyPart(), part, act) > 0;
            boolean bar = heldAmong(everyPart(), part, act + 6) > 0;
            duties += duty ? 1 << act : 0;
            bars += bar ? 1 << act : 0;
            clashes += duty && bar ? 1 << act : 0;
        }
        switch (what) {
            case 0: return parts.get(part);
            case 1: return duties;
            case 2: return bars;
            case 3: return clashes;
            case 4: return names(part);
            case 5: return (int) joins.stream().filter(join -> join.user == part).count();
            case 6: return (int) joins.stream().filter(join -> join.used == part).count();
            default: return OUTSIDE;
        }
    }

    private int names(int part) {
        TreeSet<Integer> found = usedFrom(everyPart(), part, 1);
        found.remove(part);
        return found.stream().mapToInt(name -> 1 << name).sum();
    }

    /** The part, and all that it uses in the end by joins up to that kind. */
    private TreeSet<Integer> usedFrom(int among, int part, int lastKind) {
        TreeSet<Integer> found = new TreeSet<>(List.of(part));
        Deque<Integer> open = new ArrayDeque<>(found);
        while (!open.isEmpty()) {
            int user = open.pop();
            for (Join join : joins) {
                boolean there = (among >> join.used & 1) == 1;
                if (join.user == user && there && join.kind <= lastKind && found.add(join.used)) {
                    open.push(join.used);
                }
            }
        }
        return found;
    }

    private int everyPart() {
        return parts.keySet().stream().mapToInt(part -> 1 << part).sum();
    }

    private int heldAmong(int among, int part, int item) {
        for (int reach = 3; reach > 0; reach--) {
            for (int from : usedFrom(among, part, reach - 1)) {
                if (terms.get(parts.get(from))[item] == reach) {
                    return reach;
                }
            }
        }
        return 0;
    }

    int held(int part, int item) {
        if (!parts.containsKey(part)) {
            return UNKNOWN;
        }
        return item < 0 || item > 11 ? OUTSIDE : heldAmong(everyPart(), part, item);
    }

    int way(int part, int item, int place) {
        int reach = held(part, item);
        if (reach < 0) {
            return reach;
        }
        List<Integer> best = reach == 0 ? List.of() : bestWay(new ArrayList<>(List.of(part)), item, reach);
        return place < 0 || place >= best.size() ? NONE : best.get(place);
    }

    /** Of all ways that begin so, each without a part twice, the one that comes first. */
    private List<Integer> bestWay(List<Integer> begun, int item, int reach) {
        int last = begun.get(begun.size() - 1);
        if (terms.get(parts.get(last))[item] == reach) {
            return new ArrayList<>(begun);
        }
        List<Integer> best = null;
        for (int next = 0; next < 8; next++) {
            int used = next;
            boolean goes = joins.stream().anyMatch(
                    join -> join.user == last && join.used == used && reach > join.kind);
            if (goes && !begun.contains(next)) {
                begun.add(next);
                List<Integer> found = bestWay(begun, item, reach);
                begun.remove(begun.size() - 1);
                if (found != null && (best == null || found.size() < best.size())) {
                    best = found;
                }
            }
        }
        return best;
    }

    private boolean isClash(int among, int part, int act) {
        return (among >> part & 1) == 1
                && heldAmong(among, part, act) > 0 && heldAmong(among, part, act + 6) > 0;
    }

    private List<Integer> clashes(int among) {
        List<Integer> found = new ArrayList<>();
        for (int part : parts.keySet()) {
            for (int act = 0; act < 6; act++) {
                if (isClash(among, part, act)) {
                    found.add(6 * part + act);
                }
            }
        }
        return found;
    }

    int clash(int place) {
        List<Integer> all = clashes(everyPart());
        return place < 0 || place >= all.size() ? UNKNOWN : all.get(place);
    }

    /** All sets of parts, the smallest first, of like ones that of the least sum. */
    private List<Integer> sets() {
        List<Integer> all = new ArrayList<>();
        for (int set = 0; set < 256; set++) {
            if ((set & ~everyPart()) == 0) {
                all.add(set);
            }
        }
        all.sort((a, b) -> Integer.bitCount(a) != Integer.bitCount(b)
                ? Integer.bitCount(a) - Integer.bitCount(b) : a - b);
        return all;
    }

    int cause(int part, int act) {
        if (!parts.containsKey(part)) {
            return UNKNOWN;
        }
        if (act < 0 || act > 5) {
            return OUTSIDE;
        }
        for (int set : sets()) {
            if (isClash(set, part, act)) {
                return set;
            }
        }
        return NONE;
    }

    int cure() {
        for (int set : sets()) {
            if (clashes(everyPart() & ~set).isEmpty()) {
                return set;
            }
        }
        return NONE;
    }

    int count(int what) {
        List<Integer> all = clashes(everyPart());
        switch (what) {
            case 0: return page.length();
            case 1: return terms.size();
            case 2: return parts.size();
            case 3: return everyPart();
            case 4: return joins.size();
            case 5: return all.size();
            case 6: return (int) all.stream().map(clash -> clash / 6).distinct().count();
            case 7: return left;
            default: return OUTSIDE;
        }
    }

    long digest() {
        List<Integer> told = new ArrayList<>();
        for (int[] reaches : terms) {
            for (int reach : reaches) {
                told.add(reach);
            }
        }
        for (int part : parts.keySet()) {
            told.add(part);
            for (int what = 0; what <= 6; what++) {
                told.add(of(part, what));
            }
            for (int item = 0; item < 12; item++) {
                told.add(held(part, item));
            }
            for (int used : parts.keySet()) {
                told.add(kind(part, used));
            }
        }
        for (int clash : clashes(everyPart())) {
            told.add(clash);
            told.add(cause(clash / 6, clash % 6));
        }
        told.add(cure());
        page.chars().forEach(told::add);
        for (int what = 0; what <= 7; what++) {
            told.add(count(what));
        }
        long h = 1697;
        for (int number : told) {
            h = 31 * h + number;
        }
        return h;
    }
}
