import java.util.Arrays;

/**
 * Parts that are joined to others, each under terms of duties and bars: what comes to each part
 * in the end, by which way, where a duty meets its bar, and by how few parts that is so.
 *
 * <p>The REACHES of all ITEMS lie in one long, in three rows of twelve bits: the row of NEAR is the
 * lowest one, that of NET the highest. An ITEM stands in every row up to its REACH, so that BOTH of
 * two TERMS is their "or", COMMON their "and", and TERMS are LOOSER if they have no bit that the
 * others lack.
 */
public final class PassedDuties {
    public static final int NONE = -1, UNKNOWN = -1001, OUTSIDE = -1002, STATE = -1003, FULL = -1004;

    private static final int ACTS = 6;
    private static final int ITEMS = 12;
    private static final int NEAR = 1;
    private static final int FAR = 2;
    private static final int NET = 3;
    private static final int MOST_LETTERS = 24;
    private static final int MOST_TERMS = 8;
    private static final int MOST_PARTS = 8;
    private static final int SETS = 1 << MOST_PARTS;
    private static final int LAST_KIND = 3;
    private static final int LAST_OF = 6;
    private static final int LAST_COUNT = 7;
    private static final int NAMED_KIND = 1;
    private static final int ALL_ACTS = (1 << ACTS) - 1;
    private static final int ALL_ITEMS = (1 << ITEMS) - 1;
    private static final long ALL_ROWS = (1L << (NET * ITEMS)) - 1;

    private final Page page;
    private final Book book;
    private final Parts parts;
    private final Ways ways;
    private final Clashes clashes;

    public PassedDuties() {
        page = new Page();
        book = new Book();
        parts = new Parts();
        ways = new Ways(parts);
        clashes = new Clashes(parts);
    }

    // ---- texts

    public int letter(int code) {
        if (code < 32 || code > 126) {
            return OUTSIDE;
        }
        return page.length < MOST_LETTERS ? page.write(code) : FULL;
    }

    public int blank() {
        return page.wipe();
    }

    public int fault() {
        return page.firstFault();
    }

    public int terms() {
        if (page.length == 0 || page.firstFault() < page.length) {
            return STATE;
        }
        int number = book.numberFor(page.meaning());
        if (number == NONE) {
            return FULL;
        }
        page.wipe();
        return number;
    }

    // ---- terms

    public int reach(int terms, int item) {
        if (!book.has(terms)) {
            return UNKNOWN;
        }
        return isItem(item) ? Reaches.greatest(book.rows[terms], item) : OUTSIDE;
    }

    public int two(int one, int other, int what) {
        if (!book.has(one) || !book.has(other)) {
            return UNKNOWN;
        }
        long first = book.rows[one];
        long second = book.rows[other];
        switch (what) {
            case 0: return Reaches.looser(first, second);
            case 1: return book.find(first | second);
            case 2: return book.find(first & second);
            default: return OUTSIDE;
        }
    }

    // ---- parts, joins

    public int part(int terms) {
        if (!book.has(terms)) {
            return UNKNOWN;
        }
        int free = parts.leastFree();
        if (free == NONE) {
            return FULL;
        }
        parts.put(free, terms, book.rows[terms]);
        return free;
    }

    public int give(int part, int terms) {
        if (!parts.has(part) || !book.has(terms)) {
            return UNKNOWN;
        }
        int before = parts.under[part];
        parts.put(part, terms, book.rows[terms]);
        return before;
    }

    public int leave(int part) {
        return parts.has(part) ? parts.remove(part) : UNKNOWN;
    }

    public int join(int user, int used, int kind) {
        if (!parts.has(user) || !parts.has(used) || user == used) {
            return UNKNOWN;
        }
        if (kind < NONE || kind > LAST_KIND) {
            return OUTSIDE;
        }
        int before = parts.kindOf(user, used);
        parts.setKind(user, used, kind);
        return before;
    }

    public int kind(int user, int used) {
        return parts.has(user) && parts.has(used) ? parts.kindOf(user, used) : UNKNOWN;
    }

    // ---- what comes to each

    public int of(int part, int what) {
        if (!parts.has(part)) {
            return UNKNOWN;
        }
        switch (what) {
            case 0: return parts.under[part];
            case 1: return Reaches.duties(parts.come[part]);
            case 2: return Reaches.bars(parts.come[part]);
            case 3: return Reaches.meeting(parts.come[part]);
            case 4: return parts.namesOf(part);
            case 5: return parts.joinsFrom(part);
            case 6: return parts.joinsTo(part);
            default: return OUTSIDE;
        }
    }

    public int held(int part, int item) {
        if (!parts.has(part)) {
            return UNKNOWN;
        }
        return isItem(item) ? parts.reachHeld(part, item) : OUTSIDE;
    }

    public int way(int part, int item, int place) {
        if (!parts.has(part)) {
            return UNKNOWN;
        }
        return isItem(item) ? ways.partAt(part, item, place) : OUTSIDE;
    }

    // ---- clashes

    public int clash(int place) {
        int found = clashes.at(place);
        return found == NONE ? UNKNOWN : found;
    }

    public int cause(int part, int act) {
        if (!parts.has(part)) {
            return UNKNOWN;
        }
        return act >= 0 && act < ACTS ? clashes.fewestFor(part * ACTS + act) : OUTSIDE;
    }

    public int cure() {
        return clashes.fewestToLeave();
    }

    public int count(int what) {
        switch (what) {
            case 0: return page.length;
            case 1: return book.size;
            case 2: return Integer.bitCount(parts.there);
            case 3: return parts.there;
            case 4: return parts.joins();
            case 5: return Long.bitCount(clashes.now());
            case 6: return clashes.partsNow();
            case 7: return parts.timesLeft;
            default: return OUTSIDE;
        }
    }

    public long digest() {
        long h = withTerms(1697);
        for (int part = 0; part < MOST_PARTS; part++) {
            if (parts.has(part)) {
                h = withPart(h, part);
            }
        }
        h = withClashes(h);
        h = mix(h, cure());
        for (int place = 0; place < page.length; place++) {
            h = mix(h, page.codes[place]);
        }
        for (int what = 0; what <= LAST_COUNT; what++) {
            h = mix(h, count(what));
        }
        return h;
    }

    private long withTerms(long start) {
        long h = start;
        for (int number = 0; number < book.size; number++) {
            for (int item = 0; item < ITEMS; item++) {
                h = mix(h, reach(number, item));
            }
        }
        return h;
    }

    private long withPart(long start, int part) {
        long h = mix(start, part);
        for (int what = 0; what <= LAST_OF; what++) {
            h = mix(h, of(part, what));
        }
        for (int item = 0; item < ITEMS; item++) {
            h = mix(h, held(part, item));
        }
        for (int used = 0; used < MOST_PARTS; used++) {
            if (parts.has(used)) {
                h = mix(h, kind(part, used));
            }
        }
        return h;
    }

    private long withClashes(long start) {
        long h = start;
        long all = clashes.now();
        for (int found = 0; found < MOST_PARTS * ACTS; found++) {
            if (isSet(all, found)) {
                h = mix(h, found);
                h = mix(h, clashes.fewestFor(found));
            }
        }
        return h;
    }

    private static long mix(long h, long next) {
        return 31 * h + next;
    }

    private static boolean isItem(int item) {
        return item >= 0 && item < ITEMS;
    }

    private static boolean isSet(long bits, int bit) {
        return ((bits >> bit) & 1) != 0;
    }

    /** What can be said of REACHES that lie in the rows of one long. */
    private static final class Reaches {
        static long rowsFor(int item, int reach) {
            long rows = 0;
            for (int row = 0; row < reach; row++) {
                rows |= 1L << (row * ITEMS + item);
            }
            return rows;
        }

        static int greatest(long rows, int item) {
            for (int reach = NET; reach >= NEAR; reach--) {
                if (isSet(rows, (reach - 1) * ITEMS + item)) {
                    return reach;
                }
            }
            return 0;
        }

        static int looser(long first, long second) {
            int firstIs = (first & ~second) == 0 ? 1 : 0;
            int secondIs = (second & ~first) == 0 ? 2 : 0;
            return firstIs + secondIs;
        }

        static int duties(long rows) {
            return itemsIn(rows) & ALL_ACTS;
        }

        static int bars(long rows) {
            return itemsIn(rows) >> ACTS;
        }

        static int meeting(long rows) {
            int items = itemsIn(rows);
            return items & (items >> ACTS);
        }

        /** The rows of the REACHES that are greater than the KIND. */
        static long letThrough(int kind) {
            return kind == NONE ? 0 : ALL_ROWS & (-1L << (kind * ITEMS));
        }

        /** All rows are looked at, since a JOIN can let a higher one through without the lower. */
        private static int itemsIn(long rows) {
            return (int) (rows | (rows >> ITEMS) | (rows >> (2 * ITEMS))) & ALL_ITEMS;
        }
    }

    /** THE PAGE: the letters of a text that may become TERMS. */
    private static final class Page {
        private final int[] codes = new int[MOST_LETTERS];
        private int length = 0;

        int write(int code) {
            if (length < MOST_LETTERS) {
                codes[length] = code;
                length++;
            }
            return length;
        }

        int wipe() {
            int before = length;
            length = 0;
            return before;
        }

        /** The place of the first letter that can't stand there, or the length. */
        int firstFault() {
            int seen = 0;
            boolean signMayFollow = false;
            for (int place = 0; place < length; place++) {
                int item = itemOf(codes[place]);
                boolean fits = item == NONE
                        ? signMayFollow && reachOf(codes[place]) != NEAR
                        : !isSet(seen, item);
                if (!fits) {
                    return place;
                }
                signMayFollow = item != NONE;
                seen |= signMayFollow ? 1 << item : 0;
            }
            return length;
        }

        /** The rows of a page that has no fault. */
        long meaning() {
            long rows = 0;
            for (int place = 0; place < length; place++) {
                int item = itemOf(codes[place]);
                if (item != NONE) {
                    int reach = place + 1 < length ? reachOf(codes[place + 1]) : NEAR;
                    rows |= Reaches.rowsFor(item, reach);
                }
            }
            return rows;
        }

        private static int itemOf(int code) {
            if (code >= 'p' && code <= 'u') {
                return code - 'p';
            }
            return code >= 'P' && code <= 'U' ? code - 'P' + ACTS : NONE;
        }

        /** The REACH that a letter gives to the ITEM ahead of it: NEAR, if it is no sign. */
        private static int reachOf(int code) {
            if (code == '+') {
                return FAR;
            }
            return code == '*' ? NET : NEAR;
        }
    }

    /** All TERMS that have been read. */
    private static final class Book {
        private final long[] rows = new long[MOST_TERMS];
        private int size = 0;

        boolean has(int number) {
            return number >= 0 && number < size;
        }

        int find(long wanted) {
            for (int number = 0; number < size; number++) {
                if (rows[number] == wanted) {
                    return number;
                }
            }
            return NONE;
        }

        /** The number of these TERMS, which come in if they are new; NONE: there is no room. */
        int numberFor(long wanted) {
            int known = find(wanted);
            if (known != NONE || size >= MOST_TERMS) {
                return known;
            }
            rows[size] = wanted;
            size++;
            return size - 1;
        }
    }

    /** The PARTS, their JOINS, and what comes to each PART in the end. */
    private static final class Parts {
        private final int[] under = new int[MOST_PARTS];
        private final long[] own = new long[MOST_PARTS];
        private final int[] kinds = new int[MOST_PARTS * MOST_PARTS];
        private final long[] through = new long[MOST_PARTS * MOST_PARTS];
        private final long[] come = new long[MOST_PARTS];
        private int there = 0;
        private int timesLeft = 0;
        private int changes = 0;

        Parts() {
            Arrays.fill(kinds, NONE);
        }

        boolean has(int part) {
            return part >= 0 && part < MOST_PARTS && isSet(there, part);
        }

        int leastFree() {
            for (int part = 0; part < MOST_PARTS; part++) {
                if (!has(part)) {
                    return part;
                }
            }
            return NONE;
        }

        void put(int part, int number, long rows) {
            there |= 1 << part;
            under[part] = number;
            own[part] = rows;
            settle();
        }

        int remove(int part) {
            int joins = joinsFrom(part) + joinsTo(part);
            for (int other = 0; other < MOST_PARTS; other++) {
                setJoin(part, other, NONE);
                setJoin(other, part, NONE);
            }
            there &= ~(1 << part);
            timesLeft++;
            settle();
            return joins;
        }

        int kindOf(int user, int used) {
            return kinds[user * MOST_PARTS + used];
        }

        void setKind(int user, int used, int kind) {
            setJoin(user, used, kind);
            settle();
        }

        boolean lets(int user, int used, int reach) {
            int kind = kindOf(user, used);
            return kind != NONE && reach > kind;
        }

        int reachHeld(int part, int item) {
            return Reaches.greatest(come[part], item);
        }

        int joinsFrom(int part) {
            int joins = 0;
            for (int used = 0; used < MOST_PARTS; used++) {
                joins += kindOf(part, used) == NONE ? 0 : 1;
            }
            return joins;
        }

        int joinsTo(int part) {
            int joins = 0;
            for (int user = 0; user < MOST_PARTS; user++) {
                joins += kindOf(user, part) == NONE ? 0 : 1;
            }
            return joins;
        }

        int joins() {
            int joins = 0;
            for (int part = 0; part < MOST_PARTS; part++) {
                joins += joinsFrom(part);
            }
            return joins;
        }

        int namesOf(int part) {
            int names = 1 << part;
            for (int round = 0; round < MOST_PARTS; round++) {
                for (int user = 0; user < MOST_PARTS; user++) {
                    names |= isSet(names, user) ? namedBy(user) : 0;
                }
            }
            return names & ~(1 << part);
        }

        private int namedBy(int user) {
            int named = 0;
            for (int used = 0; used < MOST_PARTS; used++) {
                int kind = kindOf(user, used);
                named |= kind != NONE && kind <= NAMED_KIND ? 1 << used : 0;
            }
            return named;
        }

        /**
         * What comes to each PART if those of the set are there alone. A PART may get the higher
         * rows of an ITEM without the lower ones; the highest one tells its REACH, and where a
         * lower one goes through, it does so too. No way is longer than there are PARTS, so as
         * many rounds are enough.
         */
        void spread(int set, long[] rows) {
            for (int part = 0; part < MOST_PARTS; part++) {
                rows[part] = isSet(set, part) ? own[part] : 0;
            }
            boolean more = true;
            for (int round = 0; more && round < MOST_PARTS; round++) {
                more = false;
                for (int user = 0; user < MOST_PARTS; user++) {
                    if (isSet(set, user) && getsMore(user, rows)) {
                        more = true;
                    }
                }
            }
        }

        private boolean getsMore(int user, long[] rows) {
            long before = rows[user];
            long sum = before;
            for (int used = 0; used < MOST_PARTS; used++) {
                sum |= rows[used] & through[user * MOST_PARTS + used];
            }
            rows[user] = sum;
            return sum != before;
        }

        private void setJoin(int user, int used, int kind) {
            kinds[user * MOST_PARTS + used] = kind;
            through[user * MOST_PARTS + used] = Reaches.letThrough(kind);
        }

        private void settle() {
            changes++;
            spread(there, come);
        }
    }

    /** By which WAY an ITEM comes to a PART. */
    private static final class Ways {
        private final Parts parts;
        private final int[] joinsLeft = new int[MOST_PARTS];

        Ways(Parts parts) {
            this.parts = parts;
        }

        int partAt(int part, int item, int place) {
            int reach = parts.reachHeld(part, item);
            if (reach == 0 || place < 0) {
                return NONE;
            }
            measure(item, reach);
            if (place > joinsLeft[part]) {
                return NONE;
            }
            int at = part;
            for (int step = 0; at != NONE && step < place; step++) {
                at = nearer(at, joinsLeft[at] - 1, reach);
            }
            return at;
        }

        /** By how few JOINS the ITEM comes to each PART, of those that let it through (or NONE). */
        private void measure(int item, int reach) {
            for (int part = 0; part < MOST_PARTS; part++) {
                boolean hasItself = parts.has(part)
                        && Reaches.greatest(parts.own[part], item) == reach;
                joinsLeft[part] = hasItself ? 0 : NONE;
            }
            for (int joins = 1; joins < MOST_PARTS; joins++) {
                for (int part = 0; part < MOST_PARTS; part++) {
                    if (joinsLeft[part] == NONE && nearer(part, joins - 1, reach) != NONE) {
                        joinsLeft[part] = joins;
                    }
                }
            }
        }

        /** The first PART that a PART can get it from, of those to which it comes by so many. */
        private int nearer(int user, int joins, int reach) {
            for (int used = 0; used < MOST_PARTS; used++) {
                if (joinsLeft[used] == joins && parts.lets(user, used, reach)) {
                    return used;
                }
            }
            return NONE;
        }
    }

    /**
     * Where DUTIES meet their BARS. A set of CLASHES lies in one long: the bit of a CLASH is 6
     * times its PART, and its ACT. CAUSE and CURE ask for the CLASHES of each set of PARTS; those
     * are kept until PARTS or JOINS change, since digest() asks for all of them many times.
     */
    private static final class Clashes {
        private final Parts parts;
        private final long[] bySet = new long[SETS];
        private final long[] rows = new long[MOST_PARTS];
        private int keptFor = NONE;

        Clashes(Parts parts) {
            this.parts = parts;
        }

        long now() {
            return meetings(parts.come);
        }

        int partsNow() {
            int having = 0;
            for (int part = 0; part < MOST_PARTS; part++) {
                having += Reaches.meeting(parts.come[part]) != 0 ? 1 : 0;
            }
            return having;
        }

        int at(int place) {
            long all = now();
            int ahead = 0;
            for (int found = 0; found < MOST_PARTS * ACTS; found++) {
                if (isSet(all, found)) {
                    if (ahead == place) {
                        return found;
                    }
                    ahead++;
                }
            }
            return NONE;
        }

        int fewestFor(int found) {
            if (!isSet(now(), found)) {
                return NONE;
            }
            keepAll();
            int fewest = parts.there;
            for (int set = 0; set < SETS; set++) {
                if (isSet(bySet[set], found) && isFewer(set, fewest)) {
                    fewest = set;
                }
            }
            return fewest;
        }

        int fewestToLeave() {
            if (now() == 0) {
                return 0;
            }
            keepAll();
            int fewest = parts.there;
            for (int set = 0; set < SETS; set++) {
                if (bySet[parts.there & ~set] == 0 && isFewer(set, fewest)) {
                    fewest = set;
                }
            }
            return fewest;
        }

        /** Sets are looked at by their sums, so that of like ones the least comes first. */
        private boolean isFewer(int set, int fewest) {
            return (set & ~parts.there) == 0 && Integer.bitCount(set) < Integer.bitCount(fewest);
        }

        private void keepAll() {
            if (keptFor == parts.changes) {
                return;
            }
            for (int set = 0; set < SETS; set++) {
                if ((set & ~parts.there) == 0) {
                    parts.spread(set, rows);
                    bySet[set] = meetings(rows);
                }
            }
            keptFor = parts.changes;
        }

        private static long meetings(long[] rows) {
            long all = 0;
            for (int part = 0; part < MOST_PARTS; part++) {
                all |= (long) Reaches.meeting(rows[part]) << (part * ACTS);
            }
            return all;
        }
    }
}
