/** A kitchen of shelves with bowls of the same size. */
public final class SlabKitchen {
    private static final int SHELVES = 12;
    private static final int SPANS = 24;
    private static final int SPOTS = SHELVES * SPANS;
    private static final int MOST_KINDS = 5;
    private static final int SMALLEST_SIZE = 2;
    private static final int GREATEST_SIZE = 12;
    private static final int MOST_PLACES = SPANS / SMALLEST_SIZE;
    private static final int MOST_AGE = 99;
    private static final int MOST_MANY = 150;

    // Packing moves no bowl twice, and there are 144 at most: no run comes near this.
    private static final int MOST_MOVES = 1000;

    private static final int NONE = -1;

    private static final int WAY_NUMBER = 0;
    private static final int WAY_MOST = 1;
    private static final int WAY_FEWEST = 2;

    private static final int FREE = 0;
    private static final int EMPTY = 1;
    private static final int IN_USE = 2;
    private static final int FULL = 3;

    private static final int SHELF_ANSWERS = 6;
    private static final int ABOUT_ANSWERS = 9;
    private static final int PLACE_ANSWERS = 4;
    private static final int COUNT_ANSWERS = 10;

    private static final long DIGEST_START = 1733;
    private static final long DIGEST_FACTOR = 31;

    private final Shelf[] shelves = new Shelf[SHELVES];
    private final Kind[] kinds = new Kind[MOST_KINDS];
    private int kindsMade = 0;
    private int way = WAY_NUMBER;
    private int time = 0;
    private int putInAll = 0;
    private int movedInAll = 0;

    /** A kitchen without kinds, at the time 0. */
    public SlabKitchen() {
        for (int number = 0; number < shelves.length; number++) {
            shelves[number] = new Shelf(number * SPANS);
        }
    }

    // ---- kinds and bowls

    public int kind(int size) throws IllegalArgumentException, IllegalStateException {
        if (size < SMALLEST_SIZE || size > GREATEST_SIZE) {
            throw new IllegalArgumentException("a size is 2 to 12");
        }
        int number = kindsMade;
        if (number >= kinds.length) {
            throw new IllegalStateException("there are 5 kinds");
        }
        kinds[number] = new Kind(number, size);
        kindsMade++;
        return number;
    }

    public int setWay(int way) throws IndexOutOfBoundsException {
        if (way < WAY_NUMBER || way > WAY_FEWEST) {
            throw new IndexOutOfBoundsException("a way is 0 to 2");
        }
        int before = this.way;
        this.way = way;
        return before;
    }

    public int put(int kind) throws IndexOutOfBoundsException, IllegalStateException {
        Kind wanted = kindOf(kind);
        Shelf target = shelfToPut(wanted);
        if (target == null) {
            throw new IllegalStateException("there is neither a place nor a free shelf");
        }
        if (target.state() == FREE) {
            target.comeTo(wanted);
        }
        int place = target.firstGap();
        target.addBowl(place);
        time++;
        putInAll++;
        return target.beginOf(place);
    }

    public int take(int spot) throws IndexOutOfBoundsException, IllegalArgumentException {
        Shelf shelf = shelfAt(spot);
        int place = shelf.placeAt(spot);
        if (!shelf.standsOn(place) || shelf.beginOf(place) != spot) {
            throw new IllegalArgumentException("no bowl's place begins there");
        }
        time++;
        shelf.removeBowl(place, time);
        return shelf.bowls;
    }

    public int reap(int age) throws IllegalArgumentException {
        if (age < 0 || age > MOST_AGE) {
            throw new IllegalArgumentException("an age is 0 to 99");
        }
        int reaped = 0;
        for (Shelf shelf : shelves) {
            if (shelf.state() == EMPTY && time - shelf.emptySince >= age) {
                shelf.becomeFree();
                reaped++;
            }
        }
        return reaped;
    }

    public int pack(int kind) throws IndexOutOfBoundsException {
        Kind packed = kindOf(kind);
        int moved = 0;
        while (moved < MOST_MOVES && moveToPack(packed)) {
            moved++;
        }
        movedInAll += moved;
        return moved;
    }

    // ---- what there is

    public int shelf(int shelf, int what) throws IndexOutOfBoundsException {
        if (shelf < 0 || shelf >= shelves.length) {
            throw new IndexOutOfBoundsException("a shelf is 0 to 11");
        }
        requireAnswer(what, SHELF_ANSWERS);
        return shelves[shelf].answer(what);
    }

    public int about(int kind, int what) throws IndexOutOfBoundsException {
        Kind asked = kindOf(kind);
        requireAnswer(what, ABOUT_ANSWERS);
        return answerAbout(asked, what);
    }

    public int place(int spot, int what) throws IndexOutOfBoundsException {
        Shelf shelf = shelfAt(spot);
        requireAnswer(what, PLACE_ANSWERS);
        int place = shelf.placeAt(spot);
        if (place == NONE) {
            return NONE;
        }
        switch (what) {
            case 0: return shelf.owner;
            case 1: return place;
            case 2: return shelf.standsOn(place) ? 1 : 0;
            default: return shelf.beginOf(place);
        }
    }

    public int count(int what) throws IndexOutOfBoundsException {
        requireAnswer(what, COUNT_ANSWERS);
        switch (what) {
            case 0: return time;
            case 1: return kindsMade;
            case 2: return freeShelves();
            case 3: return bowlsInAll();
            case 4: return spansUnderBowls();
            case 5: return takenShelves() * SPANS - spansUnderBowls();
            case 6: return spansOfNoPlace();
            case 7: return putInAll;
            case 8: return movedInAll;
            default: return way;
        }
    }

    // ---- what would be

    public int next(int kind) throws IndexOutOfBoundsException {
        return nextSpot(kindOf(kind));
    }

    public int fits(int kind) throws IndexOutOfBoundsException {
        Kind wanted = kindOf(kind);
        return gapsOf(wanted) + freeShelves() * wanted.places;
    }

    public int would(int kind, int many)
            throws IndexOutOfBoundsException, IllegalArgumentException {
        Kind wanted = kindOf(kind);
        if (many < 1 || many > MOST_MANY) {
            throw new IllegalArgumentException("many is 1 to 150");
        }
        // A kind's own places are filled before it gets a free shelf, whatever the way.
        int beyond = many - gapsOf(wanted);
        if (beyond <= 0) {
            return 0;
        }
        int needed = wanted.shelvesFor(beyond);
        return needed > freeShelves() ? NONE : needed;
    }

    public int gains(int kind) throws IndexOutOfBoundsException {
        return gainsOf(kindOf(kind));
    }

    public int advise() {
        int best = NONE;
        int most = NONE;
        for (Kind kind : kinds) {
            if (kind != null && gainsOf(kind) > most) {
                best = kind.number;
                most = gainsOf(kind);
            }
        }
        return best;
    }

    public double mean() {
        int taken = takenShelves();
        if (taken == 0) {
            return 0.0;
        }
        return (double) bowlsInAll() / (double) taken;
    }

    public long digest() {
        long d = DIGEST_START;
        for (int what = 0; what < COUNT_ANSWERS; what++) {
            d = mixed(d, count(what));
        }
        for (Shelf shelf : shelves) {
            d = mixedWithShelf(d, shelf);
        }
        for (Kind kind : kinds) {
            if (kind != null) {
                d = mixedWithKind(d, kind);
            }
        }
        return d;
    }

    // ---- numbers that callers give

    private Kind kindOf(int number) {
        if (number < 0 || number >= kinds.length || kinds[number] == null) {
            throw new IndexOutOfBoundsException("there is no such kind");
        }
        return kinds[number];
    }

    private Shelf shelfAt(int spot) {
        if (spot < 0 || spot >= SPOTS) {
            throw new IndexOutOfBoundsException("a spot is 0 to 287");
        }
        return shelves[spot / SPANS];
    }

    private static void requireAnswer(int what, int answers) {
        if (what < 0 || what >= answers) {
            throw new IndexOutOfBoundsException("nothing is told under this number");
        }
    }

    // ---- telling of kinds

    private int answerAbout(Kind kind, int what) {
        switch (what) {
            case 0: return kind.size;
            case 1: return kind.places;
            case 2: return kind.rest;
            case 3: return shelvesOf(kind);
            case 4: return shelvesInState(kind, FULL);
            case 5: return shelvesInState(kind, IN_USE);
            case 6: return shelvesInState(kind, EMPTY);
            case 7: return bowlsOf(kind);
            default: return kind.shelvesEver;
        }
    }

    private int nextSpot(Kind kind) {
        Shelf target = shelfToPut(kind);
        if (target == null) {
            return NONE;
        }
        if (target.state() == FREE) {
            return target.firstSpot + kind.nextRim;
        }
        return target.beginOf(target.firstGap());
    }

    // ---- choosing shelves; null if there is none

    private Shelf shelfToPut(Kind kind) {
        Shelf found = inUseByWay(kind);
        if (found == null) {
            found = firstInState(kind, EMPTY);
        }
        return found == null ? firstFree() : found;
    }

    private Shelf inUseByWay(Kind kind) {
        switch (way) {
            case WAY_MOST: return mostBowls(kind, null);
            case WAY_FEWEST: return fewestBowls(kind);
            default: return firstInState(kind, IN_USE);
        }
    }

    private Shelf firstInState(Kind kind, int state) {
        for (Shelf shelf : shelves) {
            if (shelf.isOf(kind) && shelf.state() == state) {
                return shelf;
            }
        }
        return null;
    }

    private Shelf firstFree() {
        for (Shelf shelf : shelves) {
            if (shelf.state() == FREE) {
                return shelf;
            }
        }
        return null;
    }

    /** Of the shelves in use but one; of several with the most, the smallest number. */
    private Shelf mostBowls(Kind kind, Shelf but) {
        Shelf best = null;
        for (Shelf shelf : shelves) {
            if (shelf != but && shelf.isOf(kind) && shelf.state() == IN_USE
                    && (best == null || shelf.bowls > best.bowls)) {
                best = shelf;
            }
        }
        return best;
    }

    /** Of the shelves in use; of several with the fewest, the smallest number. */
    private Shelf fewestBowls(Kind kind) {
        Shelf best = null;
        for (Shelf shelf : shelves) {
            if (shelf.isOf(kind) && shelf.state() == IN_USE
                    && (best == null || shelf.bowls < best.bowls)) {
                best = shelf;
            }
        }
        return best;
    }

    /** Of the shelves in use; of several with the fewest, the greatest number. */
    private Shelf lastFewestBowls(Kind kind) {
        Shelf best = null;
        for (Shelf shelf : shelves) {
            if (shelf.isOf(kind) && shelf.state() == IN_USE
                    && (best == null || shelf.bowls <= best.bowls)) {
                best = shelf;
            }
        }
        return best;
    }

    // ---- packing

    /** Moves one bowl; false if the kind has not two shelves in use. */
    private boolean moveToPack(Kind kind) {
        Shelf from = lastFewestBowls(kind);
        Shelf to = mostBowls(kind, from);
        if (from == null || to == null) {
            return false;
        }
        from.removeBowl(from.lastBowl(), time);
        to.addBowl(to.firstGap());
        return true;
    }

    private int gainsOf(Kind kind) {
        // Packing ends with all but one of the shelves in use full or empty, so the
        // bowls alone tell how many of them are left with some.
        int bowls = 0;
        int inUse = 0;
        for (Shelf shelf : shelves) {
            if (shelf.isOf(kind) && shelf.state() == IN_USE) {
                bowls += shelf.bowls;
                inUse++;
            }
        }
        return inUse - kind.shelvesFor(bowls);
    }

    // ---- counting

    private int freeShelves() {
        int found = 0;
        for (Shelf shelf : shelves) {
            if (shelf.state() == FREE) {
                found++;
            }
        }
        return found;
    }

    private int takenShelves() {
        return SHELVES - freeShelves();
    }

    private int shelvesOf(Kind kind) {
        int found = 0;
        for (Shelf shelf : shelves) {
            if (shelf.isOf(kind)) {
                found++;
            }
        }
        return found;
    }

    private int shelvesInState(Kind kind, int state) {
        int found = 0;
        for (Shelf shelf : shelves) {
            if (shelf.isOf(kind) && shelf.state() == state) {
                found++;
            }
        }
        return found;
    }

    private int bowlsOf(Kind kind) {
        int found = 0;
        for (Shelf shelf : shelves) {
            if (shelf.isOf(kind)) {
                found += shelf.bowls;
            }
        }
        return found;
    }

    private int gapsOf(Kind kind) {
        return shelvesOf(kind) * kind.places - bowlsOf(kind);
    }

    private int bowlsInAll() {
        int found = 0;
        for (Shelf shelf : shelves) {
            found += shelf.bowls;
        }
        return found;
    }

    private int spansUnderBowls() {
        int found = 0;
        for (Shelf shelf : shelves) {
            found += shelf.bowls * shelf.size;
        }
        return found;
    }

    private int spansOfNoPlace() {
        int found = 0;
        for (Shelf shelf : shelves) {
            if (shelf.state() != FREE) {
                found += SPANS - shelf.places * shelf.size;
            }
        }
        return found;
    }

    // ---- the checksum

    private static long mixed(long d, long x) {
        return d * DIGEST_FACTOR + x;
    }

    private static long mixedWithShelf(long start, Shelf shelf) {
        long d = start;
        for (int what = 0; what < SHELF_ANSWERS; what++) {
            d = mixed(d, shelf.answer(what));
        }
        for (int place = 0; place < shelf.places; place++) {
            d = mixed(d, shelf.standsOn(place) ? 1 : 0);
        }
        return d;
    }

    private long mixedWithKind(long start, Kind kind) {
        long d = start;
        for (int what = 0; what < ABOUT_ANSWERS; what++) {
            d = mixed(d, answerAbout(kind, what));
        }
        return mixed(d, nextSpot(kind));
    }

    private static final class Kind {
        final int number;
        final int size;
        final int places;
        final int rest;
        int shelvesEver = 0;
        int nextRim = 0;

        Kind(int number, int size) {
            this.number = number;
            this.size = size;
            this.places = size < 1 ? 0 : SPANS / size;
            this.rest = SPANS - places * size;
        }

        void countShelf() {
            shelvesEver++;
            nextRim = nextRim < rest ? nextRim + 1 : 0;
        }

        int shelvesFor(int bowls) {
            return places < 1 ? 0 : (bowls + places - 1) / places;
        }
    }

    /** A shelf; while it is free, its kind is NONE and it has no places. */
    private static final class Shelf {
        final int firstSpot;
        final boolean[] stands = new boolean[MOST_PLACES];
        int owner = NONE;
        int size = 0;
        int places = 0;
        int rim = 0;
        int bowls = 0;
        int emptySince = NONE;

        Shelf(int firstSpot) {
            this.firstSpot = firstSpot;
        }

        int answer(int what) {
            switch (what) {
                case 0: return owner;
                case 1: return bowls;
                case 2: return rim;
                case 3: return places;
                case 4: return firstGap();
                default: return emptySince;
            }
        }

        int state() {
            if (owner == NONE) {
                return FREE;
            }
            if (bowls == 0) {
                return EMPTY;
            }
            return bowls < places ? IN_USE : FULL;
        }

        boolean isOf(Kind kind) {
            return owner == kind.number;
        }

        void comeTo(Kind kind) {
            owner = kind.number;
            size = kind.size;
            places = kind.places;
            rim = kind.nextRim;
            kind.countShelf();
        }

        void becomeFree() {
            owner = NONE;
            size = 0;
            places = 0;
            rim = 0;
            emptySince = NONE;
        }

        boolean standsOn(int place) {
            return place >= 0 && place < stands.length && stands[place];
        }

        void addBowl(int place) {
            if (place >= 0 && place < stands.length) {
                stands[place] = true;
                bowls++;
                emptySince = NONE;
            }
        }

        void removeBowl(int place, int now) {
            if (place >= 0 && place < stands.length) {
                stands[place] = false;
                bowls--;
                emptySince = bowls == 0 ? now : NONE;
            }
        }

        int firstGap() {
            for (int place = 0; place < places; place++) {
                if (!standsOn(place)) {
                    return place;
                }
            }
            return NONE;
        }

        int lastBowl() {
            for (int place = places - 1; place >= 0; place--) {
                if (standsOn(place)) {
                    return place;
                }
            }
            return NONE;
        }

        /** The spot at which a place begins. */
        int beginOf(int place) {
            return firstSpot + rim + place * size;
        }

        /** The place to which a spot's span belongs. */
        int placeAt(int spot) {
            int span = spot - firstSpot - rim;
            if (size < 1 || span < 0 || span >= places * size) {
                return NONE;
            }
            return span / size;
        }
    }
}
