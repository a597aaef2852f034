/** The boundaries in promises 1 to 7: a test for each sentence. */
public final class KindsAndBowlsEdgesTest {
    public static void main(String[] args) {
        newAndKinds();
        ways();
        puts();
        takes();
        reaps();
        packs();
        Check.end();
    }

    private static void newAndKinds() {
        Check.sentence("1: Creates a kitchen without kinds", KindsAndBowlsEdgesTest::newKinds);
        Check.sentence("1: at the time 0", KindsAndBowlsEdgesTest::newTime);
        Check.sentence("2: Returns its number", KindsAndBowlsEdgesTest::kindNumbers);
        Check.sentence("2: if size is not 2 to 12: too small",
                KindsAndBowlsEdgesTest::kindTooSmall);
        Check.sentence("2: if size is not 2 to 12: too large",
                KindsAndBowlsEdgesTest::kindTooLarge);
        Check.sentence("2: Throws IllegalStateException if there are 5",
                KindsAndBowlsEdgesTest::kindsAreFive);
    }

    private static void ways() {
        Check.sentence("3: Returns the one before", KindsAndBowlsEdgesTest::wayBefore);
        Check.sentence("3: the way from now on", KindsAndBowlsEdgesTest::wayFromNowOn);
        Check.sentence("3: if way is not 0 to 2", KindsAndBowlsEdgesTest::wayRefused);
    }

    private static void puts() {
        Check.sentence("4: Returns the spot at which its place begins: the first and the last",
                KindsAndBowlsEdgesTest::putFirstAndLast);
        Check.sentence("4: if there is no such kind",
                () -> Check.kindsThereAlone("put()", (x, kind) -> x.put(kind)));
        Check.sentence("4: if there is neither a place nor a free shelf for it",
                KindsAndBowlsEdgesTest::putNeither);
        Check.sentence("4: neither a place ..: there is one, but no free shelf",
                KindsAndBowlsEdgesTest::putPlaceAlone);
        Check.sentence("4: .. nor a free shelf: there is one, but no place",
                KindsAndBowlsEdgesTest::putFreeAlone);
        Check.sentence("4: .. for it: the places of another kind",
                KindsAndBowlsEdgesTest::putOthersPlaces);
    }

    private static void takes() {
        Check.sentence("5: Returns how many bowls are left on its shelf",
                KindsAndBowlsEdgesTest::takeDownToNone);
        Check.sentence("5: if spot is not 0 to 287", KindsAndBowlsEdgesTest::takeNoSpot);
        Check.sentence("5: if no place begins there", KindsAndBowlsEdgesTest::takeNoPlace);
        Check.sentence("5: if no place begins there: a free shelf",
                KindsAndBowlsEdgesTest::takeFreeShelf);
        Check.sentence("5: on which a bowl stands", KindsAndBowlsEdgesTest::takeNoBowl);
    }

    private static void reaps() {
        Check.sentence("6: those that are empty", KindsAndBowlsEdgesTest::reapEmptyAlone);
        Check.sentence("6: are free again", KindsAndBowlsEdgesTest::reapFreeAgain);
        Check.sentence("6: how long they have been empty at the least",
                KindsAndBowlsEdgesTest::reapAtTheLeast);
        Check.sentence("6: how long ..: the age 0", KindsAndBowlsEdgesTest::reapAtOnce);
        Check.sentence("6: how long ..: the age 99", KindsAndBowlsEdgesTest::reapOldest);
        Check.sentence("6: the time now less that since which they are: again empty",
                KindsAndBowlsEdgesTest::reapAgainEmpty);
        Check.sentence("6: Returns how many are reaped: none",
                KindsAndBowlsEdgesTest::reapNone);
        Check.sentence("6: Returns how many are reaped: all", KindsAndBowlsEdgesTest::reapAll);
        Check.sentence("6: if age is not 0 to 99", KindsAndBowlsEdgesTest::reapRefused);
    }

    private static void packs() {
        Check.sentence("7: Returns how many bowls are moved: none",
                KindsAndBowlsEdgesTest::packNone);
        Check.sentence("7: Returns how many bowls are moved: the most",
                KindsAndBowlsEdgesTest::packMost);
        Check.sentence("7: if there is no such kind",
                () -> Check.kindsThereAlone("pack()", (x, kind) -> x.pack(kind)));
    }

    // Promises 1 and 2

    private static void newKinds() {
        SlabKitchen x = new SlabKitchen();
        Check.due("count(1)", x.count(1), 0);
        Check.due("advise()", x.advise(), -1);
        Check.refused(x, "about(0, 0)", Check.BOUNDS, () -> x.about(0, 0));
        Check.refused(x, "put(0)", Check.BOUNDS, () -> x.put(0));
        Check.kitchen(2, 3).put(1);
        Check.due("count(1) beside another kitchen", x.count(1), 0);
        Check.due("count(1) of a later kitchen", new SlabKitchen().count(1), 0);
    }

    private static void newTime() {
        SlabKitchen x = new SlabKitchen();
        Check.due("count(0)", x.count(0), 0);
        Check.kitchen(2, 3).put(1);
        Check.due("count(0) beside another kitchen", x.count(0), 0);
        Check.due("count(0) of a later kitchen", new SlabKitchen().count(0), 0);
    }

    private static void kindNumbers() {
        SlabKitchen x = new SlabKitchen();
        int[] sizes = {12, 2, 7, 7, 3};
        for (int i = 0; i < 5; i++) {
            Check.refused(x, "kind(13)", Check.ARGUMENT, () -> x.kind(13));
            Check.due("kind(" + sizes[i] + ")", x.kind(sizes[i]), i);
            Check.due("count(1)", x.count(1), i + 1);
        }
        for (int i = 0; i < 5; i++) {
            Check.due("about(" + i + ", 0)", x.about(i, 0), sizes[i]);
        }
    }

    private static void kindTooSmall() {
        SlabKitchen x = new SlabKitchen();
        for (int size : new int[] {1, 0, -1, -2, -12, Integer.MIN_VALUE}) {
            Check.refused(x, "kind(" + size + ")", Check.ARGUMENT, () -> x.kind(size));
        }
        Check.due("kind(2)", x.kind(2), 0);
        Check.due("fits(0)", x.fits(0), 144);
    }

    private static void kindTooLarge() {
        SlabKitchen x = new SlabKitchen();
        for (int size : new int[] {13, 14, 24, 25, 258, Integer.MAX_VALUE}) {
            Check.refused(x, "kind(" + size + ")", Check.ARGUMENT, () -> x.kind(size));
        }
        Check.due("kind(12)", x.kind(12), 0);
        Check.due("fits(0)", x.fits(0), 24);
    }

    private static void kindsAreFive() {
        SlabKitchen x = Check.kitchen(2, 3, 4, 5);
        Check.due("the fifth kind(6)", x.kind(6), 4);
        for (int size = 2; size <= 12; size++) {
            int sixth = size;
            Check.refused(x, "a sixth kind(" + size + ")", Check.STATE, () -> x.kind(sixth));
        }
        Check.due("count(1)", x.count(1), 5);
        x.put(4);
        x.take(0);
        x.reap(0);
        Check.refused(x, "a sixth kind(6) behind reap(0)", Check.STATE, () -> x.kind(6));
    }

    // Promise 3

    private static void wayBefore() {
        SlabKitchen x = new SlabKitchen();
        int[] ways = {0, 1, 1, 2, 2, 0, 2, 1, 0};
        int before = 0;
        for (int way : ways) {
            Check.due("setWay(" + way + ") behind " + before, x.setWay(way), before);
            Check.due("count(9)", x.count(9), way);
            before = way;
        }
    }

    private static void wayFromNowOn() {
        SlabKitchen x = Check.kitchen(6, 6);
        Check.openRows(x, new int[] {0, 0, 0, 1, 1, 1}, 2, 3, 1, 2, 3, 1);
        int[] spotsByWay = {12, 42, 54};
        for (int way : new int[] {1, 0, 2, 1, 2, 0}) {
            x.setWay(way);
            Check.due("next(0) by way " + way, x.next(0), spotsByWay[way]);
            Check.due("next(1) by way " + way, x.next(1), 72 + spotsByWay[way]);
        }
        x.setWay(2);
        Check.refused(x, "setWay(3)", Check.BOUNDS, () -> x.setWay(3));
        Check.due("put(0) by way 2", x.put(0), 54);
        x.setWay(1);
        Check.due("put(0) by way 1", x.put(0), 42);
        x.setWay(0);
        Check.due("put(0) by way 0", x.put(0), 12);
    }

    private static void wayRefused() {
        for (int there = 0; there <= 2; there++) {
            SlabKitchen x = new SlabKitchen();
            x.setWay(there);
            for (int way : Check.beside(0, 2)) {
                Check.refused(x, "setWay(" + way + ")", Check.BOUNDS, () -> x.setWay(way));
            }
            Check.due("setWay(0) behind refused ones", x.setWay(0), there);
            Check.due("setWay(2)", x.setWay(2), 0);
        }
    }

    // Promise 4

    private static void putFirstAndLast() {
        SlabKitchen x = Check.kitchen(2);
        int[] spots = Check.putRow(x, 0, 144);
        for (int i = 0; i < 144; i++) {
            Check.due("put(0) of size 2, bowl " + i, spots[i], 2 * i);
        }
        SlabKitchen y = Check.kitchen(7);
        spots = Check.putRow(y, 0, 36);
        Check.due("first put(0) of size 7", spots[0], 0);
        Check.due("last put(0) of size 7", spots[35], 264 + 3 + 14);
        SlabKitchen z = Check.kitchen(12);
        spots = Check.putRow(z, 0, 24);
        Check.due("first put(0) of size 12", spots[0], 0);
        Check.due("last put(0) of size 12", spots[23], 276);
    }

    private static void putNeither() {
        for (int size = 2; size <= 12; size++) {
            SlabKitchen x = Check.kitchen(size, 2);
            Check.putRow(x, 0, 12 * (24 / size));
            Check.refused(x, "put(0) of size " + size, Check.STATE, () -> x.put(0));
            Check.refused(x, "put(1) beside size " + size, Check.STATE, () -> x.put(1));
            Check.due("count(0) behind refused put()", x.count(0), 12 * (24 / size));
            Check.due("count(7) behind refused put()", x.count(7), 12 * (24 / size));
        }
    }

    private static void putPlaceAlone() {
        SlabKitchen x = Check.kitchen(6);
        Check.putRow(x, 0, 47);
        Check.due("put(0) on the last place", x.put(0), 282);
        Check.refused(x, "put(0)", Check.STATE, () -> x.put(0));
        x.take(126);
        Check.due("put(0) on a place left", x.put(0), 126);
        Check.takeAll(x, 96, 102, 108, 114);
        Check.due("put(0) on an empty shelf", x.put(0), 96);
        Check.due("count(2)", x.count(2), 0);
    }

    private static void putFreeAlone() {
        SlabKitchen x = Check.kitchen(12, 9);
        Check.putRow(x, 0, 22);
        Check.due("put(0) on the last free shelf", x.put(0), 264);
        x.put(0);
        Check.refused(x, "put(1)", Check.STATE, () -> x.put(1));
        Check.takeAll(x, 120, 132);
        Check.refused(x, "put(1) beside an empty shelf", Check.STATE, () -> x.put(1));
        x.reap(0);
        Check.due("put(1) on the shelf that is free again", x.put(1), 120);
        Check.due("put(1) on its second place", x.put(1), 129);
        Check.refused(x, "put(1) beyond", Check.STATE, () -> x.put(1));
    }

    private static void putOthersPlaces() {
        SlabKitchen x = Check.kitchen(6, 6);
        Check.putRow(x, 0, 45);
        Check.refused(x, "put(1) beside a shelf in use", Check.STATE, () -> x.put(1));
        Check.takeAll(x, 0, 6, 12, 18);
        Check.refused(x, "put(1) beside an empty shelf", Check.STATE, () -> x.put(1));
        Check.due("put(0)", x.put(0), 270);
    }

    // Promise 5

    private static void takeDownToNone() {
        for (int size = 2; size <= 12; size++) {
            SlabKitchen x = Check.kitchen(size);
            int places = 24 / size;
            int[] spots = Check.putRow(x, 0, 2 * places);
            for (int left = places - 1; left >= 0; left--) {
                Check.due("take() of size " + size, x.take(spots[places + left]), left);
                Check.due("bowls of the shelf", x.shelf(1, 1), left);
            }
            Check.due("take() of the other shelf", x.take(spots[0]), places - 1);
        }
    }

    private static void takeNoSpot() {
        SlabKitchen x = Check.kitchen(2);
        Check.putRow(x, 0, 144);
        for (int spot : Check.beside(0, 287)) {
            Check.refused(x, "take(" + spot + ")", Check.BOUNDS, () -> x.take(spot));
        }
        Check.refused(x, "take(287)", Check.ARGUMENT, () -> x.take(287));
        Check.due("take(286)", x.take(286), 11);
        Check.due("take(0)", x.take(0), 11);
    }

    /** Shelf 1 of size 7 has the rim 1: its places begin at 25, 32 and 39, 46 and 47 are left. */
    private static void takeNoPlace() {
        SlabKitchen x = Check.kitchen(7);
        Check.putRow(x, 0, 6);
        for (int spot = 0; spot < 48; spot++) {
            int asked = spot;
            int inside = spot < 24 ? spot : spot - 25;
            if (inside < 0 || inside % 7 != 0 || inside / 7 > 2) {
                Check.refused(x, "take(" + spot + ")", Check.ARGUMENT, () -> x.take(asked));
            }
        }
        Check.takeAll(x, 39, 25, 32);
        Check.refused(x, "take(24) of an empty shelf", Check.ARGUMENT, () -> x.take(24));
    }

    private static void takeFreeShelf() {
        SlabKitchen x = Check.kitchen(12);
        for (int shelf = 0; shelf < 12; shelf++) {
            int first = 24 * shelf;
            Check.refused(x, "take(" + first + ")", Check.ARGUMENT, () -> x.take(first));
        }
        Check.refused(x, "take(287)", Check.ARGUMENT, () -> x.take(287));
        Check.putRow(x, 0, 3);
        x.take(24);
        x.reap(0);
        Check.refused(x, "take(24) behind reap(0)", Check.ARGUMENT, () -> x.take(24));
        Check.refused(x, "take(36) behind reap(0)", Check.ARGUMENT, () -> x.take(36));
    }

    private static void takeNoBowl() {
        SlabKitchen x = Check.kitchen(6);
        Check.open(x, 0, 2, 3);
        Check.refused(x, "take(12) of a place without", Check.ARGUMENT, () -> x.take(12));
        Check.refused(x, "take(18) of a place without", Check.ARGUMENT, () -> x.take(18));
        Check.due("take(0)", x.take(0), 1);
        Check.refused(x, "take(0) twice", Check.ARGUMENT, () -> x.take(0));
        Check.due("pack(0)", x.pack(0), 1);
        Check.refused(x, "take(6) of a bowl moved away", Check.ARGUMENT, () -> x.take(6));
        Check.due("take(42) of a bowl moved there", x.take(42), 3);
    }

    // Promise 6

    private static void reapEmptyAlone() {
        SlabKitchen x = Check.kitchen(6, 2);
        Check.openRows(x, new int[] {0, 0, 0, 1, 1, 1}, 1, 4, 0, 0, 11, 12);
        Check.due("reap(0)", x.reap(0), 2);
        Check.dueRow("bowls", Check.bowlsRow(x, 6), 1, 4, 0, 0, 11, 12);
        Check.dueRow("kinds of shelves", new int[] {x.shelf(0, 0), x.shelf(1, 0), x.shelf(2, 0),
            x.shelf(3, 0), x.shelf(4, 0), x.shelf(5, 0)}, 0, 0, -1, -1, 1, 1);
        Check.due("count(2)", x.count(2), 8);
    }

    private static void reapFreeAgain() {
        SlabKitchen x = Check.kitchen(7, 9);
        Check.open(x, 0, 3, 0, 1);
        x.reap(0);
        Check.dueRow("shelf 1", Check.shelfRow(x, 1), -1, 0, 0, 0, -1, -1);
        Check.due("count(2)", x.count(2), 10);
        Check.due("place(25, 0)", x.place(25, 0), -1);
        Check.due("put(1) on it", x.put(1), 24);
        Check.dueRow("shelf 1", Check.shelfRow(x, 1), 1, 1, 0, 2, 1, -1);
        Check.dueText("shelf 1", Check.standing(x, 1), "10");
    }

    private static void reapAtTheLeast() {
        for (int age = 1; age <= 20; age++) {
            SlabKitchen x = Check.kitchen(12, 2);
            x.put(0);
            x.take(0);
            Check.putRow(x, 1, age - 1);
            Check.due("reap(" + age + ") one too early", x.reap(age), 0);
            x.put(1);
            Check.due("reap(" + (age + 1) + ")", x.reap(age + 1), 0);
            Check.due("reap(" + age + ")", x.reap(age), 1);
        }
        SlabKitchen y = Check.kitchen(12, 2);
        y.put(0);
        y.take(0);
        Check.putRow(y, 1, 20);
        Check.due("reap(3) at the age 20", y.reap(3), 1);
    }

    private static void reapAtOnce() {
        SlabKitchen x = Check.kitchen(6);
        x.put(0);
        x.take(0);
        Check.due("reap(1) at once", x.reap(1), 0);
        Check.due("reap(0) at once", x.reap(0), 1);
        Check.open(x, 0, 3, 1);
        x.pack(0);
        Check.due("reap(1) behind packing", x.reap(1), 0);
        Check.due("reap(0) behind packing", x.reap(0), 1);
    }

    private static void reapOldest() {
        SlabKitchen x = Check.kitchen(12, 2);
        x.put(0);
        x.take(0);
        Check.putRow(x, 1, 98);
        Check.due("reap(99) at the age 98", x.reap(99), 0);
        x.put(1);
        Check.due("reap(99) at the age 99", x.reap(99), 1);
        SlabKitchen y = Check.kitchen(12, 2);
        y.put(0);
        y.take(0);
        Check.putRow(y, 1, 130);
        Check.due("reap(99) at the age 130", y.reap(99), 1);
    }

    private static void reapAgainEmpty() {
        SlabKitchen x = Check.kitchen(12, 2);
        x.put(0);
        x.take(0);
        Check.putRow(x, 1, 5);
        x.put(0);
        x.take(0);
        Check.putRow(x, 1, 2);
        Check.due("shelf(0, 5)", x.shelf(0, 5), 9);
        Check.due("reap(3) at the time 11", x.reap(3), 0);
        Check.due("reap(2) at the time 11", x.reap(2), 1);
        Check.due("put(0) on the shelf", x.put(0), 0);
        Check.due("reap(0) of it in use", x.reap(0), 0);
        x.take(0);
        Check.due("reap(1) at the time 13", x.reap(1), 0);
        Check.due("reap(0) at the time 13", x.reap(0), 1);
    }

    private static void reapNone() {
        SlabKitchen x = new SlabKitchen();
        Check.due("reap(0) of a new kitchen", x.reap(0), 0);
        x.kind(12);
        Check.due("reap(0) without shelves", x.reap(0), 0);
        Check.putRow(x, 0, 24);
        Check.due("reap(0) of a full kitchen", x.reap(0), 0);
        x.take(0);
        x.take(12);
        Check.due("reap(0) of one shelf", x.reap(0), 1);
        Check.due("reap(0) of the same", x.reap(0), 0);
    }

    private static void reapAll() {
        SlabKitchen x = Check.kitchen(12, 11);
        Check.openRows(x, new int[] {0, 1, 0, 1, 0, 1, 0, 1, 0, 1, 0, 1},
                0, 0, 0, 0, 0, 0, 0, 0, 0, 0, 0, 0);
        Check.due("count(2)", x.count(2), 0);
        Check.due("reap(0)", x.reap(0), 12);
        Check.due("count(2)", x.count(2), 12);
        Check.dueRow("about(1)", Check.aboutRow(x, 1), 11, 2, 2, 0, 0, 0, 0, 0, 6);
    }

    private static void reapRefused() {
        SlabKitchen x = Check.kitchen(12);
        x.put(0);
        x.take(0);
        for (int age : Check.beside(0, 99)) {
            Check.refused(x, "reap(" + age + ")", Check.ARGUMENT, () -> x.reap(age));
        }
        Check.due("reap(99)", x.reap(99), 0);
        Check.due("reap(0)", x.reap(0), 1);
        SlabKitchen y = new SlabKitchen();
        Check.refused(y, "reap(-1) of a new kitchen", Check.ARGUMENT, () -> y.reap(-1));
        Check.refused(y, "reap(100) of a new kitchen", Check.ARGUMENT, () -> y.reap(100));
    }

    // Promise 7

    private static void packNone() {
        SlabKitchen x = Check.kitchen(6, 6);
        long before = x.digest();
        Check.due("pack(0) without shelves", x.pack(0), 0);
        Check.due("digest()", x.digest(), before);
        Check.openRows(x, new int[] {0, 0, 0, 1, 1}, 4, 0, 2, 1, 2);
        before = x.digest();
        Check.due("pack(0) of 4, 0 and 2", x.pack(0), 0);
        Check.due("digest()", x.digest(), before);
        Check.due("pack(1) of 1 and 2", x.pack(1), 1);
        Check.due("pack(1) again", x.pack(1), 0);
        Check.due("count(8)", x.count(8), 1);
    }

    /** All twelve shelves half full: each second one gives six bowls. */
    private static void packMost() {
        SlabKitchen x = Check.kitchen(2);
        Check.open(x, 0, 6, 6, 6, 6, 6, 6, 6, 6, 6, 6, 6, 6);
        Check.due("pack(0)", x.pack(0), 36);
        Check.dueRow("bowls", Check.bowlsRow(x, 12), 12, 12, 12, 12, 12, 12, 0, 0, 0, 0, 0, 0);
        Check.due("count(8)", x.count(8), 36);
        Check.due("count(3)", x.count(3), 72);
    }
}
