/** Promises 1 to 7. */
public final class KindsAndBowlsTest {
    public static void main(String[] args) {
        newObject();
        kindNumbers();
        putOpensShelves();
        putRims();
        putFillsSmallestGap();
        putByWays();
        putToEmptyBeforeFree();
        putInUseBeforeEmpty();
        takeTells();
        reapByAge();
        reapForgets();
        packMoves();
        packTies();
        packLeavesAlone();
        packFillsAndGoesOn();
        packEmptySince();
        Check.end();
    }

    // Promise 1

    private static void newObject() {
        SlabKitchen x = new SlabKitchen();
        Check.dueRow("new: count", Check.countRow(x), 0, 0, 12, 0, 0, 0, 0, 0, 0, 0);
        for (int shelf = 0; shelf < 12; shelf++) {
            Check.dueRow("new: shelf " + shelf, Check.shelfRow(x, shelf), -1, 0, 0, 0, -1, -1);
        }
        Check.refused(x, "new: about(0, 0)", Check.BOUNDS, () -> x.about(0, 0));
        Check.due("new: advise()", x.advise(), -1);
        SlabKitchen y = new SlabKitchen();
        y.kind(2);
        y.put(0);
        Check.dueRow("new beside another: count", Check.countRow(x), 0, 0, 12, 0, 0, 0, 0, 0, 0, 0);
    }

    // Promise 2

    private static void kindNumbers() {
        SlabKitchen x = new SlabKitchen();
        int[] sizes = {2, 12, 7, 7, 5};
        for (int i = 0; i < sizes.length; i++) {
            Check.due("kind(" + sizes[i] + ")", x.kind(sizes[i]), i);
            Check.due("count(1)", x.count(1), i + 1);
        }
        for (int i = 0; i < sizes.length; i++) {
            Check.due("about(" + i + ", 0)", x.about(i, 0), sizes[i]);
        }
        Check.due("count(2)", x.count(2), 12);
        Check.due("count(0)", x.count(0), 0);
    }

    // Promise 4

    private static void putOpensShelves() {
        SlabKitchen x = new SlabKitchen();
        x.kind(6);
        x.kind(12);
        Check.dueRow("put(0)", Check.putRow(x, 0, 5), 0, 6, 12, 18, 24);
        Check.dueRow("put(1)", Check.putRow(x, 1, 3), 48, 60, 72);
        Check.dueRow("put(0)", Check.putRow(x, 0, 4), 30, 36, 42, 96);
        Check.due("time", x.count(0), 12);
        Check.due("put in all", x.count(7), 12);
    }

    private static void putRims() {
        SlabKitchen x = new SlabKitchen();
        x.kind(7);
        Check.dueRow("put(0) of size 7", Check.putRow(x, 0, 15),
                0, 7, 14, 25, 32, 39, 50, 57, 64, 75, 82, 89, 96, 103, 110);
        SlabKitchen y = new SlabKitchen();
        y.kind(12);
        y.kind(11);
        Check.dueRow("put(1) of size 11", Check.putRow(y, 1, 8), 0, 11, 25, 36, 50, 61, 72, 83);
        Check.due("put(0) of size 12", y.put(0), 96);
    }

    private static void putFillsSmallestGap() {
        SlabKitchen x = new SlabKitchen();
        x.kind(4);
        Check.putRow(x, 0, 6);
        Check.takeAll(x, 16, 4, 12);
        Check.dueRow("put(0) into gaps", Check.putRow(x, 0, 4), 4, 12, 16, 24);
    }

    /** Shelves 0 to 4 of size 6 with 2, 3, 1, 3 and 1 bowls. */
    private static SlabKitchen partlyFilled() {
        SlabKitchen x = new SlabKitchen();
        x.kind(6);
        Check.putRow(x, 0, 20);
        Check.takeAll(x, 0, 6, 24, 48, 54, 60, 72, 96, 102, 108);
        return x;
    }

    private static void putByWays() {
        Check.due("put(0) by way 0", partlyFilled().put(0), 0);
        SlabKitchen most = partlyFilled();
        most.setWay(1);
        Check.dueRow("put(0) by way 1", Check.putRow(most, 0, 8), 24, 72, 0, 6, 48, 54, 60, 96);
        SlabKitchen fewest = partlyFilled();
        fewest.setWay(2);
        Check.dueRow("put(0) by way 2", Check.putRow(fewest, 0, 6), 48, 96, 0, 54, 102, 6);
        SlabKitchen first = partlyFilled();
        Check.dueRow("put(0) by way 0", Check.putRow(first, 0, 4), 0, 6, 24, 48);
        first.setWay(2);
        Check.due("put(0) by a way set later", first.put(0), 96);
    }

    private static void putToEmptyBeforeFree() {
        for (int way = 0; way <= 2; way++) {
            SlabKitchen x = new SlabKitchen();
            x.setWay(way);
            x.kind(12);
            x.kind(11);
            x.put(1);
            Check.putRow(x, 0, 6);
            Check.takeAll(x, 48, 60, 24, 36, 0);
            Check.due("other kind's way " + way, x.put(1), 0);
            Check.dueRow("put(0) to empty shelves by way " + way, Check.putRow(x, 0, 5),
                    24, 36, 48, 60, 96);
        }
    }

    private static void putInUseBeforeEmpty() {
        SlabKitchen x = new SlabKitchen();
        x.kind(12);
        Check.putRow(x, 0, 6);
        Check.takeAll(x, 0, 12, 48);
        Check.dueRow("put(0)", Check.putRow(x, 0, 4), 48, 0, 12, 72);
    }

    // Promise 5

    private static void takeTells() {
        SlabKitchen x = new SlabKitchen();
        x.kind(7);
        Check.putRow(x, 0, 6);
        Check.due("take(32)", x.take(32), 2);
        Check.due("take(25)", x.take(25), 1);
        Check.due("take(39)", x.take(39), 0);
        Check.due("take(14)", x.take(14), 2);
        Check.dueRow("shelf 0", Check.shelfRow(x, 0), 0, 2, 0, 3, 2, -1);
        Check.dueRow("shelf 1", Check.shelfRow(x, 1), 0, 0, 1, 3, 0, 9);
        Check.due("time", x.count(0), 10);
        Check.due("put in all", x.count(7), 6);
    }

    // Promise 6

    private static void reapByAge() {
        SlabKitchen x = new SlabKitchen();
        x.kind(12);
        Check.putRow(x, 0, 8);
        Check.takeAll(x, 0, 12, 24, 36, 48);
        Check.dueRow("shelves", new int[] {x.shelf(0, 5), x.shelf(1, 5), x.shelf(2, 5)},
                10, 12, -1);
        Check.due("reap(4) at the time 13", x.reap(4), 0);
        Check.due("reap(3) at the time 13", x.reap(3), 1);
        Check.dueRow("shelf 0", Check.shelfRow(x, 0), -1, 0, 0, 0, -1, -1);
        Check.due("reap(2) at the time 13", x.reap(2), 0);
        Check.due("reap(1) at the time 13", x.reap(1), 1);
        Check.due("reap(0) at the time 13", x.reap(0), 0);
        Check.due("free shelves", x.count(2), 10);
        x.take(60);
        Check.due("reap(0) at once", x.reap(0), 1);
        Check.due("time", x.count(0), 14);
    }

    private static void reapForgets() {
        SlabKitchen x = new SlabKitchen();
        x.kind(7);
        x.kind(9);
        Check.putRow(x, 0, 3);
        x.put(1);
        Check.takeAll(x, 0, 7, 14, 24);
        Check.due("reap(0)", x.reap(0), 2);
        Check.dueRow("about(0)", Check.aboutRow(x, 0), 7, 3, 3, 0, 0, 0, 0, 0, 1);
        Check.due("put(0) with its second rim", x.put(0), 1);
        Check.due("put(1) with its second rim", x.put(1), 25);
        Check.due("since when", x.shelf(0, 5), -1);
        x.take(1);
        x.put(0);
        Check.due("reap(0) of a shelf in use", x.reap(0), 0);
        SlabKitchen y = new SlabKitchen();
        y.kind(2);
        Check.putRow(y, 0, 12);
        for (int i = 0; i < 44; i++) {
            y.put(0);
            y.take(24);
        }
        y.take(0);
        y.put(0);
        for (int i = 0; i < 4; i++) {
            y.take(2);
            y.put(0);
        }
        y.take(4);
        Check.due("time", y.count(0), 111);
        Check.due("reap(12)", y.reap(12), 0);
        Check.due("reap(11)", y.reap(11), 1);
    }

    // Promise 7

    private static void packMoves() {
        SlabKitchen x = partlyFilled();
        Check.due("gains(0)", x.gains(0), 2);
        Check.due("time", x.count(0), 30);
        Check.due("pack(0)", x.pack(0), 2);
        Check.dueRow("shelf 0", Check.shelfRow(x, 0), 0, 2, 0, 4, 0, -1);
        Check.dueRow("shelf 1", Check.shelfRow(x, 1), 0, 4, 0, 4, -1, -1);
        Check.dueRow("shelf 2", Check.shelfRow(x, 2), 0, 0, 0, 4, 0, 30);
        Check.dueRow("shelf 3", Check.shelfRow(x, 3), 0, 4, 0, 4, -1, -1);
        Check.dueRow("shelf 4", Check.shelfRow(x, 4), 0, 0, 0, 4, 0, 30);
    }

    private static void packTies() {
        SlabKitchen x = new SlabKitchen();
        x.kind(6);
        Check.putRow(x, 0, 12);
        Check.takeAll(x, 0, 6, 24, 36, 48, 66);
        Check.due("pack(0) of 2, 2 and 2", x.pack(0), 2);
        Check.dueRow("shelf 0", Check.shelfRow(x, 0), 0, 4, 0, 4, -1, -1);
        Check.dueRow("shelf 1", Check.shelfRow(x, 1), 0, 2, 0, 4, 0, -1);
        Check.dueRow("shelf 2", Check.shelfRow(x, 2), 0, 0, 0, 4, 0, 18);
        Check.due("place 1 of shelf 1", x.place(30, 2), 1);
        Check.due("place 3 of shelf 1", x.place(42, 2), 1);
        Check.due("moved in all", x.count(8), 2);
        Check.due("pack(0) again", x.pack(0), 0);
        Check.due("moved in all", x.count(8), 2);
        Check.due("put in all", x.count(7), 12);
        Check.due("time", x.count(0), 18);
    }

    /** Which bowl goes and where it stands then: the greatest place, the smallest gap. */
    private static void packFillsAndGoesOn() {
        SlabKitchen x = new SlabKitchen();
        x.kind(3);
        Check.putRow(x, 0, 24);
        Check.takeAll(x, 3, 9, 15, 24, 30, 36, 42);
        Check.due("pack(0) of 5 and 4", x.pack(0), 3);
        for (int place = 0; place < 8; place++) {
            Check.due("place " + place + " of shelf 0", x.place(place * 3, 2), 1);
            Check.due("place " + place + " of shelf 1", x.place(24 + place * 3, 2),
                    place == 1 ? 1 : 0);
        }
        Check.due("moved in all", x.count(8), 3);
    }

    private static void packLeavesAlone() {
        SlabKitchen x = new SlabKitchen();
        x.kind(12);
        x.kind(12);
        Check.putRow(x, 0, 3);
        Check.putRow(x, 1, 3);
        Check.takeAll(x, 48);
        long before = x.digest();
        Check.due("pack(0) with one in use", x.pack(0), 0);
        Check.due("digest()", x.digest(), before);
        Check.due("pack(1) with two in use", x.pack(1), 1);
        Check.due("shelf(1, 1)", x.shelf(1, 1), 1);
        Check.due("shelf(2, 1)", x.shelf(2, 1), 2);
        Check.due("shelf(3, 1)", x.shelf(3, 1), 0);
    }

    private static void packEmptySince() {
        SlabKitchen x = new SlabKitchen();
        x.kind(12);
        Check.putRow(x, 0, 4);
        Check.takeAll(x, 0, 36);
        Check.due("pack(0)", x.pack(0), 1);
        Check.due("since when shelf 1 is empty", x.shelf(1, 5), 6);
        Check.due("since when shelf 0 is empty", x.shelf(0, 5), -1);
        Check.due("reap(1)", x.reap(1), 0);
        Check.due("put(0) on the packed shelf", x.put(0), 24);
        Check.due("since when shelf 1 is empty", x.shelf(1, 5), -1);
    }
}
