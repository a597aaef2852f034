/** Promises 8 to 11. */
public final class WhatThereIsTest {
    public static void main(String[] args) {
        shelfTells();
        aboutSizes();
        aboutShelves();
        placeTells();
        countTells();
        Check.end();
    }

    // Promise 8

    private static void shelfTells() {
        SlabKitchen x = new SlabKitchen();
        x.kind(9);
        x.kind(7);
        x.put(0);
        Check.putRow(x, 1, 7);
        Check.dueRow("shelf 0", Check.shelfRow(x, 0), 0, 1, 0, 2, 1, -1);
        Check.dueRow("shelf 1", Check.shelfRow(x, 1), 1, 3, 0, 3, -1, -1);
        Check.dueRow("shelf 2", Check.shelfRow(x, 2), 1, 3, 1, 3, -1, -1);
        Check.dueRow("shelf 3", Check.shelfRow(x, 3), 1, 1, 2, 3, 1, -1);
        Check.dueRow("shelf 4", Check.shelfRow(x, 4), -1, 0, 0, 0, -1, -1);
        Check.takeAll(x, 74, 56, 49, 0);
        Check.dueRow("shelf 0", Check.shelfRow(x, 0), 0, 0, 0, 2, 0, 12);
        Check.dueRow("shelf 2", Check.shelfRow(x, 2), 1, 1, 1, 3, 0, -1);
        Check.dueRow("shelf 3", Check.shelfRow(x, 3), 1, 0, 2, 3, 0, 9);
        x.reap(0);
        Check.dueRow("shelf 0", Check.shelfRow(x, 0), -1, 0, 0, 0, -1, -1);
        Check.dueRow("shelf 3", Check.shelfRow(x, 3), -1, 0, 0, 0, -1, -1);
        Check.dueRow("shelf 11", Check.shelfRow(x, 11), -1, 0, 0, 0, -1, -1);
    }

    // Promise 9

    private static void aboutSizes() {
        int[] places = {12, 8, 6, 4, 4, 3, 3, 2, 2, 2, 2};
        int[] rests = {0, 0, 0, 4, 0, 3, 0, 6, 4, 2, 0};
        for (int size = 2; size <= 12; size++) {
            SlabKitchen x = new SlabKitchen();
            x.kind(size);
            Check.dueRow("about a new kind of size " + size, Check.aboutRow(x, 0),
                    size, places[size - 2], rests[size - 2], 0, 0, 0, 0, 0, 0);
            Check.putRow(x, 0, places[size - 2] + 1);
            Check.dueRow("about a kind of size " + size, Check.aboutRow(x, 0),
                    size, places[size - 2], rests[size - 2], 2, 1, 1, 0, places[size - 2] + 1, 2);
        }
    }

    private static void aboutShelves() {
        SlabKitchen x = new SlabKitchen();
        x.kind(6);
        x.kind(10);
        Check.putRow(x, 0, 10);
        Check.putRow(x, 1, 3);
        Check.takeAll(x, 0, 48, 54);
        Check.dueRow("about(0)", Check.aboutRow(x, 0), 6, 4, 0, 3, 1, 1, 1, 7, 3);
        Check.dueRow("about(1)", Check.aboutRow(x, 1), 10, 2, 4, 2, 1, 1, 0, 3, 2);
        x.reap(0);
        Check.dueRow("about(0)", Check.aboutRow(x, 0), 6, 4, 0, 2, 1, 1, 0, 7, 3);
        Check.putRow(x, 0, 2);
        Check.dueRow("about(0)", Check.aboutRow(x, 0), 6, 4, 0, 3, 2, 1, 0, 9, 4);
    }

    // Promise 10

    private static void placeTells() {
        SlabKitchen x = new SlabKitchen();
        x.kind(12);
        x.kind(7);
        Check.putRow(x, 1, 4);
        x.put(0);
        for (int spot = 0; spot < 24; spot++) {
            int place = spot / 7;
            if (place < 3) {
                Check.dueRow("place " + spot, Check.placeRow(x, spot), 1, place, 1, place * 7);
            } else {
                Check.dueRow("place " + spot, Check.placeRow(x, spot), -1, -1, -1, -1);
            }
        }
        Check.dueRow("place 24", Check.placeRow(x, 24), -1, -1, -1, -1);
        Check.dueRow("place 25", Check.placeRow(x, 25), 1, 0, 1, 25);
        Check.dueRow("place 31", Check.placeRow(x, 31), 1, 0, 1, 25);
        Check.dueRow("place 32", Check.placeRow(x, 32), 1, 1, 0, 32);
        Check.dueRow("place 45", Check.placeRow(x, 45), 1, 2, 0, 39);
        Check.dueRow("place 46", Check.placeRow(x, 46), -1, -1, -1, -1);
        Check.dueRow("place 47", Check.placeRow(x, 47), -1, -1, -1, -1);
        Check.dueRow("place 48", Check.placeRow(x, 48), 0, 0, 1, 48);
        Check.dueRow("place 71", Check.placeRow(x, 71), 0, 1, 0, 60);
        Check.dueRow("place 72", Check.placeRow(x, 72), -1, -1, -1, -1);
        Check.dueRow("place 287", Check.placeRow(x, 287), -1, -1, -1, -1);
        x.take(48);
        Check.dueRow("place 50, empty", Check.placeRow(x, 50), 0, 0, 0, 48);
        x.reap(0);
        Check.dueRow("place 50, free", Check.placeRow(x, 50), -1, -1, -1, -1);
    }

    // Promise 11

    private static void countTells() {
        SlabKitchen x = new SlabKitchen();
        x.kind(7);
        x.kind(10);
        x.kind(2);
        x.setWay(2);
        Check.putRow(x, 0, 5);
        Check.putRow(x, 1, 3);
        x.put(2);
        Check.dueRow("count", Check.countRow(x), 9, 3, 7, 9, 67, 53, 14, 9, 0, 2);
        Check.takeAll(x, 0, 7);
        Check.due("pack(0)", x.pack(0), 1);
        Check.dueRow("count", Check.countRow(x), 11, 3, 7, 7, 53, 67, 14, 9, 1, 2);
        x.take(96);
        x.take(73);
        Check.due("reap(0)", x.reap(0), 3);
        Check.dueRow("count", Check.countRow(x), 13, 3, 10, 5, 41, 7, 7, 9, 1, 2);
    }
}
