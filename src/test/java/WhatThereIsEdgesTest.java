/** The boundaries in promises 8 to 11: a test for each sentence. */
public final class WhatThereIsEdgesTest {
    public static void main(String[] args) {
        shelves();
        kinds();
        places();
        counts();
        Check.end();
    }

    private static void shelves() {
        Check.sentence("8: 0 its kind, -1 if it is free", WhatThereIsEdgesTest::shelfKind);
        Check.sentence("8: 1 its bowls", WhatThereIsEdgesTest::shelfBowls);
        Check.sentence("8: 4 the smallest place on which no bowl stands",
                WhatThereIsEdgesTest::shelfGap);
        Check.sentence("8: 4 .., -1 if there is none", WhatThereIsEdgesTest::shelfNoGap);
        Check.sentence("8: 5 since when it is empty, -1 if it is not",
                WhatThereIsEdgesTest::shelfSince);
        Check.sentence("8: 0 for 1 to 3, and -1 for 4 and 5, if it is free",
                WhatThereIsEdgesTest::shelfFree);
        Check.sentence("8: if shelf is not 0 to 11", WhatThereIsEdgesTest::shelfRefused);
        Check.sentence("8: if what is not 0 to 5", WhatThereIsEdgesTest::shelfWhatRefused);
    }

    private static void kinds() {
        Check.sentence("9: 3 its shelves, 4 full ones, 5 those in use, 6 empty ones: none",
                WhatThereIsEdgesTest::aboutNone);
        Check.sentence("9: 3 its shelves, 4 full ones, 5 those in use, 6 empty ones: all",
                WhatThereIsEdgesTest::aboutAll);
        Check.sentence("9: 8 how many shelves it ever got", WhatThereIsEdgesTest::aboutEver);
        Check.sentence("9: if there is no such kind",
                () -> Check.kindsThereAlone("about()", (x, kind) -> x.about(kind, 8)));
        Check.sentence("9: or what is not 0 to 8", WhatThereIsEdgesTest::aboutWhatRefused);
    }

    private static void places() {
        Check.sentence("10: the place to which its span belongs: its first and last span",
                WhatThereIsEdgesTest::placeSpans);
        Check.sentence("10: 2 1 if a bowl stands there, else 0", WhatThereIsEdgesTest::placeBowl);
        Check.sentence("10: -1 for each, if it belongs to none: rim and rest",
                WhatThereIsEdgesTest::placeOfNone);
        Check.sentence("10: -1 for each, if it belongs to none: a free shelf",
                WhatThereIsEdgesTest::placeOfFree);
        Check.sentence("10: if spot is not 0 to 287", WhatThereIsEdgesTest::placeRefused);
        Check.sentence("10: or what is not 0 to 3", WhatThereIsEdgesTest::placeWhatRefused);
    }

    private static void counts() {
        Check.sentence("11: of a new kitchen", WhatThereIsEdgesTest::countNew);
        Check.sentence("11: of a full kitchen", WhatThereIsEdgesTest::countFull);
        Check.sentence("11: 5 spans of shelves that are not free, without a bowl",
                WhatThereIsEdgesTest::countWithout);
        Check.sentence("11: 6 those of them that belong to no place",
                WhatThereIsEdgesTest::countNoPlace);
        Check.sentence("11: 7 bowls that were put in all", WhatThereIsEdgesTest::countPut);
        Check.sentence("11: 8 bowls that were moved by packing in all",
                WhatThereIsEdgesTest::countMoved);
        Check.sentence("11: if what is not 0 to 9", WhatThereIsEdgesTest::countRefused);
    }

    // Promise 8

    private static void shelfKind() {
        SlabKitchen x = Check.kitchen(2, 3, 4, 5, 6);
        Check.due("shelf(0, 0) free", x.shelf(0, 0), -1);
        x.put(4);
        Check.due("shelf(0, 0) of the last kind", x.shelf(0, 0), 4);
        x.put(0);
        Check.due("shelf(1, 0) of the first kind", x.shelf(1, 0), 0);
        Check.due("shelf(2, 0) free", x.shelf(2, 0), -1);
        Check.due("shelf(11, 0) free", x.shelf(11, 0), -1);
        x.take(0);
        Check.due("shelf(0, 0) empty", x.shelf(0, 0), 4);
        x.reap(0);
        Check.due("shelf(0, 0) free again", x.shelf(0, 0), -1);
    }

    private static void shelfBowls() {
        SlabKitchen x = Check.kitchen(2);
        for (int bowls = 1; bowls <= 12; bowls++) {
            x.put(0);
            Check.due("shelf(0, 1)", x.shelf(0, 1), bowls);
        }
        x.put(0);
        Check.due("shelf(0, 1) behind one more", x.shelf(0, 1), 12);
        Check.due("shelf(1, 1) behind one more", x.shelf(1, 1), 1);
        x.take(24);
        Check.due("shelf(1, 1) empty", x.shelf(1, 1), 0);
    }

    private static void shelfGap() {
        for (int size = 2; size <= 12; size++) {
            SlabKitchen x = Check.kitchen(size);
            int places = 24 / size;
            for (int bowls = 1; bowls < places; bowls++) {
                x.put(0);
                Check.due("shelf(0, 4) of size " + size, x.shelf(0, 4), bowls);
            }
            x.put(0);
            x.take((places - 1) * size);
            Check.due("shelf(0, 4) with the last place alone", x.shelf(0, 4), places - 1);
            x.take(0);
            Check.due("shelf(0, 4) with the first place too", x.shelf(0, 4), 0);
        }
        SlabKitchen y = Check.kitchen(6);
        y.put(0);
        y.take(0);
        Check.due("shelf(0, 4) empty", y.shelf(0, 4), 0);
    }

    private static void shelfNoGap() {
        for (int size = 2; size <= 12; size++) {
            SlabKitchen x = Check.kitchen(size);
            Check.putRow(x, 0, 24 / size);
            Check.due("shelf(0, 4) full, of size " + size, x.shelf(0, 4), -1);
            x.take(0);
            Check.due("shelf(0, 4) behind take(0)", x.shelf(0, 4), 0);
            x.put(0);
            Check.due("shelf(0, 4) full again", x.shelf(0, 4), -1);
        }
    }

    private static void shelfSince() {
        SlabKitchen x = Check.kitchen(12);
        x.put(0);
        Check.due("shelf(0, 5) in use", x.shelf(0, 5), -1);
        x.put(0);
        Check.due("shelf(0, 5) full", x.shelf(0, 5), -1);
        x.take(0);
        Check.due("shelf(0, 5) in use again", x.shelf(0, 5), -1);
        x.take(12);
        Check.due("shelf(0, 5) empty", x.shelf(0, 5), 4);
        x.put(0);
        Check.due("shelf(0, 5) with a bowl", x.shelf(0, 5), -1);
        Check.due("shelf(1, 5) free", x.shelf(1, 5), -1);
    }

    private static void shelfFree() {
        SlabKitchen x = new SlabKitchen();
        for (int shelf = 0; shelf < 12; shelf++) {
            Check.dueRow("shelf " + shelf, Check.shelfRow(x, shelf), -1, 0, 0, 0, -1, -1);
        }
        x.kind(9);
        Check.open(x, 0, 1, 2, 0, 0);
        Check.dueRow("shelf 2 empty", Check.shelfRow(x, 2), 0, 0, 2, 2, 0, 11);
        Check.dueRow("shelf 3 empty", Check.shelfRow(x, 3), 0, 0, 3, 2, 0, 13);
        x.reap(0);
        Check.dueRow("shelf 2 reaped", Check.shelfRow(x, 2), -1, 0, 0, 0, -1, -1);
        Check.dueRow("shelf 3 reaped", Check.shelfRow(x, 3), -1, 0, 0, 0, -1, -1);
        Check.dueRow("shelf 1 not reaped", Check.shelfRow(x, 1), 0, 2, 1, 2, -1, -1);
    }

    private static void shelfRefused() {
        SlabKitchen x = Check.kitchen(2);
        x.put(0);
        for (int shelf : Check.beside(0, 11)) {
            Check.refused(x, "shelf(" + shelf + ", 0)", Check.BOUNDS, () -> x.shelf(shelf, 0));
            Check.refused(x, "shelf(" + shelf + ", 6)", Check.BOUNDS, () -> x.shelf(shelf, 6));
        }
        Check.taken("shelf(0, 0)", () -> x.shelf(0, 0));
        Check.taken("shelf(11, 0)", () -> x.shelf(11, 0));
    }

    private static void shelfWhatRefused() {
        SlabKitchen x = Check.kitchen(2);
        x.put(0);
        for (int what : Check.beside(0, 5)) {
            Check.refused(x, "shelf(0, " + what + ")", Check.BOUNDS, () -> x.shelf(0, what));
            Check.refused(x, "shelf(11, " + what + ")", Check.BOUNDS, () -> x.shelf(11, what));
        }
        Check.taken("shelf(11, 5)", () -> x.shelf(11, 5));
    }

    // Promise 9

    private static void aboutNone() {
        SlabKitchen x = Check.kitchen(7, 12);
        Check.dueRow("about(0)", Check.aboutRow(x, 0), 7, 3, 3, 0, 0, 0, 0, 0, 0);
        x.put(1);
        Check.dueRow("about(0) beside a bowl", Check.aboutRow(x, 0), 7, 3, 3, 0, 0, 0, 0, 0, 0);
        x.put(0);
        x.take(24);
        x.reap(0);
        Check.dueRow("about(0) reaped", Check.aboutRow(x, 0), 7, 3, 3, 0, 0, 0, 0, 0, 1);
    }

    private static void aboutAll() {
        SlabKitchen x = Check.kitchen(12, 2);
        int[] spots = Check.putRow(x, 0, 24);
        Check.dueRow("about(0) full", Check.aboutRow(x, 0), 12, 2, 0, 12, 12, 0, 0, 24, 12);
        for (int i = 0; i < 24; i += 2) {
            x.take(spots[i]);
        }
        Check.dueRow("about(0) in use", Check.aboutRow(x, 0), 12, 2, 0, 12, 0, 12, 0, 12, 12);
        for (int i = 1; i < 24; i += 2) {
            x.take(spots[i]);
        }
        Check.dueRow("about(0) empty", Check.aboutRow(x, 0), 12, 2, 0, 12, 0, 0, 12, 0, 12);
        Check.dueRow("about(1)", Check.aboutRow(x, 1), 2, 12, 0, 0, 0, 0, 0, 0, 0);
    }

    private static void aboutEver() {
        SlabKitchen x = Check.kitchen(12, 12);
        Check.due("about(0, 8) of a new kind", x.about(0, 8), 0);
        for (int ever = 1; ever <= 30; ever++) {
            x.put(0);
            Check.due("about(0, 8) behind a free shelf", x.about(0, 8), ever);
            x.take(0);
            x.put(0);
            Check.due("about(0, 8) behind an empty shelf", x.about(0, 8), ever);
            x.take(0);
            x.reap(0);
            Check.due("about(0, 8) behind reap(0)", x.about(0, 8), ever);
        }
        Check.due("about(1, 8)", x.about(1, 8), 0);
        Check.due("about(0, 3)", x.about(0, 3), 0);
    }

    private static void aboutWhatRefused() {
        SlabKitchen x = Check.kitchen(3, 5);
        x.put(0);
        for (int what : Check.beside(0, 8)) {
            Check.refused(x, "about(0, " + what + ")", Check.BOUNDS, () -> x.about(0, what));
            Check.refused(x, "about(1, " + what + ")", Check.BOUNDS, () -> x.about(1, what));
            Check.refused(x, "about(2, " + what + ")", Check.BOUNDS, () -> x.about(2, what));
        }
        Check.due("about(0, 8)", x.about(0, 8), 1);
        Check.due("about(0, 0)", x.about(0, 0), 3);
    }

    // Promise 10

    /** The last shelf with each rim: the first and the last span of all its places. */
    private static void placeSpans() {
        for (int size = 2; size <= 12; size++) {
            SlabKitchen x = Check.kitchen(size);
            int places = 24 / size;
            int rest = 24 - places * size;
            Check.putRow(x, 0, rest * places + 1);
            for (int i = 0; i < places; i++) {
                int begin = 25 * rest + i * size;
                int stands = i == 0 ? 1 : 0;
                Check.dueRow("first span of place " + i + " of size " + size,
                        Check.placeRow(x, begin), 0, i, stands, begin);
                Check.dueRow("last span of place " + i + " of size " + size,
                        Check.placeRow(x, begin + size - 1), 0, i, stands, begin);
            }
        }
    }

    private static void placeBowl() {
        SlabKitchen x = Check.kitchen(6);
        Check.open(x, 0, 3);
        Check.due("place(17, 2)", x.place(17, 2), 1);
        Check.due("place(18, 2)", x.place(18, 2), 0);
        Check.due("place(23, 2)", x.place(23, 2), 0);
        x.put(0);
        Check.due("place(23, 2) full", x.place(23, 2), 1);
        x.take(0);
        Check.due("place(0, 2)", x.place(0, 2), 0);
        Check.due("place(5, 2)", x.place(5, 2), 0);
        Check.due("place(6, 2)", x.place(6, 2), 1);
        Check.takeAll(x, 6, 12, 18);
        Check.dueRow("place 6 of an empty shelf", Check.placeRow(x, 6), 0, 1, 0, 6);
    }

    /** Size 7 leaves 3 spans: with the rims 0 to 3 they stand before and behind the places. */
    private static void placeOfNone() {
        SlabKitchen x = Check.kitchen(7);
        Check.putRow(x, 0, 12);
        int[] none = {21, 22, 23, 24, 46, 47, 48, 49, 71, 72, 73, 74};
        for (int spot : none) {
            Check.dueRow("place " + spot, Check.placeRow(x, spot), -1, -1, -1, -1);
        }
        int[] some = {0, 20, 25, 45, 50, 70, 75, 95};
        for (int i = 0; i < some.length; i++) {
            Check.due("place(" + some[i] + ", 1)", x.place(some[i], 1), i % 2 * 2);
        }
    }

    private static void placeOfFree() {
        SlabKitchen x = new SlabKitchen();
        Check.dueRow("place 0", Check.placeRow(x, 0), -1, -1, -1, -1);
        Check.dueRow("place 287", Check.placeRow(x, 287), -1, -1, -1, -1);
        x.kind(12);
        x.kind(2);
        Check.open(x, 0, 2, 0);
        Check.dueRow("place 24, empty", Check.placeRow(x, 24), 0, 0, 0, 24);
        Check.dueRow("place 48, free", Check.placeRow(x, 48), -1, -1, -1, -1);
        x.reap(0);
        Check.dueRow("place 24, reaped", Check.placeRow(x, 24), -1, -1, -1, -1);
        Check.dueRow("place 47, reaped", Check.placeRow(x, 47), -1, -1, -1, -1);
        Check.dueRow("place 23, not reaped", Check.placeRow(x, 23), 0, 1, 1, 12);
    }

    private static void placeRefused() {
        SlabKitchen x = Check.kitchen(12);
        Check.putRow(x, 0, 24);
        for (int spot : Check.beside(0, 287)) {
            Check.refused(x, "place(" + spot + ", 0)", Check.BOUNDS, () -> x.place(spot, 0));
            Check.refused(x, "place(" + spot + ", 4)", Check.BOUNDS, () -> x.place(spot, 4));
        }
        Check.due("place(0, 3)", x.place(0, 3), 0);
        Check.due("place(287, 3)", x.place(287, 3), 276);
    }

    private static void placeWhatRefused() {
        SlabKitchen x = Check.kitchen(12);
        x.put(0);
        for (int what : Check.beside(0, 3)) {
            Check.refused(x, "place(0, " + what + ")", Check.BOUNDS, () -> x.place(0, what));
            Check.refused(x, "place(287, " + what + ")", Check.BOUNDS, () -> x.place(287, what));
        }
        Check.due("place(12, 3)", x.place(12, 3), 12);
        Check.due("place(12, 0)", x.place(12, 0), 0);
    }

    // Promise 11

    private static void countNew() {
        Check.dueRow("count", Check.countRow(new SlabKitchen()), 0, 0, 12, 0, 0, 0, 0, 0, 0, 0);
        Check.dueRow("count with kinds", Check.countRow(Check.kitchen(9, 9, 9, 9, 9)),
                0, 5, 12, 0, 0, 0, 0, 0, 0, 0);
    }

    private static void countFull() {
        SlabKitchen x = Check.kitchen(2);
        Check.putRow(x, 0, 144);
        Check.dueRow("count of size 2", Check.countRow(x), 144, 1, 0, 144, 288, 0, 0, 144, 0, 0);
        SlabKitchen y = Check.kitchen(9);
        Check.putRow(y, 0, 24);
        Check.dueRow("count of size 9", Check.countRow(y), 24, 1, 0, 24, 216, 72, 72, 24, 0, 0);
    }

    private static void countWithout() {
        SlabKitchen x = Check.kitchen(6);
        Check.putRow(x, 0, 4);
        Check.due("count(5) of a full shelf", x.count(5), 0);
        x.put(0);
        Check.due("count(5) with one in use", x.count(5), 18);
        x.take(24);
        Check.due("count(5) with an empty one", x.count(5), 24);
        Check.due("count(4) with an empty one", x.count(4), 24);
        x.reap(0);
        Check.due("count(5) with a reaped one", x.count(5), 0);
        Check.due("count(4) with a reaped one", x.count(4), 24);
    }

    private static void countNoPlace() {
        int[] rests = {0, 0, 0, 4, 0, 3, 0, 6, 4, 2, 0};
        for (int size = 2; size <= 12; size++) {
            SlabKitchen x = Check.kitchen(size);
            Check.due("count(6) without shelves", x.count(6), 0);
            Check.putRow(x, 0, 24 / size + 1);
            Check.due("count(6) of two shelves of size " + size, x.count(6), 2 * rests[size - 2]);
            x.take(24 + (rests[size - 2] > 0 ? 1 : 0));
            Check.due("count(6) with an empty one", x.count(6), 2 * rests[size - 2]);
            x.reap(0);
            Check.due("count(6) with a reaped one", x.count(6), rests[size - 2]);
        }
    }

    private static void countPut() {
        SlabKitchen x = Check.kitchen(12, 12);
        Check.putRow(x, 0, 3);
        x.put(1);
        Check.due("count(7)", x.count(7), 4);
        x.take(24);
        x.reap(0);
        Check.due("count(7) behind take(24) and reap(0)", x.count(7), 4);
        Check.putRow(x, 0, 20);
        Check.thrownBy(() -> x.put(0));
        Check.due("count(7) behind a refused put(0)", x.count(7), 24);
        Check.due("count(3)", x.count(3), 23);
        x.take(0);
        x.take(48);
        Check.due("pack(0)", x.pack(0), 0);
        Check.due("count(7) behind packing", x.count(7), 24);
    }

    private static void countMoved() {
        SlabKitchen x = Check.kitchen(6, 6);
        Check.openRows(x, new int[] {0, 0, 1, 1}, 2, 2, 1, 1);
        Check.due("count(8)", x.count(8), 0);
        Check.due("gains(0)", x.gains(0), 1);
        Check.due("count(8) behind gains(0)", x.count(8), 0);
        x.pack(0);
        Check.due("count(8) behind pack(0)", x.count(8), 2);
        x.pack(1);
        Check.due("count(8) behind pack(1)", x.count(8), 3);
        x.pack(0);
        x.pack(1);
        Check.due("count(8) behind both again", x.count(8), 3);
    }

    private static void countRefused() {
        SlabKitchen x = Check.kitchen(6);
        x.put(0);
        for (int what : Check.beside(0, 9)) {
            Check.refused(x, "count(" + what + ")", Check.BOUNDS, () -> x.count(what));
        }
        SlabKitchen y = new SlabKitchen();
        Check.refused(y, "count(10) of a new kitchen", Check.BOUNDS, () -> y.count(10));
        Check.refused(y, "count(-1) of a new kitchen", Check.BOUNDS, () -> y.count(-1));
        y.setWay(2);
        Check.due("count(9)", y.count(9), 2);
        Check.due("count(0)", y.count(0), 0);
    }
}
