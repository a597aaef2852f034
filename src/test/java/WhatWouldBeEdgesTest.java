import java.math.BigInteger;

/** The boundaries in promises 12 to 18: a test for each sentence. */
public final class WhatWouldBeEdgesTest {
    private interface Asking {
        void ask(SlabKitchen x);
    }

    public static void main(String[] args) {
        nextAndFits();
        woulds();
        gainsAndAdvice();
        meansAndDigests();
        Check.end();
    }

    private static void nextAndFits() {
        Check.sentence("12: the spot that put() would tell: up to the last place",
                WhatWouldBeEdgesTest::nextToTheLast);
        Check.sentence("12: the spot that put() would tell: in use, empty, free",
                WhatWouldBeEdgesTest::nextOfEach);
        Check.sentence("12: -1 if it could not be put", WhatWouldBeEdgesTest::nextNone);
        Check.sentence("12: (nothing is changed)", WhatWouldBeEdgesTest::nextChangesNothing);
        Check.sentence("12: if there is no such kind",
                () -> Check.kindsThereAlone("next()", (x, kind) -> x.next(kind)));
        Check.sentence("13: how many bowls of it can be put: none",
                WhatWouldBeEdgesTest::fitsNone);
        Check.sentence("13: how many bowls of it can be put: the most",
                WhatWouldBeEdgesTest::fitsMost);
        Check.sentence("13: how many bowls of it can be put: that many and no more",
                WhatWouldBeEdgesTest::fitsSoMany);
        Check.sentence("13: if no others are put or taken", WhatWouldBeEdgesTest::fitsOthers);
        Check.sentence("13: if there is no such kind",
                () -> Check.kindsThereAlone("fits()", (x, kind) -> x.fits(kind)));
    }

    private static void woulds() {
        Check.sentence("14: how many free shelves come to it by that: none",
                WhatWouldBeEdgesTest::wouldNoShelf);
        Check.sentence("14: how many free shelves come to it by that: filled and one more",
                WhatWouldBeEdgesTest::wouldFill);
        Check.sentence("14: free shelves: empty ones are none", WhatWouldBeEdgesTest::wouldEmpty);
        Check.sentence("14: -1 if not all of them can be put",
                WhatWouldBeEdgesTest::wouldNotAll);
        Check.sentence("14: -1 ..: without free shelves", WhatWouldBeEdgesTest::wouldWithoutFree);
        Check.sentence("14: (nothing is changed)", WhatWouldBeEdgesTest::wouldChangesNothing);
        Check.sentence("14: if there is no such kind",
                () -> Check.kindsThereAlone("would()", (x, kind) -> x.would(kind, 1)));
        Check.sentence("14: if many is not 1 to 150: too small",
                WhatWouldBeEdgesTest::wouldTooFew);
        Check.sentence("14: if many is not 1 to 150: too large",
                WhatWouldBeEdgesTest::wouldTooMany);
    }

    private static void gainsAndAdvice() {
        Check.sentence("15: would be empty behind pack(): none", WhatWouldBeEdgesTest::gainsNone);
        Check.sentence("15: would be empty behind pack(): just so many bowls",
                WhatWouldBeEdgesTest::gainsJust);
        Check.sentence("15: would be empty behind pack(): the most",
                WhatWouldBeEdgesTest::gainsMost);
        Check.sentence("15: that are not empty now", WhatWouldBeEdgesTest::gainsNotEmptyNow);
        Check.sentence("15: (nothing is changed)", WhatWouldBeEdgesTest::gainsChangesNothing);
        Check.sentence("15: if there is no such kind",
                () -> Check.kindsThereAlone("gains()", (x, kind) -> x.gains(kind)));
        Check.sentence("16: the kind of which gains() tells the most",
                WhatWouldBeEdgesTest::adviseMost);
        Check.sentence("16: of several the smallest number", WhatWouldBeEdgesTest::adviseTies);
        Check.sentence("16: of several ..: none gains", WhatWouldBeEdgesTest::adviseNoGain);
        Check.sentence("16: -1 without kinds", WhatWouldBeEdgesTest::adviseWithoutKinds);
    }

    private static void meansAndDigests() {
        Check.sentence("17: the mean of bowls on shelves that are not free",
                WhatWouldBeEdgesTest::meanOfShelves);
        Check.sentence("17: shelves that are not free: empty ones",
                WhatWouldBeEdgesTest::meanOfEmpty);
        Check.sentence("17: 0 without any", WhatWouldBeEdgesTest::meanWithoutAny);
        Check.sentence("18: d starts with 1733", WhatWouldBeEdgesTest::digestStarts);
        Check.sentence("18: wraps around as a 64-bit integer", WhatWouldBeEdgesTest::digestWraps);
        Check.sentence("18: for each of its places 1 or 0", WhatWouldBeEdgesTest::digestPlaces);
        Check.sentence("18: for each kind what about() tells, then what next() tells: -1",
                WhatWouldBeEdgesTest::digestNextNone);
        Check.sentence("18: for each kind: none and all five", WhatWouldBeEdgesTest::digestKinds);
    }

    // Promise 12

    private static void nextToTheLast() {
        for (int size = 2; size <= 12; size++) {
            SlabKitchen x = Check.kitchen(size);
            for (int bowl = 0; bowl < 12 * (24 / size); bowl++) {
                int told = x.next(0);
                Check.due("put(0) of size " + size, x.put(0), told);
            }
            Check.due("next(0) of size " + size, x.next(0), -1);
            Check.refused(x, "put(0) of size " + size, Check.STATE, () -> x.put(0));
        }
    }

    private static void nextOfEach() {
        int[] inUse = {60, 114, 78};
        for (int way = 0; way <= 2; way++) {
            SlabKitchen x = Check.kitchen(6, 9);
            Check.open(x, 0, 4, 0, 2, 1, 3);
            x.setWay(way);
            Check.due("next(0) in use by way " + way, x.next(0), inUse[way]);
            Check.due("put(0) in use by way " + way, x.put(0), inUse[way]);
            Check.putRow(x, 0, 5);
            Check.due("next(0) on an empty shelf", x.next(0), 24);
            Check.dueRow("put(0) on an empty shelf", Check.putRow(x, 0, 4), 24, 30, 36, 42);
            Check.due("next(0) on a free shelf", x.next(0), 120);
            Check.due("next(1) on a free shelf", x.next(1), 120);
            Check.putRow(x, 1, 2);
            Check.due("next(1) with its second rim", x.next(1), 145);
            Check.due("next(0) on a free shelf", x.next(0), 144);
        }
    }

    private static void nextNone() {
        SlabKitchen x = Check.kitchen(12, 6);
        Check.putRow(x, 0, 23);
        Check.due("next(0) on the last place", x.next(0), 276);
        Check.due("next(1) beside another's place", x.next(1), -1);
        x.put(0);
        Check.due("next(0) of a full kitchen", x.next(0), -1);
        Check.takeAll(x, 0, 12);
        Check.due("next(0) on an empty shelf", x.next(0), 0);
        Check.due("next(1) beside another's empty shelf", x.next(1), -1);
        x.reap(0);
        Check.due("next(1) on a free shelf", x.next(1), 0);
    }

    /**
     * Two kitchens go the same way; one is asked ahead of each call. A rim that is counted by
     * asking shows where the next shelf comes to a kind.
     */
    private static void askedAndTwin(Asking asking) {
        SlabKitchen x = Check.kitchen(9, 7);
        SlabKitchen twin = Check.kitchen(9, 7);
        for (int bowl = 0; bowl < 24; bowl++) {
            asking.ask(x);
            Check.due("put(0)", x.put(0), twin.put(0));
        }
        asking.ask(x);
        Check.alike("in a full kitchen", x, twin);
        Check.due("take(0)", x.take(0), twin.take(0));
        Check.due("take(9)", x.take(9), twin.take(9));
        asking.ask(x);
        Check.due("reap(0)", x.reap(0), twin.reap(0));
        asking.ask(x);
        Check.due("put(1)", x.put(1), twin.put(1));
        Check.alike("behind put(1)", x, twin);
    }

    private static void nextChangesNothing() {
        askedAndTwin(x -> {
            for (int again = 0; again < 3; again++) {
                x.next(0);
                x.next(1);
            }
        });
    }

    // Promise 13

    private static void fitsNone() {
        SlabKitchen x = Check.kitchen(12, 2);
        Check.putRow(x, 0, 23);
        Check.due("fits(0) with a place left", x.fits(0), 1);
        Check.due("fits(1) without free shelves", x.fits(1), 0);
        x.put(0);
        Check.due("fits(0) of a full kitchen", x.fits(0), 0);
        Check.due("fits(1) of a full kitchen", x.fits(1), 0);
        Check.takeAll(x, 0, 12);
        Check.due("fits(0) with an empty shelf", x.fits(0), 2);
        Check.due("fits(1) beside another's empty shelf", x.fits(1), 0);
    }

    private static void fitsMost() {
        int[] most = {144, 96, 72, 48, 48, 36, 36, 24, 24, 24, 24};
        for (int size = 2; size <= 12; size++) {
            SlabKitchen x = Check.kitchen(size);
            Check.due("fits(0) of size " + size, x.fits(0), most[size - 2]);
            x.put(0);
            Check.due("fits(0) behind a bowl", x.fits(0), most[size - 2] - 1);
            x.take(0);
            Check.due("fits(0) with an empty shelf", x.fits(0), most[size - 2]);
            x.reap(0);
            Check.due("fits(0) with a reaped shelf", x.fits(0), most[size - 2]);
        }
    }

    private static void fitsSoMany() {
        SlabKitchen x = Check.kitchen(5, 9);
        Check.openRows(x, new int[] {0, 1, 0, 1, 0, 0}, 1, 0, 4, 1, 0, 2);
        Check.due("fits(0)", x.fits(0), 3 + 4 + 2 + 6 * 4);
        Check.due("fits(1)", x.fits(1), 2 + 1 + 6 * 2);
        for (int left = 33; left > 0; left--) {
            Check.due("fits(0)", x.fits(0), left);
            Check.taken("put(0)", () -> x.put(0));
        }
        Check.due("fits(0)", x.fits(0), 0);
        Check.refused(x, "put(0)", Check.STATE, () -> x.put(0));
        Check.due("fits(1)", x.fits(1), 3);
    }

    private static void fitsOthers() {
        SlabKitchen x = Check.kitchen(6, 4);
        Check.due("fits(0)", x.fits(0), 48);
        x.put(1);
        Check.due("fits(0) behind put(1)", x.fits(0), 44);
        Check.putRow(x, 1, 5);
        Check.due("fits(0) behind put(1) on the same shelf", x.fits(0), 44);
        x.put(1);
        Check.due("fits(0) behind put(1) on another", x.fits(0), 40);
        x.take(24);
        Check.due("fits(0) with another's empty shelf", x.fits(0), 40);
        x.reap(0);
        Check.due("fits(0) behind reap(0)", x.fits(0), 44);
    }

    // Promise 14

    private static void wouldNoShelf() {
        SlabKitchen x = Check.kitchen(6);
        Check.open(x, 0, 3, 4, 1, 0);
        Check.due("would(0, 1)", x.would(0, 1), 0);
        Check.due("would(0, 8)", x.would(0, 8), 0);
        Check.due("would(0, 9)", x.would(0, 9), 1);
    }

    private static void wouldFill() {
        for (int size = 2; size <= 12; size++) {
            SlabKitchen x = Check.kitchen(size);
            int places = 24 / size;
            for (int shelves = 1; shelves <= 12; shelves++) {
                Check.due("would() of one more, size " + size,
                        x.would(0, (shelves - 1) * places + 1), shelves);
                Check.due("would() of filled ones, size " + size,
                        x.would(0, shelves * places), shelves);
            }
        }
    }

    private static void wouldEmpty() {
        SlabKitchen x = Check.kitchen(12, 12);
        Check.openRows(x, new int[] {0, 0, 1}, 0, 0, 0);
        Check.due("would(0, 4)", x.would(0, 4), 0);
        Check.due("would(0, 5)", x.would(0, 5), 1);
        Check.due("would(0, 22)", x.would(0, 22), 9);
        Check.due("would(0, 23)", x.would(0, 23), -1);
        x.reap(0);
        Check.due("would(0, 4) behind reap(0)", x.would(0, 4), 2);
        Check.due("would(0, 24) behind reap(0)", x.would(0, 24), 12);
    }

    private static void wouldNotAll() {
        int[] most = {144, 96, 72, 48, 48, 36, 36, 24, 24, 24, 24};
        for (int size = 2; size <= 12; size++) {
            SlabKitchen x = Check.kitchen(size);
            Check.due("would() of all, size " + size, x.would(0, most[size - 2]), 12);
            Check.due("would() beyond, size " + size, x.would(0, most[size - 2] + 1), -1);
            Check.due("would(0, 150), size " + size, x.would(0, 150), -1);
            x.put(0);
            Check.due("would() of the others", x.would(0, most[size - 2] - 1), 11);
            Check.due("would() of one more", x.would(0, most[size - 2]), -1);
        }
    }

    private static void wouldWithoutFree() {
        SlabKitchen x = Check.kitchen(8, 8);
        Check.putRow(x, 0, 34);
        Check.due("would(0, 2)", x.would(0, 2), 0);
        Check.due("would(0, 3)", x.would(0, 3), -1);
        Check.due("would(1, 1)", x.would(1, 1), -1);
        Check.putRow(x, 0, 2);
        Check.due("would(0, 1) of a full kitchen", x.would(0, 1), -1);
        Check.due("would(1, 150) of a full kitchen", x.would(1, 150), -1);
    }

    private static void wouldChangesNothing() {
        askedAndTwin(x -> {
            x.would(0, 1);
            x.would(0, 20);
            x.would(1, 33);
            x.would(1, 150);
        });
    }

    private static void wouldTooFew() {
        SlabKitchen x = Check.kitchen(2);
        for (int many : new int[] {0, -1, -150, Integer.MIN_VALUE}) {
            Check.refused(x, "would(0, " + many + ")", Check.ARGUMENT, () -> x.would(0, many));
        }
        Check.due("would(0, 1)", x.would(0, 1), 1);
    }

    private static void wouldTooMany() {
        SlabKitchen x = Check.kitchen(2);
        for (int many : new int[] {151, 152, 257, Integer.MAX_VALUE}) {
            Check.refused(x, "would(0, " + many + ")", Check.ARGUMENT, () -> x.would(0, many));
        }
        Check.due("would(0, 150)", x.would(0, 150), -1);
        Check.putRow(x, 0, 144);
        Check.refused(x, "would(0, 151) of a full kitchen", Check.ARGUMENT, () -> x.would(0, 151));
        Check.due("would(0, 150) of a full kitchen", x.would(0, 150), -1);
    }

    // Promise 15

    private static int gainsOf(int size, int... bowls) {
        SlabKitchen x = Check.kitchen(size);
        Check.open(x, 0, bowls);
        return x.gains(0);
    }

    private static void gainsNone() {
        Check.due("gains(0) without shelves", gainsOf(6), 0);
        Check.due("gains(0) of an empty one", gainsOf(6, 0), 0);
        Check.due("gains(0) of a full one", gainsOf(6, 4), 0);
        Check.due("gains(0) of one in use", gainsOf(6, 1), 0);
        Check.due("gains(0) of one in use beside others", gainsOf(6, 4, 0, 1, 4), 0);
        Check.due("gains(0) of 3 and 3", gainsOf(6, 3, 3), 0);
        Check.due("gains(0) of 3 and 2", gainsOf(6, 3, 2), 0);
    }

    private static void gainsJust() {
        Check.due("gains(0) of 1 and 1 of 2", gainsOf(12, 1, 1), 1);
        Check.due("gains(0) of 1 and 1 of 3", gainsOf(8, 1, 1), 1);
        Check.due("gains(0) of 3 and 1 of 4", gainsOf(6, 3, 1), 1);
        Check.due("gains(0) of 2 and 2 of 4", gainsOf(6, 2, 2), 1);
        Check.due("gains(0) of 2, 2 and 1 of 4", gainsOf(6, 2, 2, 1), 1);
        Check.due("gains(0) of 2, 1 and 1 of 4", gainsOf(6, 2, 1, 1), 2);
        Check.due("gains(0) of 3, 3 and 2 of 4", gainsOf(6, 3, 3, 2), 1);
        Check.due("gains(0) of 3, 3 and 3 of 4", gainsOf(6, 3, 3, 3), 0);
        Check.due("gains(0) of 6 and 6 of 12", gainsOf(2, 6, 6), 1);
        Check.due("gains(0) of 7 and 6 of 12", gainsOf(2, 7, 6), 0);
    }

    private static void gainsMost() {
        int[] ones = {1, 1, 1, 1, 1, 1, 1, 1, 1, 1, 1, 1};
        int[] due = {11, 10, 10, 9, 9, 8, 8, 6, 6, 6, 6};
        for (int size = 2; size <= 12; size++) {
            Check.due("gains(0) of ones, size " + size, gainsOf(size, ones), due[size - 2]);
        }
    }

    private static void gainsNotEmptyNow() {
        SlabKitchen x = Check.kitchen(6, 6);
        Check.openRows(x, new int[] {0, 0, 0, 0, 1, 1}, 0, 1, 0, 2, 0, 3);
        Check.due("gains(0) beside two empty ones", x.gains(0), 1);
        Check.due("gains(1) beside an empty one", x.gains(1), 0);
        x.pack(0);
        Check.due("about(0, 6) behind pack(0)", x.about(0, 6), 3);
        Check.due("gains(0) behind pack(0)", x.gains(0), 0);
    }

    private static void gainsChangesNothing() {
        SlabKitchen x = Check.kitchen(9, 5);
        SlabKitchen twin = Check.kitchen(9, 5);
        int[] kinds = {0, 1, 0, 1, 1};
        int[] bowls = {1, 1, 1, 2, 1};
        Check.openRows(x, kinds, bowls);
        Check.openRows(twin, kinds, bowls);
        Check.due("gains(0)", x.gains(0), 1);
        Check.due("gains(1)", x.gains(1), 2);
        Check.due("advise()", x.advise(), 1);
        Check.alike("behind gains() and advise()", x, twin);
        Check.dueRow("bowls", Check.bowlsRow(x, 5), bowls);
        Check.due("pack(1)", x.pack(1), twin.pack(1));
        Check.alike("behind pack(1)", x, twin);
    }

    // Promise 16

    private static int advised(int[] kinds, int... bowls) {
        SlabKitchen x = Check.kitchen(6, 6, 6, 6, 6);
        Check.openRows(x, kinds, bowls);
        return x.advise();
    }

    private static void adviseMost() {
        int[] kinds = {0, 0, 4, 4, 2, 2, 4, 1, 1};
        Check.due("advise() of the last", advised(kinds, 1, 1, 1, 1, 1, 1, 1, 1, 1), 4);
        Check.due("advise() of the first", advised(kinds, 1, 1, 3, 3, 3, 2, 4, 4, 4), 0);
        Check.due("advise() of one between", advised(kinds, 3, 3, 3, 3, 1, 2, 4, 4, 4), 2);
    }

    private static void adviseTies() {
        int[] kinds = {3, 3, 1, 1, 4, 4, 0, 0};
        Check.due("advise() of 0, 1, 3 and 4", advised(kinds, 1, 1, 1, 1, 1, 1, 1, 1), 0);
        Check.due("advise() of 1, 3 and 4", advised(kinds, 1, 1, 1, 1, 1, 1, 4, 4), 1);
        Check.due("advise() of 3 and 4", advised(kinds, 1, 1, 3, 3, 1, 1, 0, 0), 3);
    }

    private static void adviseNoGain() {
        Check.due("advise() with one kind", Check.kitchen(12).advise(), 0);
        Check.due("advise() with five kinds", Check.kitchen(2, 3, 4, 5, 6).advise(), 0);
        int[] kinds = {3, 3, 1, 1, 4, 4, 0, 0};
        Check.due("advise() of 0", advised(kinds, 3, 3, 4, 4, 0, 1, 2, 3), 0);
    }

    private static void adviseWithoutKinds() {
        SlabKitchen x = new SlabKitchen();
        Check.due("advise()", x.advise(), -1);
        Check.refused(x, "kind(1)", Check.ARGUMENT, () -> x.kind(1));
        Check.due("advise() behind a refused kind(1)", x.advise(), -1);
        x.kind(2);
        Check.due("advise() with a kind", x.advise(), 0);
    }

    // Promise 17

    private static void meanOfShelves() {
        SlabKitchen x = Check.kitchen(2, 12);
        x.put(0);
        Check.dueMean("mean() of one bowl", x.mean(), 1.0);
        x.put(1);
        x.put(0);
        Check.dueMean("mean() of 3 on 2", x.mean(), 1.5);
        SlabKitchen y = Check.kitchen(2);
        Check.putRow(y, 0, 144);
        Check.dueMean("mean() of a full kitchen", y.mean(), 12.0);
        y.take(0);
        Check.dueMean("mean() of 143 on 12", y.mean(), 143.0 / 12.0);
    }

    private static void meanOfEmpty() {
        SlabKitchen x = Check.kitchen(6, 6);
        Check.openRows(x, new int[] {0, 0, 1}, 2, 0, 0);
        Check.dueMean("mean() of 2 on 3", x.mean(), 2.0 / 3.0);
        Check.takeAll(x, 0, 6);
        Check.dueMean("mean() of 0 on 3", x.mean(), 0.0);
        x.put(0);
        x.reap(0);
        Check.dueMean("mean() of 1 on 1", x.mean(), 1.0);
    }

    private static void meanWithoutAny() {
        SlabKitchen x = new SlabKitchen();
        Check.dueMean("mean() of a new kitchen", x.mean(), 0.0);
        x.kind(12);
        Check.dueMean("mean() with a kind", x.mean(), 0.0);
        x.put(0);
        x.take(0);
        x.reap(0);
        Check.dueMean("mean() of reaped shelves", x.mean(), 0.0);
    }

    // Promise 18

    private static long mixedFree(long start, int shelves) {
        long d = start;
        for (int shelf = 0; shelf < shelves; shelf++) {
            d = Check.mixed(d, -1, 0, 0, 0, -1, -1);
        }
        return d;
    }

    private static void digestStarts() {
        long d = mixedFree(Check.mixed(1733, 0, 0, 12, 0, 0, 0, 0, 0, 0, 0), 12);
        SlabKitchen x = new SlabKitchen();
        Check.due("digest() of a new kitchen", x.digest(), d);
        Check.due("digest() again", x.digest(), d);
    }

    /** Both signs are looked at, so that no bit of the 64 can be missing. */
    private static void digestWraps() {
        int below = 0;
        int above = 0;
        for (int bowls = 0; bowls < 8; bowls++) {
            SlabKitchen x = Check.kitchen(5, 12);
            Check.putRow(x, 0, bowls);
            Check.putRow(x, 1, bowls / 2);
            BigInteger d = wholeDigest(x);
            Check.due("bits beyond 64", d.bitLength() > 64 ? 1 : 0, 1);
            long told = x.digest();
            Check.due("digest() with " + bowls + " bowls", told, d.longValue());
            below += told < 0 ? 1 : 0;
            above += told > 0 ? 1 : 0;
        }
        Check.due("digests below and above 0", below > 0 && above > 0 ? 1 : 0, 1);
    }

    /** The number as it is without wrapping around, from what the other calls tell. */
    private static BigInteger wholeDigest(SlabKitchen x) {
        BigInteger d = mixedWhole(BigInteger.valueOf(1733), Check.countRow(x));
        for (int shelf = 0; shelf < 12; shelf++) {
            int[] row = Check.shelfRow(x, shelf);
            d = mixedWhole(d, row);
            String bowls = row[0] < 0 ? "" : Check.standing(x, shelf);
            for (char bowl : bowls.toCharArray()) {
                d = mixedWhole(d, bowl - '0');
            }
        }
        for (int kind = 0; kind < 2; kind++) {
            d = mixedWhole(mixedWhole(d, Check.aboutRow(x, kind)), x.next(kind));
        }
        return d;
    }

    private static BigInteger mixedWhole(BigInteger start, int... numbers) {
        BigInteger d = start;
        for (int x : numbers) {
            d = d.multiply(BigInteger.valueOf(31)).add(BigInteger.valueOf(x));
        }
        return d;
    }

    private static void digestPlaces() {
        SlabKitchen x = Check.kitchen(5);
        Check.open(x, 0, 4, 4, 0);
        Check.takeAll(x, 5, 25, 30);
        long d = Check.mixed(1733, 19, 1, 9, 5, 25, 47, 12, 12, 0, 0);
        d = Check.mixed(d, 0, 3, 0, 4, 1, -1, 1, 0, 1, 1);
        d = Check.mixed(d, 0, 2, 1, 4, 0, -1, 0, 0, 1, 1);
        d = Check.mixed(d, 0, 0, 2, 4, 0, 16, 0, 0, 0, 0);
        d = Check.mixed(mixedFree(d, 9), 5, 4, 4, 3, 0, 2, 1, 5, 3, 5);
        Check.due("digest() with places", x.digest(), d);
        x.reap(0);
        d = Check.mixed(1733, 19, 1, 10, 5, 25, 23, 8, 12, 0, 0);
        d = Check.mixed(d, 0, 3, 0, 4, 1, -1, 1, 0, 1, 1);
        d = Check.mixed(d, 0, 2, 1, 4, 0, -1, 0, 0, 1, 1);
        d = Check.mixed(mixedFree(d, 10), 5, 4, 4, 2, 0, 2, 0, 5, 3, 5);
        Check.due("digest() with a reaped shelf", x.digest(), d);
    }

    private static void digestNextNone() {
        SlabKitchen x = Check.kitchen(12, 9);
        Check.putRow(x, 0, 24);
        long d = Check.mixed(1733, 24, 2, 0, 24, 288, 0, 0, 24, 0, 0);
        for (int shelf = 0; shelf < 12; shelf++) {
            d = Check.mixed(d, 0, 2, 0, 2, -1, -1, 1, 1);
        }
        d = Check.mixed(d, 12, 2, 0, 12, 12, 0, 0, 24, 12, -1);
        d = Check.mixed(d, 9, 2, 6, 0, 0, 0, 0, 0, 0, -1);
        Check.due("digest() of a full kitchen", x.digest(), d);
    }

    private static void digestKinds() {
        SlabKitchen x = new SlabKitchen();
        int[] sizes = {2, 12, 7, 9, 5};
        int[] places = {12, 2, 3, 2, 4};
        int[] rests = {0, 0, 3, 6, 4};
        for (int kinds = 0; kinds <= 5; kinds++) {
            long d = mixedFree(Check.mixed(1733, 0, kinds, 12, 0, 0, 0, 0, 0, 0, 0), 12);
            for (int kind = 0; kind < kinds; kind++) {
                d = Check.mixed(d, sizes[kind], places[kind], rests[kind], 0, 0, 0, 0, 0, 0, 0);
            }
            Check.due("digest() with " + kinds + " kinds", x.digest(), d);
            if (kinds < 5) {
                x.kind(sizes[kinds]);
            }
        }
    }
}
