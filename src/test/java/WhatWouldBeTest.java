/** Promises 12 to 18. */
public final class WhatWouldBeTest {
    public static void main(String[] args) {
        nextTells();
        nextByWays();
        fitsTells();
        wouldTells();
        gainsTells();
        adviseTells();
        meanTells();
        digestOfUsed();
        Check.end();
    }

    // Promise 12

    private static void nextTells() {
        SlabKitchen x = new SlabKitchen();
        x.kind(7);
        x.kind(12);
        for (int i = 0; i < 36; i++) {
            int told = x.next(0);
            long before = x.digest();
            Check.due("next(0) twice", x.next(0), told);
            Check.due("digest() behind next(0)", x.digest(), before);
            Check.due("put(0) behind next(0)", x.put(0), told);
        }
        Check.due("next(0) of a full kitchen", x.next(0), -1);
        Check.due("next(1) of a full kitchen", x.next(1), -1);
        Check.takeAll(x, 25, 32, 39);
        Check.due("next(0) on an empty shelf", x.next(0), 25);
        Check.due("next(1) beside another's empty shelf", x.next(1), -1);
        x.reap(0);
        Check.due("next(0) on the shelf as the 13th", x.next(0), 24);
        Check.due("next(1) on the shelf", x.next(1), 24);
    }

    private static void nextByWays() {
        SlabKitchen x = new SlabKitchen();
        x.kind(6);
        Check.putRow(x, 0, 12);
        Check.takeAll(x, 0, 6, 24, 48, 54, 60);
        Check.due("next(0) by way 0", x.next(0), 0);
        x.setWay(1);
        Check.due("next(0) by way 1", x.next(0), 24);
        x.setWay(2);
        Check.due("next(0) by way 2", x.next(0), 48);
    }

    // Promise 13

    private static void fitsTells() {
        SlabKitchen x = new SlabKitchen();
        x.kind(7);
        x.kind(2);
        Check.due("fits(0) of a new kitchen", x.fits(0), 36);
        Check.due("fits(1) of a new kitchen", x.fits(1), 144);
        Check.putRow(x, 0, 4);
        x.put(1);
        Check.due("fits(0)", x.fits(0), 29);
        Check.due("fits(1)", x.fits(1), 119);
        Check.takeAll(x, 25, 48);
        Check.due("fits(0) with an empty shelf", x.fits(0), 30);
        Check.due("fits(1) with an empty shelf", x.fits(1), 120);
        x.reap(0);
        Check.due("fits(0)", x.fits(0), 33);
        Check.due("fits(1)", x.fits(1), 132);
        Check.putRow(x, 1, 132);
        Check.due("fits(0) without free shelves", x.fits(0), 0);
        Check.due("fits(1) without free shelves", x.fits(1), 0);
        x.take(14);
        Check.due("fits(0) with a place", x.fits(0), 1);
        Check.due("fits(1) with another's place", x.fits(1), 0);
    }

    // Promise 14

    private static void wouldTells() {
        SlabKitchen x = new SlabKitchen();
        x.kind(2);
        x.kind(7);
        Check.due("would(0, 1)", x.would(0, 1), 1);
        Check.due("would(0, 12)", x.would(0, 12), 1);
        Check.due("would(0, 13)", x.would(0, 13), 2);
        Check.due("would(0, 144)", x.would(0, 144), 12);
        Check.due("would(0, 145)", x.would(0, 145), -1);
        Check.due("would(0, 150)", x.would(0, 150), -1);
        Check.putRow(x, 1, 7);
        Check.takeAll(x, 0, 7, 14, 25);
        long before = x.digest();
        Check.due("would(1, 1)", x.would(1, 1), 0);
        Check.due("would(1, 6)", x.would(1, 6), 0);
        Check.due("would(1, 7)", x.would(1, 7), 1);
        Check.due("would(1, 9)", x.would(1, 9), 1);
        Check.due("would(1, 10)", x.would(1, 10), 2);
        Check.due("would(1, 33)", x.would(1, 33), 9);
        Check.due("would(1, 34)", x.would(1, 34), -1);
        Check.due("would(0, 108)", x.would(0, 108), 9);
        Check.due("would(0, 109)", x.would(0, 109), -1);
        Check.due("digest() behind would()", x.digest(), before);
        Check.putRow(x, 0, 108);
        Check.due("would(1, 6)", x.would(1, 6), 0);
        Check.due("would(1, 7)", x.would(1, 7), -1);
        Check.due("would(0, 1)", x.would(0, 1), -1);
    }

    // Promise 15

    private static void gainsTells() {
        SlabKitchen x = new SlabKitchen();
        x.kind(6);
        x.kind(6);
        Check.due("gains(0) without shelves", x.gains(0), 0);
        Check.putRow(x, 0, 16);
        Check.putRow(x, 1, 5);
        Check.due("gains(0) of full shelves", x.gains(0), 0);
        Check.takeAll(x, 0, 24, 48, 72);
        Check.due("gains(0) of 3, 3, 3 and 3", x.gains(0), 1);
        Check.takeAll(x, 6);
        Check.due("gains(0) of 2, 3, 3 and 3", x.gains(0), 1);
        Check.takeAll(x, 30, 54, 78);
        Check.due("gains(0) of 2, 2, 2 and 2", x.gains(0), 2);
        Check.takeAll(x, 12, 18);
        Check.due("gains(0) of 0, 2, 2 and 2", x.gains(0), 1);
        long before = x.digest();
        Check.due("gains(0) again", x.gains(0), 1);
        Check.due("gains(1) with one in use", x.gains(1), 0);
        Check.due("digest() behind gains()", x.digest(), before);
        int empty = x.about(0, 6);
        x.pack(0);
        Check.due("empty ones behind pack(0)", x.about(0, 6) - empty, 1);
        Check.due("gains(0) behind pack(0)", x.gains(0), 0);
    }

    // Promise 16

    private static void adviseTells() {
        SlabKitchen x = new SlabKitchen();
        Check.due("advise() without kinds", x.advise(), -1);
        x.kind(12);
        Check.due("advise() with one kind", x.advise(), 0);
        x.kind(12);
        x.kind(12);
        Check.due("advise() with equal kinds", x.advise(), 0);
        Check.putRow(x, 0, 4);
        Check.putRow(x, 1, 4);
        Check.putRow(x, 2, 8);
        Check.takeAll(x, 60, 84);
        Check.due("advise() with gains 0, 1 and 0", x.advise(), 1);
        Check.takeAll(x, 96, 120);
        Check.due("advise() with gains 0, 1 and 1", x.advise(), 1);
        Check.takeAll(x, 144, 168);
        long before = x.digest();
        Check.due("advise() with gains 0, 1 and 2", x.advise(), 2);
        Check.due("digest() behind advise()", x.digest(), before);
        x.pack(2);
        Check.due("advise() with gains 0, 1 and 0", x.advise(), 1);
        x.pack(1);
        Check.due("advise() with equal kinds", x.advise(), 0);
    }

    // Promise 17

    private static void meanTells() {
        SlabKitchen x = new SlabKitchen();
        Check.dueMean("mean() of a new kitchen", x.mean(), 0.0);
        x.kind(6);
        x.kind(12);
        Check.dueMean("mean() with kinds alone", x.mean(), 0.0);
        Check.putRow(x, 0, 5);
        Check.dueMean("mean() of 5 on 2", x.mean(), 2.5);
        x.put(1);
        Check.dueMean("mean() of 6 on 3", x.mean(), 2.0);
        x.take(0);
        Check.dueMean("mean() of 5 on 3", x.mean(), 5.0 / 3.0);
        x.take(48);
        Check.dueMean("mean() of 4 on 3", x.mean(), 4.0 / 3.0);
        x.reap(0);
        Check.dueMean("mean() of 4 on 2", x.mean(), 2.0);
        Check.takeAll(x, 6, 12, 18, 24);
        Check.dueMean("mean() of empty shelves", x.mean(), 0.0);
        x.reap(0);
        Check.dueMean("mean() of free shelves", x.mean(), 0.0);
    }

    // Promise 18

    private static void digestOfUsed() {
        SlabKitchen x = new SlabKitchen();
        x.kind(7);
        x.kind(12);
        x.setWay(1);
        Check.putRow(x, 0, 4);
        x.put(1);
        Check.takeAll(x, 7, 48);
        long d = Check.mixed(1733, 7, 2, 9, 3, 21, 51, 6, 5, 0, 1);
        d = Check.mixed(d, 0, 2, 0, 3, 1, -1, 1, 0, 1);
        d = Check.mixed(d, 0, 1, 1, 3, 1, -1, 1, 0, 0);
        d = Check.mixed(d, 1, 0, 0, 2, 0, 7, 0, 0);
        for (int shelf = 3; shelf < 12; shelf++) {
            d = Check.mixed(d, -1, 0, 0, 0, -1, -1);
        }
        d = Check.mixed(d, 7, 3, 3, 2, 0, 2, 0, 3, 2, 7);
        d = Check.mixed(d, 12, 2, 0, 1, 0, 0, 1, 0, 1, 48);
        Check.due("digest() of a used kitchen", x.digest(), d);
    }
}
