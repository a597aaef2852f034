/** The boundaries in the document's headings 'What it is' and 'Terms': a test for each sentence. */
public final class TermsEdgesTest {
    private static final int[] PLACES = {12, 8, 6, 4, 4, 3, 3, 2, 2, 2, 2};
    private static final int[] RESTS = {0, 0, 0, 4, 0, 3, 0, 6, 4, 2, 0};

    public static void main(String[] args) {
        what();
        shelvesAndKinds();
        waysAndTime();
        putting();
        packing();
        exceptions();
        Check.end();
    }

    private static void what() {
        Check.sentence("used for at most 512 calls: the last of them", TermsEdgesTest::lastCall);
        Check.sentence("used for at most 512 calls: the most puts", TermsEdgesTest::mostPuts);
        Check.sentence("used for at most 512 calls: many moves", TermsEdgesTest::manyMoves);
    }

    private static void shelvesAndKinds() {
        Check.sentence("It has 12 shelves, numbered from 0", TermsEdgesTest::twelveShelves);
        Check.sentence("each has 24 spans", TermsEdgesTest::allSpans);
        Check.sentence("and is free (at first)", TermsEdgesTest::freeAtFirst);
        Check.sentence("or belongs to a kind", TermsEdgesTest::belongsToKind);
        Check.sentence("The spot of a span is 24 * its shelf, and its number on the shelf",
                TermsEdgesTest::spotsOfSpans);
        Check.sentence("At most 5, numbered from 0", TermsEdgesTest::fiveKinds);
        Check.sentence("each has a size, 2 to 12 spans", TermsEdgesTest::sizes);
        Check.sentence("Its shelves have 24 / size places (cut towards 0)", TermsEdgesTest::places);
        Check.sentence("what is left of the 24 spans is their rest", TermsEdgesTest::rests);
        Check.sentence("rim: 0 for the first one, 1 for the second one and so on, up to its rest",
                TermsEdgesTest::rimsUpToRest);
        Check.sentence("rim: then 0 again", TermsEdgesTest::rimsAgain);
        Check.sentence("rim: that the kind ever got", TermsEdgesTest::rimsOfReaped);
        Check.sentence("rim: of one kind alone", TermsEdgesTest::rimsOfEachKind);
        Check.sentence("The place i begins at the spot of the span rim + i * size",
                TermsEdgesTest::placesBegin);
        Check.sentence("full, if bowls stand on all of its places", TermsEdgesTest::full);
        Check.sentence("empty, if on none", TermsEdgesTest::empty);
        Check.sentence("otherwise it is in use", TermsEdgesTest::inUse);
    }

    private static void waysAndTime() {
        Check.sentence("Ways. 0 (at first)", TermsEdgesTest::wayAtFirst);
        Check.sentence("0: the smallest number", TermsEdgesTest::waySmallest);
        Check.sentence("1: the one with the most bowls", TermsEdgesTest::wayMost);
        Check.sentence("1: of several the smallest number", TermsEdgesTest::wayMostTies);
        Check.sentence("2: the one with the fewest bowls", TermsEdgesTest::wayFewest);
        Check.sentence("2: likewise", TermsEdgesTest::wayFewestTies);
        Check.sentence("Time: it is 0 at first", TermsEdgesTest::timeAtFirst);
        Check.sentence("1 greater behind each bowl that is put or taken by put() and take()",
                TermsEdgesTest::timeGoesOn);
        Check.sentence("Time: by put() and take() alone", TermsEdgesTest::timeStands);
        Check.sentence("empty by take() is so since the time behind that",
                TermsEdgesTest::emptyByTake);
        Check.sentence("one that gets empty by packing since the time then",
                TermsEdgesTest::emptyByPacking);
    }

    private static void putting() {
        Check.sentence("if some of its shelves are in use, to the one of these by the way",
                TermsEdgesTest::putInUse);
        Check.sentence("otherwise, if some are empty, to the one with the smallest number",
                TermsEdgesTest::putEmpty);
        Check.sentence("some of its shelves: not those of another kind",
                TermsEdgesTest::putBesideOthers);
        Check.sentence("otherwise the free shelf with the smallest number comes to the kind",
                TermsEdgesTest::putFree);
        Check.sentence("always to the place with the smallest number on which none stands",
                TermsEdgesTest::putSmallestPlace);
    }

    private static void packing() {
        Check.sentence("as long as it has two shelves in use or more: none or one",
                TermsEdgesTest::packFewerThanTwo);
        Check.sentence("as long as it has two shelves in use or more: just two",
                TermsEdgesTest::packTwo);
        Check.sentence("as long as it has two shelves in use or more: all twelve",
                TermsEdgesTest::packTwelve);
        Check.sentence("a bowl, that on the place with the greatest number",
                TermsEdgesTest::packGreatestPlace);
        Check.sentence("from the one with the fewest bowls", TermsEdgesTest::packFromFewest);
        Check.sentence("from: of several the greatest number", TermsEdgesTest::packFromTies);
        Check.sentence("to the one with the most bowls", TermsEdgesTest::packToMost);
        Check.sentence("to: of the others; of several the smallest number",
                TermsEdgesTest::packToTies);
        Check.sentence("packing: to the place with the smallest number on which none stands",
                TermsEdgesTest::packSmallestPlace);
        Check.sentence("Packing a kind: it alone", TermsEdgesTest::packOneKind);
    }

    private static void exceptions() {
        Check.sentence("A method that throws an exception changes nothing: a new kitchen",
                () -> refusedChangesNothing(0));
        Check.sentence("A method that throws an exception changes nothing: a full kitchen",
                () -> refusedChangesNothing(1));
        Check.sentence("A method that throws an exception changes nothing: a kitchen in use",
                () -> refusedChangesNothing(2));
        Check.sentence("If several exceptions apply, the one that is named first is thrown",
                TermsEdgesTest::firstNamed);
    }

    // What it is

    private static void lastCall() {
        SlabKitchen x = Check.kitchen(2);
        for (int i = 0; i < 255; i++) {
            x.put(0);
            x.take(0);
        }
        Check.due("count(0) as the 512th call", x.count(0), 510);
        SlabKitchen y = Check.kitchen(2, 12);
        for (int i = 0; i < 254; i++) {
            y.put(0);
            y.take(0);
        }
        y.reap(0);
        Check.due("put(1) as the 512th call", y.put(1), 0);
    }

    private static void mostPuts() {
        SlabKitchen x = Check.kitchen(2);
        Check.putRow(x, 0, 144);
        for (int i = 0; i < 183; i++) {
            x.take(286);
            x.put(0);
        }
        Check.due("count(7) as the 512th call", x.count(7), 327);
    }

    private static void manyMoves() {
        SlabKitchen x = Check.kitchen(2);
        Check.putRow(x, 0, 18);
        for (int round = 0; round < 37; round++) {
            Check.takeAll(x, 12, 14, 16, 18, 20, 22);
            Check.due("pack(0) of 6 and 6", x.pack(0), 6);
            Check.putRow(x, 0, 6);
        }
        Check.due("count(8) behind 37 times 6 moves", x.count(8), 222);
    }

    // Terms: shelves and kinds

    private static void twelveShelves() {
        SlabKitchen x = Check.kitchen(12);
        for (int shelf = 0; shelf < 12; shelf++) {
            Check.dueRow("bowls of shelf " + shelf, Check.putRow(x, 0, 2),
                    24 * shelf, 24 * shelf + 12);
            Check.due("shelf(" + shelf + ", 1)", x.shelf(shelf, 1), 2);
        }
        Check.refused(x, "a 13th shelf", Check.STATE, () -> x.put(0));
        Check.refused(x, "shelf(12, 0)", Check.BOUNDS, () -> x.shelf(12, 0));
    }

    private static void allSpans() {
        SlabKitchen x = Check.kitchen(2);
        Check.putRow(x, 0, 144);
        Check.due("spans under bowls", x.count(4), 12 * 24);
        for (int shelf = 0; shelf < 12; shelf++) {
            Check.due("last span of shelf " + shelf, x.place(24 * shelf + 23, 1), 11);
        }
        Check.refused(x, "place(288, 0)", Check.BOUNDS, () -> x.place(288, 0));
    }

    private static void freeAtFirst() {
        SlabKitchen x = new SlabKitchen();
        Check.due("free shelves", x.count(2), 12);
        x.kind(2);
        Check.due("free shelves with a kind", x.count(2), 12);
        for (int shelf = 0; shelf < 12; shelf++) {
            Check.due("kind of shelf " + shelf, x.shelf(shelf, 0), -1);
        }
    }

    private static void belongsToKind() {
        SlabKitchen x = Check.kitchen(12, 11, 10, 9, 8);
        for (int shelf = 0; shelf < 12; shelf++) {
            Check.putRow(x, shelf % 5, x.about(shelf % 5, 1));
        }
        for (int shelf = 0; shelf < 12; shelf++) {
            Check.due("kind of shelf " + shelf, x.shelf(shelf, 0), shelf % 5);
        }
        Check.due("free shelves", x.count(2), 0);
        x.take(0);
        x.take(12);
        Check.due("kind of an empty shelf", x.shelf(0, 0), 0);
        Check.due("free shelves", x.count(2), 0);
    }

    private static void spotsOfSpans() {
        SlabKitchen x = Check.kitchen(12, 8, 6, 4, 3);
        for (int shelf = 0; shelf < 12; shelf++) {
            Check.putRow(x, shelf % 5, x.about(shelf % 5, 1));
        }
        for (int spot = 0; spot < 288; spot++) {
            Check.due("place(" + spot + ", 0)", x.place(spot, 0), spot / 24 % 5);
        }
        Check.due("place(0, 3)", x.place(0, 3), 0);
        Check.due("place(23, 3)", x.place(23, 3), 12);
        Check.due("place(24, 3)", x.place(24, 3), 24);
        Check.due("place(264, 3)", x.place(264, 3), 264);
        Check.due("place(287, 3)", x.place(287, 3), 280);
    }

    private static void fiveKinds() {
        SlabKitchen x = new SlabKitchen();
        for (int kind = 0; kind < 5; kind++) {
            Check.due("kind(6)", x.kind(6), kind);
        }
        Check.refused(x, "a sixth kind(6)", Check.STATE, () -> x.kind(6));
        Check.refused(x, "about(5, 0)", Check.BOUNDS, () -> x.about(5, 0));
        Check.due("about(4, 0)", x.about(4, 0), 6);
    }

    private static void sizes() {
        for (int size = 2; size <= 12; size++) {
            SlabKitchen x = new SlabKitchen();
            Check.due("kind(" + size + ")", x.kind(size), 0);
            Check.due("about(0, 0)", x.about(0, 0), size);
            x.put(0);
            Check.due("spans under a bowl of size " + size, x.count(4), size);
        }
        SlabKitchen y = new SlabKitchen();
        Check.refused(y, "kind(1)", Check.ARGUMENT, () -> y.kind(1));
        Check.refused(y, "kind(13)", Check.ARGUMENT, () -> y.kind(13));
    }

    private static void places() {
        for (int size = 2; size <= 12; size++) {
            SlabKitchen x = Check.kitchen(size);
            int due = PLACES[size - 2];
            Check.due("about(0, 1) of size " + size, x.about(0, 1), due);
            Check.due("fits(0) of size " + size, x.fits(0), 12 * due);
            Check.putRow(x, 0, due);
            Check.due("shelf(0, 3) of size " + size, x.shelf(0, 3), due);
            Check.due("shelves behind so many bowls", x.about(0, 3), 1);
            x.put(0);
            Check.due("shelves behind one bowl more", x.about(0, 3), 2);
        }
    }

    private static void rests() {
        for (int size = 2; size <= 12; size++) {
            SlabKitchen x = Check.kitchen(size);
            Check.due("about(0, 2) of size " + size, x.about(0, 2), RESTS[size - 2]);
            Check.putRow(x, 0, PLACES[size - 2]);
            Check.due("count(6) of a full shelf of size " + size, x.count(6), RESTS[size - 2]);
        }
    }

    private static void rimsUpToRest() {
        for (int size = 2; size <= 12; size++) {
            SlabKitchen x = Check.kitchen(size);
            for (int shelf = 0; shelf <= RESTS[size - 2]; shelf++) {
                Check.due("next(0) of size " + size, x.next(0), 25 * shelf);
                Check.due("first spot of size " + size, x.put(0), 25 * shelf);
                Check.due("rim of size " + size, x.shelf(shelf, 2), shelf);
                Check.putRow(x, 0, PLACES[size - 2] - 1);
            }
        }
    }

    private static void rimsAgain() {
        for (int size = 2; size <= 12; size++) {
            SlabKitchen x = Check.kitchen(size);
            int rims = RESTS[size - 2] + 1;
            for (int shelf = 0; shelf < 12; shelf++) {
                Check.due("first spot of size " + size, x.put(0), 24 * shelf + shelf % rims);
                Check.due("rim of size " + size, x.shelf(shelf, 2), shelf % rims);
                Check.putRow(x, 0, PLACES[size - 2] - 1);
            }
        }
    }

    private static void rimsOfReaped() {
        for (int size = 2; size <= 12; size++) {
            SlabKitchen x = Check.kitchen(size);
            int rims = RESTS[size - 2] + 1;
            for (int got = 0; got < 40; got++) {
                Check.due("size " + size + " on the shelf " + got, x.put(0), got % rims);
                x.take(got % rims);
                x.put(0);
                x.take(got % rims);
                Check.due("reap(0)", x.reap(0), 1);
            }
        }
    }

    private static void rimsOfEachKind() {
        SlabKitchen x = Check.kitchen(9, 7, 9);
        int[] rims = {0, 0, 0};
        for (int shelf = 0; shelf < 12; shelf++) {
            int kind = shelf % 4 == 3 ? 0 : shelf % 4;
            Check.due("rim of shelf " + shelf, x.put(kind), 24 * shelf + rims[kind]);
            Check.putRow(x, kind, x.about(kind, 1) - 1);
            rims[kind]++;
        }
    }

    private static void placesBegin() {
        for (int size = 2; size <= 12; size++) {
            SlabKitchen x = Check.kitchen(size);
            int rest = RESTS[size - 2];
            int places = PLACES[size - 2];
            Check.putRow(x, 0, rest * places);
            for (int i = 0; i < places; i++) {
                Check.due("place " + i + " of size " + size, x.put(0), 25 * rest + i * size);
            }
            Check.due("last span of the greatest rim", x.place(24 * rest + 23, 1), places - 1);
            Check.due("first span behind the rim", x.place(25 * rest, 1), 0);
            if (rest > 0) {
                Check.due("last span of the rim", x.place(25 * rest - 1, 1), -1);
                Check.due("last span without a rim", x.place(23, 1), -1);
                Check.due("last span of a place without a rim", x.place(23 - rest, 1), places - 1);
            }
        }
    }

    private static void states(String told, SlabKitchen x, int full, int inUse, int empty) {
        Check.due(told + ", full ones", x.about(0, 4), full);
        Check.due(told + ", those in use", x.about(0, 5), inUse);
        Check.due(told + ", empty ones", x.about(0, 6), empty);
    }

    private static void full() {
        for (int size = 2; size <= 12; size++) {
            SlabKitchen x = Check.kitchen(size);
            Check.putRow(x, 0, PLACES[size - 2] - 1);
            states("all but one place of size " + size, x, 0, 1, 0);
            x.put(0);
            states("all places of size " + size, x, 1, 0, 0);
            x.take(0);
            states("all but the first place of size " + size, x, 0, 1, 0);
        }
    }

    private static void empty() {
        for (int size = 2; size <= 12; size++) {
            SlabKitchen x = Check.kitchen(size);
            states("no shelf of size " + size, x, 0, 0, 0);
            x.put(0);
            states("one bowl of size " + size, x, 0, 1, 0);
            x.take(0);
            states("no bowl of size " + size, x, 0, 0, 1);
            x.reap(0);
            states("a reaped shelf of size " + size, x, 0, 0, 0);
        }
    }

    private static void inUse() {
        for (int size = 2; size <= 12; size++) {
            SlabKitchen x = Check.kitchen(size);
            for (int bowls = 1; bowls < PLACES[size - 2]; bowls++) {
                x.put(0);
                states(bowls + " bowls of size " + size, x, 0, 1, 0);
            }
            x.put(0);
            x.put(0);
            states("two shelves of size " + size, x, 1, 1, 0);
        }
    }

    // Terms: ways and time

    /** Shelves 0 to 6 of size 6 with these bowls of 4, and then the way. */
    private static SlabKitchen byWay(int way, int... bowls) {
        SlabKitchen x = Check.kitchen(6);
        Check.open(x, 0, bowls);
        x.setWay(way);
        return x;
    }

    private static void wayAtFirst() {
        Check.due("count(9)", new SlabKitchen().count(9), 0);
        Check.due("setWay(2)", new SlabKitchen().setWay(2), 0);
        SlabKitchen x = Check.kitchen(6);
        Check.open(x, 0, 2, 3, 1);
        Check.due("put(0)", x.put(0), 12);
    }

    private static void waySmallest() {
        SlabKitchen x = byWay(0, 4, 0, 2, 3, 1);
        Check.dueRow("put(0)", Check.putRow(x, 0, 6), 60, 66, 90, 102, 108, 114);
    }

    private static void wayMost() {
        SlabKitchen x = byWay(1, 4, 1, 0, 2, 3, 1);
        Check.dueRow("put(0)", Check.putRow(x, 0, 4), 114, 84, 90, 30);
        Check.due("put(0) where the most stand last", byWay(1, 1, 2, 3).put(0), 66);
        Check.due("put(0) where the most stand first", byWay(1, 3, 2, 1).put(0), 18);
        Check.due("put(0) beside full ones", byWay(1, 4, 4, 1).put(0), 54);
    }

    private static void wayMostTies() {
        Check.due("put(0) of 1, 3, 2, 3 and 3", byWay(1, 1, 3, 2, 3, 3).put(0), 42);
        SlabKitchen x = byWay(1, 2, 2, 2, 2);
        Check.dueRow("put(0)", Check.putRow(x, 0, 3), 12, 18, 36);
    }

    private static void wayFewest() {
        SlabKitchen x = byWay(2, 4, 3, 0, 2, 1);
        Check.dueRow("put(0)", Check.putRow(x, 0, 3), 102, 84, 108);
        Check.due("put(0) where the fewest stand last", byWay(2, 3, 2, 1).put(0), 54);
        Check.due("put(0) where the fewest stand first", byWay(2, 1, 2, 3).put(0), 6);
        Check.due("put(0) beside empty ones", byWay(2, 0, 0, 3).put(0), 66);
    }

    private static void wayFewestTies() {
        Check.due("put(0) of 3, 1, 2, 1 and 1", byWay(2, 3, 1, 2, 1, 1).put(0), 30);
        SlabKitchen x = byWay(2, 2, 2, 2, 2);
        Check.dueRow("put(0)", Check.putRow(x, 0, 5), 12, 36, 60, 84, 18);
    }

    private static void timeAtFirst() {
        Check.due("count(0)", new SlabKitchen().count(0), 0);
        Check.due("count(0) with kinds", Check.kitchen(2, 12).count(0), 0);
    }

    private static void timeGoesOn() {
        SlabKitchen x = Check.kitchen(6, 12);
        x.put(0);
        Check.due("count(0) behind the first put(0)", x.count(0), 1);
        x.put(0);
        Check.due("count(0) behind put(0) on the same shelf", x.count(0), 2);
        x.put(1);
        Check.due("count(0) behind put(1)", x.count(0), 3);
        x.take(0);
        Check.due("count(0) behind take(0)", x.count(0), 4);
        x.take(6);
        Check.due("count(0) behind the shelf's last bowl", x.count(0), 5);
        x.put(0);
        Check.due("count(0) behind put(0) on an empty shelf", x.count(0), 6);
        x.put(1);
        Check.due("count(0) behind the shelf's last place", x.count(0), 7);
        x.take(24);
        Check.due("count(0) behind take(24) of a full shelf", x.count(0), 8);
    }

    private static void timeStands() {
        SlabKitchen x = Check.kitchen(6);
        Check.open(x, 0, 2, 2, 0, 3);
        long time = x.count(0);
        Check.due("count(0)", time, 16 + 9);
        Check.due("pack(0)", x.pack(0), 2);
        Check.due("count(0) behind pack(0)", x.count(0), time);
        Check.due("reap(0)", x.reap(0), 2);
        Check.due("count(0) behind reap(0)", x.count(0), time);
        x.kind(12);
        x.setWay(1);
        Check.due("count(0) behind kind() and setWay()", x.count(0), time);
        x.next(0);
        x.fits(0);
        x.would(0, 9);
        x.gains(0);
        x.advise();
        x.mean();
        x.digest();
        Check.due("count(0) behind calls that only tell", x.count(0), time);
        Check.thrownBy(() -> x.put(2));
        Check.thrownBy(() -> x.take(287));
        Check.due("count(0) behind refused calls", x.count(0), time);
    }

    private static void emptyByTake() {
        SlabKitchen x = Check.kitchen(12);
        x.put(0);
        x.take(0);
        Check.due("shelf(0, 5)", x.shelf(0, 5), 2);
        Check.due("count(0)", x.count(0), 2);
        Check.putRow(x, 0, 3);
        Check.due("shelf(0, 5) with bowls again", x.shelf(0, 5), -1);
        x.take(0);
        Check.due("shelf(0, 5) with one bowl left", x.shelf(0, 5), -1);
        x.take(12);
        Check.due("shelf(0, 5) empty again", x.shelf(0, 5), 7);
        x.put(0);
        Check.due("shelf(0, 5) later", x.shelf(0, 5), 7);
    }

    private static void emptyByPacking() {
        SlabKitchen x = Check.kitchen(6);
        Check.open(x, 0, 2, 1, 0, 1);
        Check.due("count(0)", x.count(0), 28);
        Check.due("pack(0)", x.pack(0), 2);
        Check.dueRow("shelves",
                new int[] {x.shelf(0, 5), x.shelf(1, 5), x.shelf(2, 5), x.shelf(3, 5)},
                -1, 28, 25, 28);
        x.take(0);
        Check.due("pack(0) again", x.pack(0), 0);
        Check.dueRow("shelves later", new int[] {x.shelf(0, 5), x.shelf(1, 5), x.shelf(3, 5)},
                -1, 28, 28);
        Check.due("reap(1)", x.reap(1), 3);
    }

    // Terms: putting

    /** Beside the shelves in use there are a free one and an empty one with smaller numbers. */
    private static void putInUse() {
        for (int way = 0; way <= 2; way++) {
            SlabKitchen x = Check.kitchen(6);
            Check.open(x, 0, 4, 4, 3, 1);
            Check.takeAll(x, 0, 6, 12, 18);
            Check.due("reap(0)", x.reap(0), 1);
            Check.takeAll(x, 24, 30, 36, 42);
            x.setWay(way);
            Check.due("put(0) by way " + way, x.put(0), way == 2 ? 78 : 66);
        }
    }

    private static void putEmpty() {
        for (int way = 0; way <= 2; way++) {
            SlabKitchen x = Check.kitchen(6);
            Check.open(x, 0, 0, 4, 4, 4, 4, 4);
            x.reap(0);
            Check.takeAll(x, 96, 102, 108, 114, 48, 54, 60, 66, 72, 78, 84, 90);
            x.setWay(way);
            Check.dueRow("put(0) by way " + way, Check.putRow(x, 0, 13),
                    48, 54, 60, 66, 72, 78, 84, 90, 96, 102, 108, 114, 0);
        }
    }

    private static void putBesideOthers() {
        for (int way = 0; way <= 2; way++) {
            SlabKitchen x = Check.kitchen(6, 6);
            Check.open(x, 0, 1, 0, 3);
            x.setWay(way);
            Check.due("put(1) by way " + way, x.put(1), 72);
            x.take(72);
            Check.due("next(0) by way " + way, x.next(0), way == 1 ? 66 : 6);
            Check.putRow(x, 0, 4);
            Check.dueRow("bowls", Check.bowlsRow(x, 4), 4, 0, 4, 0);
            Check.due("put(0) on its empty shelf", x.put(0), 24);
        }
    }

    private static void putFree() {
        SlabKitchen x = Check.kitchen(12, 6);
        Check.putRow(x, 0, 20);
        Check.takeAll(x, 168, 180, 72, 84);
        Check.due("reap(0)", x.reap(0), 2);
        Check.dueRow("put(1)", Check.putRow(x, 1, 5), 72, 78, 84, 90, 168);
        Check.dueRow("put(0)", Check.putRow(x, 0, 4), 240, 252, 264, 276);
        Check.due("shelf(11, 0)", x.shelf(11, 0), 0);
        Check.due("count(2)", x.count(2), 0);
    }

    private static void putSmallestPlace() {
        SlabKitchen x = Check.kitchen(5);
        Check.putRow(x, 0, 8);
        Check.takeAll(x, 15, 5, 0);
        Check.dueRow("put(0)", Check.putRow(x, 0, 3), 0, 5, 15);
        Check.takeAll(x, 40);
        Check.due("put(0) on the last place", x.put(0), 40);
        Check.takeAll(x, 25, 30, 35, 40);
        Check.due("put(0) on an empty shelf", x.put(0), 25);
        Check.due("put(0) behind it", x.put(0), 30);
    }

    // Terms: packing

    private static void packFewerThanTwo() {
        SlabKitchen x = Check.kitchen(6);
        Check.due("pack(0) without shelves", x.pack(0), 0);
        Check.open(x, 0, 2);
        Check.due("pack(0) with one in use", x.pack(0), 0);
        Check.dueRow("bowls", Check.bowlsRow(x, 2), 2, 0);
        SlabKitchen y = Check.kitchen(6);
        Check.open(y, 0, 4, 0, 3, 4, 0);
        Check.due("pack(0) with one in use beside others", y.pack(0), 0);
        Check.dueRow("bowls", Check.bowlsRow(y, 5), 4, 0, 3, 4, 0);
        SlabKitchen z = Check.kitchen(6);
        Check.open(z, 0, 4, 0, 4, 0);
        Check.due("pack(0) of full and empty ones", z.pack(0), 0);
        Check.dueRow("bowls", Check.bowlsRow(z, 4), 4, 0, 4, 0);
        Check.due("count(8)", z.count(8), 0);
    }

    private static void packed(int size, int moves, int[] bowls, int... due) {
        SlabKitchen x = Check.kitchen(size);
        Check.open(x, 0, bowls);
        String told = "pack(0) of " + java.util.Arrays.toString(bowls) + " of size " + size;
        Check.due(told, x.pack(0), moves);
        Check.dueRow("bowls behind " + told, Check.bowlsRow(x, bowls.length), due);
        Check.due("count(8) behind " + told, x.count(8), moves);
        Check.due("those in use behind " + told, x.about(0, 5) < 2 ? 1 : 0, 1);
    }

    private static void packTwo() {
        packed(8, 1, new int[] {1, 1}, 2, 0);
        packed(12, 1, new int[] {1, 1}, 2, 0);
        packed(6, 1, new int[] {3, 3}, 4, 2);
        packed(6, 1, new int[] {2, 3}, 1, 4);
        packed(6, 1, new int[] {1, 3}, 0, 4);
        packed(6, 2, new int[] {2, 2}, 4, 0);
        packed(2, 1, new int[] {11, 11}, 12, 10);
        packed(2, 1, new int[] {1, 1}, 2, 0);
        packed(2, 6, new int[] {6, 6}, 12, 0);
    }

    private static void packTwelve() {
        packed(12, 6, new int[] {1, 1, 1, 1, 1, 1, 1, 1, 1, 1, 1, 1},
                2, 2, 2, 2, 2, 2, 0, 0, 0, 0, 0, 0);
        packed(8, 8, new int[] {1, 1, 1, 1, 1, 1, 1, 1, 1, 1, 1, 1},
                3, 3, 3, 3, 0, 0, 0, 0, 0, 0, 0, 0);
        packed(6, 9, new int[] {3, 3, 3, 3, 3, 3, 3, 3, 3, 3, 3, 3},
                4, 4, 4, 4, 4, 4, 4, 4, 4, 0, 0, 0);
    }

    private static void packGreatestPlace() {
        SlabKitchen x = Check.kitchen(3);
        Check.putRow(x, 0, 16);
        Check.takeAll(x, 21, 24, 33, 39, 42);
        Check.dueText("shelf 1", Check.standing(x, 1), "01101001");
        Check.due("pack(0)", x.pack(0), 1);
        Check.dueText("shelf 1 behind a move", Check.standing(x, 1), "01101000");
        Check.takeAll(x, 18, 21);
        Check.due("pack(0)", x.pack(0), 2);
        Check.dueText("shelf 1 behind more moves", Check.standing(x, 1), "01000000");
    }

    private static void packFromFewest() {
        packed(6, 1, new int[] {3, 1}, 4, 0);
        packed(6, 1, new int[] {1, 3}, 0, 4);
        packed(6, 1, new int[] {2, 1, 3}, 2, 0, 4);
        packed(6, 2, new int[] {4, 2, 1, 2, 0}, 4, 4, 0, 1, 0);
    }

    private static void packFromTies() {
        packed(6, 1, new int[] {1, 1}, 2, 0);
        packed(6, 2, new int[] {2, 2, 2}, 4, 2, 0);
        packed(6, 1, new int[] {1, 3, 1}, 1, 4, 0);
    }

    private static void packToMost() {
        packed(2, 6, new int[] {4, 6, 8, 2}, 0, 8, 12, 0);
        packed(3, 2, new int[] {2, 5, 6}, 0, 5, 8);
    }

    private static void packToTies() {
        packed(6, 1, new int[] {3, 3, 4}, 4, 2, 4);
        packed(6, 1, new int[] {1, 3, 4, 3}, 0, 4, 4, 3);
        packed(3, 2, new int[] {1, 6, 6, 1}, 0, 8, 6, 0);
    }

    private static void packSmallestPlace() {
        SlabKitchen x = Check.kitchen(3);
        Check.putRow(x, 0, 16);
        Check.takeAll(x, 0, 12, 21, 24, 27, 30, 33, 36, 39, 42);
        Check.dueText("shelf 0 of 5 and 1", Check.standing(x, 0), "01110110");
        Check.due("pack(0) of 5 and 1", x.pack(0), 1);
        Check.dueText("shelf 0 behind one move", Check.standing(x, 0), "11110110");
        SlabKitchen y = Check.kitchen(3);
        Check.putRow(y, 0, 16);
        Check.takeAll(y, 3, 9, 12, 21, 27, 30, 33, 36, 39, 45);
        Check.dueText("shelf 0 of 4 and 2", Check.standing(y, 0), "10100110");
        Check.due("pack(0) of 4 and 2", y.pack(0), 2);
        Check.dueText("shelf 0 behind two moves", Check.standing(y, 0), "11110110");
    }

    private static void packOneKind() {
        SlabKitchen x = Check.kitchen(6, 6);
        Check.openRows(x, new int[] {0, 1, 0, 1, 0}, 1, 2, 2, 3, 4);
        Check.due("pack(0)", x.pack(0), 1);
        Check.dueRow("bowls behind pack(0)", Check.bowlsRow(x, 5), 0, 2, 3, 3, 4);
        Check.due("pack(1)", x.pack(1), 1);
        Check.dueRow("bowls behind pack(1)", Check.bowlsRow(x, 5), 0, 1, 3, 4, 4);
        Check.due("count(8)", x.count(8), 2);
    }

    // Terms: exceptions

    private static SlabKitchen prepared(int state, int[][][] spots) {
        SlabKitchen x = new SlabKitchen();
        if (state > 0) {
            x = Check.kitchen(9, 7, 5, 12, 10);
            int[] kinds = {0, 1, 2, 3, 4, 0, 1, 2, 3, 4, 0, 1};
            int[] bowls = {2, 3, 4, 2, 2, 2, 3, 4, 2, 2, 2, 3};
            if (state > 1) {
                kinds = new int[] {0, 1, 2, 3, 4, 0, 1, 1};
                bowls = new int[] {1, 2, 0, 1, 2, 2, 1, 3};
            }
            spots[0] = Check.openRows(x, kinds, bowls);
            x.setWay(state);
        }
        return x;
    }

    private static void refuseAll(SlabKitchen x, int state) {
        int most = x.count(1) - 1;
        for (int kind : Check.beside(0, most)) {
            Check.thrownBy(() -> x.put(kind));
            Check.thrownBy(() -> x.pack(kind));
            Check.thrownBy(() -> x.about(kind, 0));
            Check.thrownBy(() -> x.next(kind));
            Check.thrownBy(() -> x.fits(kind));
            Check.thrownBy(() -> x.would(kind, 1));
            Check.thrownBy(() -> x.gains(kind));
        }
        for (int number : new int[] {-1, 1000, Integer.MIN_VALUE, Integer.MAX_VALUE}) {
            Check.thrownBy(() -> x.kind(number));
            Check.thrownBy(() -> x.setWay(number));
            Check.thrownBy(() -> x.take(number));
            Check.thrownBy(() -> x.reap(number));
            Check.thrownBy(() -> x.shelf(number, 0));
            Check.thrownBy(() -> x.shelf(0, number));
            Check.thrownBy(() -> x.place(number, 0));
            Check.thrownBy(() -> x.place(0, number));
            Check.thrownBy(() -> x.count(number));
            Check.thrownBy(() -> x.about(0, number));
            Check.thrownBy(() -> x.would(0, number));
        }
        for (int spot : new int[] {1, 22, 23, 30, 287}) {
            Check.thrownBy(() -> x.take(spot));
        }
        for (int kind = 0; state == 1 && kind < 5; kind++) {
            int full = kind;
            Check.thrownBy(() -> x.put(full));
        }
        if (state > 0) {
            Check.thrownBy(() -> x.kind(2));
        }
    }

    /** What is not told at once, as the next rim in a full kitchen, shows in the calls behind. */
    private static void refusedChangesNothing(int state) {
        int[][][] spots = {{}};
        SlabKitchen x = prepared(state, spots);
        SlabKitchen twin = prepared(state, spots);
        refuseAll(x, state);
        Check.alike("behind refused calls", x, twin);
        if (state == 0) {
            Check.due("the first kind(9)", x.kind(9), twin.kind(9));
        }
        for (int row = 0; row < spots[0].length; row++) {
            for (int place = 0; row < 7 && place < spots[0][row].length; place++) {
                int spot = spots[0][row][place];
                Check.due("place(" + spot + ", 2)", x.place(spot, 2), twin.place(spot, 2));
                if (twin.place(spot, 2) == 1) {
                    Check.due("take(" + spot + ")", x.take(spot), twin.take(spot));
                }
            }
        }
        Check.due("reap(1)", x.reap(1), twin.reap(1));
        Check.alike("behind reap(1)", x, twin);
        for (int i = 0; i < 15; i++) {
            int kind = i % twin.count(1);
            if (twin.next(kind) >= 0) {
                Check.due("put(" + kind + ")", x.put(kind), twin.put(kind));
            }
        }
        Check.alike("behind put()", x, twin);
    }

    private static void firstNamed() {
        SlabKitchen x = Check.kitchen(2, 2, 2, 2, 2);
        for (int size : Check.beside(2, 12)) {
            Check.refused(x, "a sixth kind(" + size + ")", Check.ARGUMENT, () -> x.kind(size));
        }
        Check.putRow(x, 0, 144);
        for (int kind : Check.beside(0, 4)) {
            Check.refused(x, "put(" + kind + ") into a full kitchen", Check.BOUNDS,
                    () -> x.put(kind));
            Check.refused(x, "would(" + kind + ", 0)", Check.BOUNDS, () -> x.would(kind, 0));
            Check.refused(x, "would(" + kind + ", 151)", Check.BOUNDS, () -> x.would(kind, 151));
        }
        for (int spot : Check.beside(0, 287)) {
            Check.refused(x, "take(" + spot + ")", Check.BOUNDS, () -> x.take(spot));
        }
    }
}
