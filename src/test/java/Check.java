/** What the project's own tests share: they tell every answer that is not the due one. */
final class Check {
    interface Call {
        void run();
    }

    interface KindCall {
        void run(SlabKitchen x, int kind);
    }

    static final Class<?> ARGUMENT = IllegalArgumentException.class;
    static final Class<?> STATE = IllegalStateException.class;
    static final Class<?> BOUNDS = IndexOutOfBoundsException.class;

    private static final int[] FAR = {65536, Integer.MIN_VALUE, Integer.MAX_VALUE};

    private static final int TOLD_AT_ONCE = 20;

    private static int wrong = 0;
    private static int told = 0;
    private static int looked = 0;
    private static String held = "";

    private Check() {
    }

    /**
     * The test of one sentence of the document: what is wrong is told with the sentence, and
     * whatever the program throws there ends this test alone.
     */
    static void sentence(String words, Call test) {
        int before = looked;
        told = 0;
        held = "\"" + words + "\": ";
        Class<?> thrown = thrownBy(test);
        if (thrown != null) {
            tellWrong("the test ended with " + thrown);
        }
        if (looked == before) {
            tellWrong("the test looked at nothing");
        }
        held = "";
        told = 0;
    }

    static void due(String call, long got, long want) {
        looked++;
        if (got != want) {
            tellWrong(call + " answered " + got + ", due is " + want);
        }
    }

    static void dueText(String call, String got, String want) {
        looked++;
        if (!got.equals(want)) {
            tellWrong(call + " answered " + got + ", due is " + want);
        }
    }

    static void dueMean(String call, double got, double want) {
        looked++;
        if (got != want) {
            tellWrong(call + " answered " + got + ", due is " + want);
        }
    }

    static void dueRow(String call, int[] got, int... want) {
        looked++;
        if (!java.util.Arrays.equals(got, want)) {
            tellWrong(call + " answered " + java.util.Arrays.toString(got)
                    + ", due is " + java.util.Arrays.toString(want));
        }
    }

    /** The call throws just this class, not one below it, and changes nothing. */
    static void refused(SlabKitchen x, String call, Class<?> want, Call made) {
        long before = x.digest();
        Class<?> got = thrownBy(made);
        looked++;
        if (got != want) {
            tellWrong(call + " threw " + got + ", due is " + want);
        }
        due("digest() behind the refused " + call, x.digest(), before);
    }

    static void taken(String call, Call made) {
        looked++;
        Class<?> got = thrownBy(made);
        if (got != null) {
            tellWrong(call + " threw " + got + ", due is an answer");
        }
    }

    /** The numbers next to a range on both sides, and some far from it. */
    static int[] beside(int least, int most) {
        return new int[] {least - 1, most + 1, -most - 1, FAR[0], FAR[1], FAR[2]};
    }

    /** With 0 to 5 kinds made, the call is answered for just these. */
    static void kindsThereAlone(String call, KindCall made) {
        for (int there = 0; there <= 5; there++) {
            SlabKitchen x = new SlabKitchen();
            for (int kind = 0; kind < there; kind++) {
                x.kind(12 - kind);
            }
            for (int kind : beside(0, there - 1)) {
                refused(x, call + " of kind " + kind + " with " + there + " kinds", BOUNDS,
                        () -> made.run(x, kind));
            }
            for (int kind = 0; kind < there; kind++) {
                int known = kind;
                taken(call + " of kind " + kind + " with " + there + " kinds",
                        () -> made.run(x, known));
            }
        }
    }

    static Class<?> thrownBy(Call made) {
        try {
            made.run();
            return null;
        } catch (RuntimeException e) {
            return e.getClass();
        }
    }

    static void tellWrong(String text) {
        wrong++;
        told++;
        if (told <= TOLD_AT_ONCE) {
            System.out.println(held + text);
        }
    }

    static void end() {
        System.out.println(looked + " answers looked at, " + wrong + " not as due");
        if (wrong != 0 || looked == 0) {
            System.exit(1);
        }
    }

    static int[] shelfRow(SlabKitchen x, int shelf) {
        int[] row = new int[6];
        for (int what = 0; what < row.length; what++) {
            row[what] = x.shelf(shelf, what);
        }
        return row;
    }

    static int[] aboutRow(SlabKitchen x, int kind) {
        int[] row = new int[9];
        for (int what = 0; what < row.length; what++) {
            row[what] = x.about(kind, what);
        }
        return row;
    }

    static int[] placeRow(SlabKitchen x, int spot) {
        int[] row = new int[4];
        for (int what = 0; what < row.length; what++) {
            row[what] = x.place(spot, what);
        }
        return row;
    }

    static int[] countRow(SlabKitchen x) {
        int[] row = new int[10];
        for (int what = 0; what < row.length; what++) {
            row[what] = x.count(what);
        }
        return row;
    }

    static SlabKitchen kitchen(int... sizes) {
        SlabKitchen x = new SlabKitchen();
        for (int size : sizes) {
            x.kind(size);
        }
        return x;
    }

    /** Opens a shelf for each of the bowls' numbers; so many stand on its first places then. */
    static int[][] open(SlabKitchen x, int kind, int... bowls) {
        int[] kinds = new int[bowls.length];
        java.util.Arrays.fill(kinds, kind);
        return openRows(x, kinds, bowls);
    }

    /** The same with a kind for each shelf; tells all places' spots. No kind may have gaps. */
    static int[][] openRows(SlabKitchen x, int[] kinds, int... bowls) {
        int[][] spots = new int[kinds.length][];
        for (int row = 0; row < kinds.length; row++) {
            spots[row] = putRow(x, kinds[row], x.about(kinds[row], 1));
        }
        for (int row = 0; row < kinds.length; row++) {
            for (int place = bowls[row]; place < spots[row].length; place++) {
                x.take(spots[row][place]);
            }
        }
        return spots;
    }

    /** How many bowls stand on each of the first shelves. */
    static int[] bowlsRow(SlabKitchen x, int shelves) {
        int[] row = new int[shelves];
        for (int shelf = 0; shelf < shelves; shelf++) {
            row[shelf] = x.shelf(shelf, 1);
        }
        return row;
    }

    /** A 1 for each place of a shelf with a bowl, a 0 for each without. */
    static String standing(SlabKitchen x, int shelf) {
        StringBuilder text = new StringBuilder();
        int size = x.about(x.shelf(shelf, 0), 0);
        int first = 24 * shelf + x.shelf(shelf, 2);
        int places = x.shelf(shelf, 3);
        for (int place = 0; place < places; place++) {
            text.append(x.place(first + place * size, 2));
        }
        return text.toString();
    }

    /** Puts bowls, one behind the other, and tells their spots. */
    static int[] putRow(SlabKitchen x, int kind, int many) {
        int[] row = new int[many];
        for (int i = 0; i < many; i++) {
            row[i] = x.put(kind);
        }
        return row;
    }

    /** The checksum's step for each of the numbers. */
    static long mixed(long start, int... numbers) {
        long d = start;
        for (int x : numbers) {
            d = d * 31 + x;
        }
        return d;
    }

    /** Both kitchens tell the same. */
    static void alike(String told, SlabKitchen x, SlabKitchen twin) {
        due(told + ": digest()", x.digest(), twin.digest());
        for (int kind = 0; kind < twin.count(1); kind++) {
            due(told + ": next(" + kind + ")", x.next(kind), twin.next(kind));
            due(told + ": fits(" + kind + ")", x.fits(kind), twin.fits(kind));
        }
    }

    static void takeAll(SlabKitchen x, int... spots) {
        for (int spot : spots) {
            x.take(spot);
        }
    }
}
