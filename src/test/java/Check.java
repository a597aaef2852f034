/** What the project's own tests share: they tell every answer that is not the due one. */
final class Check {
    interface Call {
        void run();
    }

    static final Class<?> ARGUMENT = IllegalArgumentException.class;
    static final Class<?> STATE = IllegalStateException.class;
    static final Class<?> BOUNDS = IndexOutOfBoundsException.class;

    private static int wrong = 0;
    private static int looked = 0;

    private Check() {
    }

    static void due(String call, long got, long want) {
        looked++;
        if (got != want) {
            tellWrong(call + " answered " + got + ", due is " + want);
        }
    }

    static void dueMean(String call, double got, double want) {
        looked++;
        if (got != want) {
            tellWrong(call + " answered " + got + ", due is " + want);
        }
    }

    static void dueRow(String call, int[] got, int... want) {
        looked++;
        if (!java.util.Arrays.equals(got, want)) {
            tellWrong(call + " answered " + java.util.Arrays.toString(got)
                    + ", due is " + java.util.Arrays.toString(want));
        }
    }

    /** The call throws just this class, not one below it, and changes nothing. */
    static void refused(SlabKitchen x, String call, Class<?> want, Call made) {
        long before = x.digest();
        Class<?> got = thrownBy(made);
        looked++;
        if (got != want) {
            tellWrong(call + " threw " + got + ", due is " + want);
        }
        due("digest() behind the refused " + call, x.digest(), before);
    }

    static Class<?> thrownBy(Call made) {
        try {
            made.run();
            return null;
        } catch (RuntimeException e) {
            return e.getClass();
        }
    }

    static void tellWrong(String text) {
        wrong++;
        if (wrong <= 50) {
            System.out.println(text);
        }
    }

    static void end() {
        System.out.println(looked + " answers looked at, " + wrong + " not as due");
        if (wrong != 0 || looked == 0) {
            System.exit(1);
        }
    }

    static int[] shelfRow(SlabKitchen x, int shelf) {
        int[] row = new int[6];
        for (int what = 0; what < row.length; what++) {
            row[what] = x.shelf(shelf, what);
        }
        return row;
    }

    static int[] aboutRow(SlabKitchen x, int kind) {
        int[] row = new int[9];
        for (int what = 0; what < row.length; what++) {
            row[what] = x.about(kind, what);
        }
        return row;
    }

    static int[] placeRow(SlabKitchen x, int spot) {
        int[] row = new int[4];
        for (int what = 0; what < row.length; what++) {
            row[what] = x.place(spot, what);
        }
        return row;
    }

    static int[] countRow(SlabKitchen x) {
        int[] row = new int[10];
        for (int what = 0; what < row.length; what++) {
            row[what] = x.count(what);
        }
        return row;
    }

    /** Puts bowls, one behind the other, and tells their spots. */
    static int[] putRow(SlabKitchen x, int kind, int many) {
        int[] row = new int[many];
        for (int i = 0; i < many; i++) {
            row[i] = x.put(kind);
        }
        return row;
    }

    static void takeAll(SlabKitchen x, int... spots) {
        for (int spot : spots) {
            x.take(spot);
        }
    }
}
