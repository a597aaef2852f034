/**
 * Long runs of calls on SlabKitchen and on a plain model side by side. The model keeps single
 * bowls and finds what would be by doing it on a copy; it shares no code with the program.
 */
public final class PlainModelTest {
    private static final int RUNS = 3000;
    private static final int CALLS = 512;
    private static final int[] ODD = {-1, Integer.MIN_VALUE, Integer.MAX_VALUE, 1000, 24, 288};

    private long state;

    public static void main(String[] args) {
        for (int run = 0; run < RUNS; run++) {
            new PlainModelTest(run).play(run);
        }
        Check.end();
    }

    private PlainModelTest(long seed) {
        state = seed * 7919 + 17;
    }

    /** Numbers from a fixed rule: each run is the same every time. */
    private int below(int bound) {
        state = state * 6364136223846793005L + 1442695040888963407L;
        return (int) ((state >>> 33) % bound);
    }

    private void play(int run) {
        SlabKitchen x = new SlabKitchen();
        Plain model = new Plain();
        int takesOfTen = 2 + run % 4;
        boolean greedy = run % 3 == 0;
        for (int call = 0; call < CALLS; call++) {
            int[] asked = choose(model, takesOfTen, greedy && call < 200);
            String told = run + "." + call + " " + java.util.Arrays.toString(asked);
            if (!same(told, x, model, asked)) {
                return;
            }
        }
    }

    private boolean same(String told, SlabKitchen x, Plain model, int[] asked) {
        String got;
        try {
            got = answer(x, asked);
        } catch (RuntimeException e) {
            got = e.getClass().getSimpleName();
        }
        String want = model.answer(asked);
        Check.due(told + " got " + got + ", due is " + want, got.equals(want) ? 1 : 0, 1);
        return got.equals(want);
    }

    private static String answer(SlabKitchen x, int[] a) {
        switch (a[0]) {
            case 0: return "" + x.kind(a[1]);
            case 1: return "" + x.setWay(a[1]);
            case 2: return "" + x.put(a[1]);
            case 3: return "" + x.take(a[1]);
            case 4: return "" + x.reap(a[1]);
            case 5: return "" + x.pack(a[1]);
            case 6: return "" + x.shelf(a[1], a[2]);
            case 7: return "" + x.about(a[1], a[2]);
            case 8: return "" + x.place(a[1], a[2]);
            case 9: return "" + x.count(a[1]);
            case 10: return "" + x.next(a[1]);
            case 11: return "" + x.fits(a[1]);
            case 12: return "" + x.would(a[1], a[2]);
            case 13: return "" + x.gains(a[1]);
            case 14: return "" + x.advise();
            case 15: return "" + x.mean();
            default: return "" + x.digest();
        }
    }

    private int[] choose(Plain model, int takesOfTen, boolean filling) {
        int[] asked = {16, 0, 0};
        int die = below(100);
        if (die < 50) {
            boolean take = !filling && below(10) < takesOfTen;
            asked[0] = take ? 3 : 2;
        } else if (die < 97) {
            asked[0] = below(16);
        }
        asked[1] = first(model, asked[0]);
        asked[2] = second(asked[0]);
        if (below(40) == 0) {
            asked[1 + below(2)] = ODD[below(ODD.length)];
        }
        return asked;
    }

    private int first(Plain model, int call) {
        switch (call) {
            case 0: return 1 + below(13);
            case 1: return below(4) - below(2);
            case 3: return model.someBowl(below(288), below(20) == 0);
            case 4: return below(4) == 0 ? below(101) : below(12);
            case 6: return below(13);
            case 8: return below(289);
            case 9: return below(11);
            default: return below(50) == 0 ? below(6) : below(Math.max(1, model.kinds.size()));
        }
    }

    private int second(int call) {
        switch (call) {
            case 6: return below(7);
            case 7: return below(10);
            case 8: return below(5);
            case 12: return below(2) == 0 ? below(152) : 1 + below(20);
            default: return 0;
        }
    }

    private static final class Row {
        int kind = -1;
        int rim;
        int since = -1;
        java.util.TreeSet<Integer> bowls = new java.util.TreeSet<>();
    }

    private static final class Plain {
        java.util.List<Integer> kinds = new java.util.ArrayList<>();
        int[] ever = new int[5];
        Row[] rows = new Row[12];
        int way;
        int time;
        int puts;
        int moves;

        Plain() {
            for (int i = 0; i < 12; i++) {
                rows[i] = new Row();
            }
        }

        Plain copy() {
            Plain other = new Plain();
            other.kinds.addAll(kinds);
            other.ever = ever.clone();
            for (int i = 0; i < 12; i++) {
                other.rows[i].kind = rows[i].kind;
                other.rows[i].rim = rows[i].rim;
                other.rows[i].since = rows[i].since;
                other.rows[i].bowls.addAll(rows[i].bowls);
            }
            other.way = way;
            other.time = time;
            other.puts = puts;
            other.moves = moves;
            return other;
        }

        int places(int kind) {
            return 24 / kinds.get(kind);
        }

        boolean inUse(int i) {
            Row row = rows[i];
            return row.kind >= 0 && row.bowls.size() > 0 && row.bowls.size() < places(row.kind);
        }

        java.util.List<Integer> inUseOf(int kind) {
            java.util.List<Integer> list = new java.util.ArrayList<>();
            for (int i = 0; i < 12; i++) {
                if (rows[i].kind == kind && inUse(i)) {
                    list.add(i);
                }
            }
            return list;
        }

        int gap(int i) {
            int place = 0;
            while (rows[i].bowls.contains(place)) {
                place++;
            }
            return rows[i].kind >= 0 && place < places(rows[i].kind) ? place : -1;
        }

        int begin(int i, int place) {
            return 24 * i + rows[i].rim + place * kinds.get(rows[i].kind);
        }

        int someBowl(int spot, boolean any) {
            for (int step = 0; step < 288 && !any; step++) {
                int at = (spot + step) % 288;
                if (place(at, 2) == 1 && place(at, 3) == at) {
                    return at;
                }
            }
            return spot;
        }

        String answer(int[] a) {
            boolean noKind = a[1] < 0 || a[1] >= kinds.size();
            switch (a[0]) {
                case 0:
                    if (a[1] < 2 || a[1] > 12) {
                        return "IllegalArgumentException";
                    }
                    if (kinds.size() == 5) {
                        return "IllegalStateException";
                    }
                    kinds.add(a[1]);
                    return "" + (kinds.size() - 1);
                case 1:
                    if (a[1] < 0 || a[1] > 2) {
                        return "IndexOutOfBoundsException";
                    }
                    int before = way;
                    way = a[1];
                    return "" + before;
                case 3:
                    if (a[1] < 0 || a[1] > 287) {
                        return "IndexOutOfBoundsException";
                    }
                    return take(a[1]);
                case 4:
                    return a[1] < 0 || a[1] > 99 ? "IllegalArgumentException" : "" + reap(a[1]);
                case 6:
                    return a[1] < 0 || a[1] > 11 || a[2] < 0 || a[2] > 5
                            ? "IndexOutOfBoundsException" : "" + shelf(a[1], a[2]);
                case 7:
                    return noKind || a[2] < 0 || a[2] > 8
                            ? "IndexOutOfBoundsException" : "" + about(a[1], a[2]);
                case 8:
                    return a[1] < 0 || a[1] > 287 || a[2] < 0 || a[2] > 3
                            ? "IndexOutOfBoundsException" : "" + place(a[1], a[2]);
                case 9:
                    return a[1] < 0 || a[1] > 9 ? "IndexOutOfBoundsException" : "" + count(a[1]);
                case 14:
                    return "" + advise();
                case 15:
                    return "" + mean();
                case 16:
                    return "" + digest();
                default:
                    return noKind ? "IndexOutOfBoundsException" : answerOfKind(a[0], a[1], a[2]);
            }
        }

        String answerOfKind(int call, int kind, int many) {
            switch (call) {
                case 2:
                    int spot = put(kind);
                    return spot < 0 ? "IllegalStateException" : "" + spot;
                case 5: return "" + pack(kind);
                case 10: return "" + copy().put(kind);
                case 11: return "" + fits(kind);
                case 12:
                    return many < 1 || many > 150
                            ? "IllegalArgumentException" : "" + would(kind, many);
                default: return "" + gains(kind);
            }
        }

        int put(int kind) {
            int target = -1;
            for (int i : inUseOf(kind)) {
                int size = rows[i].bowls.size();
                if (target < 0 || way == 1 && size > rows[target].bowls.size()
                        || way == 2 && size < rows[target].bowls.size()) {
                    target = i;
                }
            }
            for (int i = 11; i >= 0 && inUseOf(kind).isEmpty(); i--) {
                if (rows[i].kind == kind && rows[i].bowls.isEmpty()) {
                    target = i;
                }
            }
            if (target < 0) {
                for (int i = 11; i >= 0; i--) {
                    target = rows[i].kind < 0 ? i : target;
                }
                if (target < 0) {
                    return -1;
                }
                rows[target].kind = kind;
                rows[target].rim = ever[kind] % (24 - places(kind) * kinds.get(kind) + 1);
                ever[kind]++;
            }
            int place = gap(target);
            rows[target].bowls.add(place);
            rows[target].since = -1;
            time++;
            puts++;
            return begin(target, place);
        }

        String take(int spot) {
            Row row = rows[spot / 24];
            for (int place : new java.util.ArrayList<>(row.bowls)) {
                if (begin(spot / 24, place) == spot) {
                    row.bowls.remove(place);
                    time++;
                    row.since = row.bowls.isEmpty() ? time : -1;
                    return "" + row.bowls.size();
                }
            }
            return "IllegalArgumentException";
        }

        int reap(int age) {
            int reaped = 0;
            for (int i = 0; i < 12; i++) {
                if (rows[i].kind >= 0 && rows[i].bowls.isEmpty() && time - rows[i].since >= age) {
                    rows[i] = new Row();
                    reaped++;
                }
            }
            return reaped;
        }

        int pack(int kind) {
            int moved = 0;
            while (inUseOf(kind).size() >= 2) {
                java.util.List<Integer> list = inUseOf(kind);
                int from = list.get(0);
                for (int i : list) {
                    from = rows[i].bowls.size() <= rows[from].bowls.size() ? i : from;
                }
                list.remove(Integer.valueOf(from));
                int to = list.get(0);
                for (int i : list) {
                    to = rows[i].bowls.size() > rows[to].bowls.size() ? i : to;
                }
                rows[to].bowls.add(gap(to));
                rows[from].bowls.pollLast();
                rows[from].since = rows[from].bowls.isEmpty() ? time : -1;
                moved++;
            }
            moves += moved;
            return moved;
        }

        int shelf(int i, int what) {
            Row row = rows[i];
            switch (what) {
                case 0: return row.kind;
                case 1: return row.bowls.size();
                case 2: return row.rim;
                case 3: return row.kind < 0 ? 0 : places(row.kind);
                case 4: return gap(i);
                default: return row.since;
            }
        }

        int about(int kind, int what) {
            int[] told = new int[9];
            told[0] = kinds.get(kind);
            told[1] = places(kind);
            told[2] = 24 % kinds.get(kind);
            for (Row row : rows) {
                if (row.kind == kind) {
                    told[3]++;
                    told[row.bowls.size() == places(kind) ? 4 : row.bowls.isEmpty() ? 6 : 5]++;
                    told[7] += row.bowls.size();
                }
            }
            told[8] = ever[kind];
            return told[what];
        }

        int place(int spot, int what) {
            int i = spot / 24;
            if (rows[i].kind < 0) {
                return -1;
            }
            for (int place = 0; place < places(rows[i].kind); place++) {
                int begin = begin(i, place);
                if (spot >= begin && spot < begin + kinds.get(rows[i].kind)) {
                    int stands = rows[i].bowls.contains(place) ? 1 : 0;
                    return new int[] {rows[i].kind, place, stands, begin}[what];
                }
            }
            return -1;
        }

        int count(int what) {
            int[] told = {time, kinds.size(), 0, 0, 0, 0, 0, puts, moves, way};
            for (int i = 0; i < 12; i++) {
                told[2] += rows[i].kind < 0 ? 1 : 0;
                told[3] += rows[i].bowls.size();
            }
            for (int spot = 0; spot < 288; spot++) {
                boolean free = rows[spot / 24].kind < 0;
                boolean under = place(spot, 2) == 1;
                told[4] += under ? 1 : 0;
                told[5] += !free && !under ? 1 : 0;
                told[6] += !free && place(spot, 0) < 0 ? 1 : 0;
            }
            return told[what];
        }

        int fits(int kind) {
            Plain other = copy();
            int many = 0;
            while (other.put(kind) >= 0) {
                many++;
            }
            return many;
        }

        int would(int kind, int many) {
            Plain other = copy();
            for (int i = 0; i < many; i++) {
                if (other.put(kind) < 0) {
                    return -1;
                }
            }
            return other.ever[kind] - ever[kind];
        }

        int gains(int kind) {
            Plain other = copy();
            other.pack(kind);
            return other.about(kind, 6) - about(kind, 6);
        }

        int advise() {
            int best = -1;
            for (int kind = 0; kind < kinds.size(); kind++) {
                best = best < 0 || gains(kind) > gains(best) ? kind : best;
            }
            return best;
        }

        double mean() {
            int shelves = 0;
            int bowls = 0;
            for (Row row : rows) {
                shelves += row.kind < 0 ? 0 : 1;
                bowls += row.bowls.size();
            }
            return shelves == 0 ? 0 : (double) bowls / shelves;
        }

        long digest() {
            long d = 1733;
            for (int what = 0; what < 10; what++) {
                d = d * 31 + count(what);
            }
            for (int i = 0; i < 12; i++) {
                for (int what = 0; what < 6; what++) {
                    d = d * 31 + shelf(i, what);
                }
                for (int place = 0; place < shelf(i, 3); place++) {
                    d = d * 31 + (rows[i].bowls.contains(place) ? 1 : 0);
                }
            }
            for (int kind = 0; kind < kinds.size(); kind++) {
                for (int what = 0; what < 9; what++) {
                    d = d * 31 + about(kind, what);
                }
                d = d * 31 + copy().put(kind);
            }
            return d;
        }
    }
}
