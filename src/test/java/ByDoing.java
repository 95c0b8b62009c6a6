import java.util.ArrayList;
import java.util.List;

/**
 * FITS, ASK, GAME and MOVE once more, by PASSES that are really done, each row of them on an object of its own:
 * so nothing that the class does to look ahead is trusted.
 */
final class ByDoing {
    private static final String[] GREENS = {
        // what is undone is not the last, and lies where others must keep their order
        Check.ring(5) + "pass 0 over;pass 2 under;",
        Check.ring(5) + "pass 0 over;pass 2 over;pass 4 under;",
        // ribbons that run short in the midst of a row
        "long 2;" + Check.ring(4) + "pass 0 over;pass 2 under;pass 0 over;",
        "long 1;" + Check.ring(3),
        // one below the most PASSES
        "long 40;" + Check.ring(3) + "pass 0 over;pass 1 over;pass 2 over;".repeat(13),
        // what shows in gap 1 hides by its undoing
        Check.ring(3) + "pass 0 over;pass 0 over;pass 1 over;pass 1 over;",
        // few colours
        "dancer a colour 1;dancer b colour 1;dancer c colour 4;dancer d colour 1;pass 0 over;pass 2 over;",
        "long 2;dancer a colour 2;dancer b colour 3;pass 0 under;",
        "dancer a colour 0;dancer b colour 1;dancer c colour 1;pass 1 over;",
        Check.ring(2),
        Check.ring(1)
    };

    private final Check check;
    private final String green;
    /** LONG once the PASSES of the text are done: if it is less than they took, what is undone can't be done again. */
    private final int longThen;
    private final int gaps;

    private ByDoing(Check check, String green, int longThen) {
        this.check = check;
        this.green = green;
        this.longThen = longThen;
        this.gaps = Check.of(green).told(1);
    }

    static void seen(Check check) {
        for (String green : GREENS) {
            new ByDoing(check, green, Check.of(green).told(4)).allSeen();
            new ByDoing(check, green, 1).allSeen();
        }
    }

    static void games(Check check) {
        for (String green : GREENS) {
            new ByDoing(check, green, Check.of(green).told(4)).allGames();
            new ByDoing(check, green, 1).allGames();
        }
    }

    private MaypoleGreen begun() {
        MaypoleGreen x = Check.of(green);
        x.rule(4, longThen);
        return x;
    }

    /** An object behind these PASSES, null if one of them can't be; NONE is no PASS. */
    private MaypoleGreen behind(List<Integer> row) {
        MaypoleGreen x = begun();
        for (int code : row) {
            if (code != MaypoleGreen.NONE && x.pass(code / 2, code % 2 == 1) < 0) {
                return null;
            }
        }
        return x;
    }

    private static List<Integer> with(List<Integer> row, int code) {
        List<Integer> longer = new ArrayList<>(row);
        longer.add(code);
        return longer;
    }

    // ---- what is seen

    /** All rows of k that can be, in their order. */
    private List<List<Integer>> rows(int k) {
        List<List<Integer>> all = new ArrayList<>();
        all.add(List.of());
        for (int j = 0; j < k; j++) {
            List<List<Integer>> longer = new ArrayList<>();
            for (List<Integer> row : all) {
                for (int code = 0; code < 2 * gaps; code++) {
                    if (behind(with(row, code)) != null) {
                        longer.add(with(row, code));
                    }
                }
            }
            all = longer;
        }
        return all;
    }

    private int[] shown(List<Integer> row) {
        MaypoleGreen x = behind(row);
        int[] all = new int[gaps];
        for (int gap = 0; gap < gaps; gap++) {
            int colour = x.shows(gap);
            all[gap] = colour < 0 ? 6 : colour;
        }
        return all;
    }

    private void allSeen() {
        for (int k = 0; k <= 3; k++) {
            List<List<Integer>> rows = rows(k);
            List<int[]> shown = new ArrayList<>();
            for (List<Integer> row : rows) {
                shown.add(shown(row));
            }
            fit(k, rows, shown);
            for (int gap = 0; gap < gaps; gap++) {
                for (int colour = 0; colour <= 6; colour++) {
                    fit(k, rows, shown, gap, colour);
                    fit(k, rows, shown, gap, colour, (gap + 1) % gaps, 6);
                }
            }
        }
    }

    private static boolean fits(int[] shown, int[] twos) {
        for (int k = 0; k < twos.length; k += 2) {
            if (shown[twos[k]] != twos[k + 1]) {
                return false;
            }
        }
        return true;
    }

    private void fit(int k, List<List<Integer>> rows, List<int[]> shown, int... twos) {
        int many = 0;
        List<Integer> first = null;
        int[][] parted = new int[gaps][7];
        for (int row = 0; row < rows.size(); row++) {
            if (fits(shown.get(row), twos)) {
                many++;
                first = first == null ? rows.get(row) : first;
                for (int gap = 0; gap < gaps; gap++) {
                    parted[gap][shown.get(row)[gap]]++;
                }
            }
        }
        String asked = green + java.util.Arrays.toString(twos) + " by " + k;
        MaypoleGreen x = begun();
        Check.fill(x, 0, twos);
        // the row first: nothing that fits() left behind may be needed for it
        for (int place = k - 1; place >= 0; place--) {
            check.due(asked + ": fitsAt", x.fitsAt(0, twos.length / 2, k, place), first == null ? -1 : first.get(place));
        }
        check.due(asked + ": ask", x.ask(0, twos.length / 2, k), bestGap(parted, many));
        check.due(asked + ": fits", x.fits(0, twos.length / 2, k), many);
    }

    private static int bestGap(int[][] parted, int many) {
        int best = MaypoleGreen.NONE;
        int fewest = many;
        for (int gap = 0; gap < parted.length; gap++) {
            int most = java.util.Arrays.stream(parted[gap]).max().getAsInt();
            if (most < fewest) {
                fewest = most;
                best = gap;
            }
        }
        return best;
    }

    // ---- games

    private int worth(List<Integer> done, int turns, boolean caller) {
        if (turns == 0) {
            return behind(done).told(9);
        }
        int best = worth(with(done, MaypoleGreen.NONE), turns - 1, !caller);
        for (int code = 0; code < 2 * gaps; code++) {
            if (behind(with(done, code)) != null) {
                int other = worth(with(done, code), turns - 1, !caller);
                best = caller ? Math.max(best, other) : Math.min(best, other);
            }
        }
        return best;
    }

    private void allGames() {
        for (int n = 0; n <= 3; n++) {
            MaypoleGreen x = begun();
            int due = worth(List.of(), n, true);
            int move = MaypoleGreen.NONE;
            for (int code = 2 * gaps - 1; code >= 0 && n > 0; code--) {
                if (behind(List.of(code)) != null && worth(List.of(code), n - 1, false) == due) {
                    move = code;
                }
            }
            check.due(green + ": moveOf(" + n + ")", x.moveOf(n), move);
            check.due(green + ": game(" + n + ")", x.game(n), due);
        }
    }
}
