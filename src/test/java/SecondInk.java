import java.util.ArrayDeque;
import java.util.ArrayList;
import java.util.Comparator;
import java.util.List;

/** An ink of the second reading. Only its table of ranks is kept, with the screen and spot that it is for. */
final class SecondInk {
    /** More times of U and V than a nearest point is ever away from a pixel. */
    private static final int REACH = 30;
    private static final int[][] SIDES = {{1, 0}, {0, 1}, {-1, 0}, {0, -1}};

    final int a;
    final int b;
    final int c;
    final int d;
    int spot;
    int tone = 50;
    int x;
    int y;
    private int[] brick;
    private List<int[]> homes;
    private int homesFor = -1;
    private int[][] ranks;

    SecondInk(int a, int b, int c, int d) {
        this.a = a;
        this.b = b;
        this.c = c;
        this.d = d;
    }

    int signedCell() {
        return a * d - b * c;
    }

    int cell() {
        return Math.abs(signedCell());
    }

    int level() {
        return (cell() * tone + 50) / 100;
    }

    /** Whether a point is m U + n V for whole m and n (OFFSET aside). */
    boolean isOfGrid(long px, long py) {
        return (px * d - py * c) % signedCell() == 0 && (py * a - px * b) % signedCell() == 0;
    }

    /** WIDE, HIGH and SLANT by trying all. */
    int[] brick() {
        if (brick == null) {
            int wide = 1;
            while (!isOfGrid(wide, 0)) {
                wide++;
            }
            for (int high = 1; brick == null; high++) {
                for (int slant = 0; slant < wide; slant++) {
                    if (isOfGrid(slant, high)) {
                        brick = new int[] {wide, high, slant};
                    }
                }
            }
        }
        return brick;
    }

    int[] home(int px, int py) {
        for (int hx = 0; hx < brick()[0]; hx++) {
            for (int hy = 0; hy < brick()[1]; hy++) {
                if (isOfGrid(px - x - hx, py - y - hy)) {
                    return new int[] {hx, hy};
                }
            }
        }
        throw new AssertionError("no home");
    }

    /** SPOT of a pixel with the OFFSET taken away already. */
    int spotAt(int px, int py) {
        int midX = 2 * px + 1;
        int midY = 2 * py + 1;
        if (spot == 2) {
            int left = Math.floorMod(midX * b - midY * a, 2 * cell());
            return Math.min(left, 2 * cell() - left);
        }
        int best = Integer.MAX_VALUE;
        // m U + n V with m and n about those at which the pixel itself lies: U and V are 17 long at most
        int m = Math.floorDiv(px * d - py * c, signedCell());
        int n = Math.floorDiv(py * a - px * b, signedCell());
        for (int i = m - REACH; i <= m + REACH; i++) {
            for (int j = n - REACH; j <= n + REACH; j++) {
                int farX = Math.abs(midX - 2 * (i * a + j * c));
                int farY = Math.abs(midY - 2 * (i * b + j * d));
                best = Math.min(best, spot == 0 ? farX * farX + farY * farY : farX + farY);
            }
        }
        return best;
    }

    List<int[]> homesByRank() {
        if (homes == null || homesFor != spot) {
            homes = new ArrayList<>();
            for (int hy = 0; hy < brick()[1]; hy++) {
                for (int hx = 0; hx < brick()[0]; hx++) {
                    homes.add(new int[] {hx, hy, spotAt(hx, hy)});
                }
            }
            homes.sort(Comparator.<int[]>comparingInt(h -> h[2]).thenComparingInt(h -> h[1]).thenComparingInt(h -> h[0]));
            homes.replaceAll(h -> new int[] {h[0], h[1]});
            homesFor = spot;
            ranks = new int[cell()][cell()];
        }
        return homes;
    }

    int rank(int px, int py) {
        return rankFrom(px - x, py - y);
    }

    /** CELL times any whole pair is of the GRID, so a table of CELL by CELL pixels has all. */
    private int rankFrom(int px, int py) {
        List<int[]> all = homesByRank();
        int row = Math.floorMod(py, cell());
        int column = Math.floorMod(px, cell());
        for (int i = 0; i < all.size() && ranks[row][column] == 0; i++) {
            if (isOfGrid(column - all.get(i)[0], row - all.get(i)[1])) {
                ranks[row][column] = i + 1;
            }
        }
        return ranks[row][column] - 1;
    }

    boolean isInked(int px, int py) {
        return rank(px, py) < level();
    }

    int lots(int level) {
        int[] lotOf = new int[cell()];
        int lots = 0;
        for (int rank = 0; rank < level; rank++) {
            if (lotOf[rank] == 0) {
                lots++;
                flood(rank, level, lotOf, lots, new ArrayList<>());
            }
        }
        return lots;
    }

    /** Goes over all pixels that hang together with a home, a pixel for each home, and tells the moves it comes round by. */
    private void flood(int start, int level, int[] lotOf, int lot, List<int[]> moves) {
        int[][] pixelOf = new int[cell()][];
        ArrayDeque<Integer> queue = new ArrayDeque<>(List.of(start));
        pixelOf[start] = homesByRank().get(start);
        lotOf[start] = lot;
        while (!queue.isEmpty()) {
            int[] from = pixelOf[queue.remove()];
            for (int[] side : SIDES) {
                int[] to = {from[0] + side[0], from[1] + side[1]};
                int rank = rankFrom(to[0], to[1]);
                if (rank >= level) {
                    continue;
                }
                if (pixelOf[rank] == null) {
                    pixelOf[rank] = to;
                    lotOf[rank] = lot;
                    queue.add(rank);
                } else if (to[0] != pixelOf[rank][0] || to[1] != pixelOf[rank][1]) {
                    moves.add(new int[] {to[0] - pixelOf[rank][0], to[1] - pixelOf[rank][1]});
                }
            }
        }
    }

    /** 0: no two pixels of one home hang together; 1: some do, along one line; 2: not along one line alone. */
    int waysAt(int level) {
        int ways = 0;
        for (int rank = 0; rank < level; rank++) {
            List<int[]> moves = new ArrayList<>();
            flood(rank, level, new int[cell()], 1, moves);
            for (int[] move : moves) {
                boolean isAcross = move[0] * moves.get(0)[1] != move[1] * moves.get(0)[0];
                ways = Math.max(ways, isAcross ? 2 : 1);
            }
        }
        return ways;
    }

    int leastLevelWithMoves(int ways) {
        int low = 0;
        int high = cell();
        // more ink never parts what hangs together
        while (low + 1 < high) {
            int level = (low + high) / 2;
            if (waysAt(level) >= ways) {
                high = level;
            } else {
                low = level;
            }
        }
        return high;
    }
}
