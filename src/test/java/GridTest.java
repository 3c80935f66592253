/** Promise 18, and the steps GRID, GRID LOOK and GRID PUT. */
final class GridTest extends TestBase {
    public static void main(String[] args) {
        testSizes();
        testPutAndLook();
        testFailures();
        testMadeAnew();
        close();
    }

    /** How many rows and places a GRID has, told by which of its places PUT reaches. */
    private static void testSize(int rows, int places, int wantRows, int wantPlaces) {
        for (int i = 0; i < 8; i++) {
            Stair stair = ran(SET, 1, rows, 0, SET, 2, places, 0, GRID, 9, 10, 0);
            dueEnd("GRID", stair, PLAINLY, 0);
            for (int j = 0; j < 8; j++) {
                again(stair, SET, 1, i, 0, SET, 2, j, 0, SET, 3, 100 + 10 * i + j, 0, GRID_PUT, 1, 2, 3);
                boolean has = i < wantRows && j < wantPlaces;
                due("GRID " + rows + ", " + places + ": PUT " + i + ", " + j, stair.kind(), has ? -1 : INDEX);
            }
            for (int row = 0; row < 9; row++) {
                for (int j = 0; j < 9; j++) {
                    boolean has = row == i && i < wantRows && j < wantPlaces;
                    due("grid(" + row + ", " + j + ")", stair.grid(row, j), has ? 100 + 10 * i + j : 0);
                }
            }
        }
    }

    private static void testSizes() {
        testSize(2, 3, 2, 3);
        testSize(7, 7, 7, 7);
        testSize(8, 1, 0, 1);
        testSize(1, 16, 1, 0);
        testSize(15, 9, 7, 1);
        testSize(0, 7, 0, 0);
        testSize(Integer.MAX_VALUE, 6, 7, 6);
    }

    private static void testPutAndLook() {
        Stair stair = ran(SET, 1, 2, 0, GRID, 1, 1, 0, SET, 1, 1, 0, SET, 2, 65536, 0, TIMES, 2, 2, 2,
            SET, 3, -7, 0, ADD, 3, 3, 2, GRID_PUT, 9, 0, 11, GRID_LOOK, 1, 8, 12);
        due("the INT is kept", stair.grid(1, 0), -7);
        due("LOOK", stair.number(4), -7);
        due("another row", stair.grid(0, 1), 0);
        again(stair, ADD, 1, 1, 2, GRID_LOOK, 1, 0, 5);
        due("the INT of the row counts", stair.number(5), -7);
        due("row -1", stair.grid(-1, 0), 0);
        due("place -1", stair.grid(1, -1), 0);
        due("place 2", stair.grid(0, 2), 0);
        due("far", stair.grid(Integer.MAX_VALUE, Integer.MIN_VALUE), 0);
        again(stair, OPEN, ALL, 0, 0, SET, 1, -1, 0, GRID, 1, 1, 0, TAKER, 0, 0, 0);
        due("SIZE leaves the GRID", stair.grid(1, 0), -7);
    }

    private static void testFailures() {
        int[] ops = {GRID_LOOK, GRID_PUT};
        for (int op : ops) {
            dueFailure("no GRID", ran(op, 0, 0, 0), NONE);
            Stair stair = ran(SET, 1, 2, 0, SET, 2, 3, 0, SET, 3, 55, 0, GRID, 1, 2, 0, op, 1, 0, 3);
            dueFailure("row 2", stair, INDEX);
            again(stair, op, 0, 2, 3);
            dueFailure("place 3", stair, INDEX);
            again(stair, SET, 1, -1, 0, op, 1, 0, 3);
            dueFailure("row -1", stair, INDEX);
            again(stair, op, 0, 1, 3);
            dueFailure("place -1", stair, INDEX);
            due("the number is left", stair.number(3), 55);
        }
        dueFailure("rows below 0", ran(SET, 1, -1, 0, GRID, 1, 0, 0), SIZE);
        dueFailure("places below 0", ran(SET, 1, -1, 0, GRID, 0, 1, 0), SIZE);
        dueFailure("the GRID of no rows is one", ran(GRID, 0, 0, 0, GRID_LOOK, 0, 0, 0), INDEX);
        dueFailure("SIZE makes none", ranTwice(), NONE);
    }

    private static Stair ranTwice() {
        Stair stair = ran(SET, 1, -1, 0, GRID, 1, 1, 0);
        again(stair, GRID_LOOK, 0, 0, 0);
        return stair;
    }

    private static void testMadeAnew() {
        Stair stair = ran(SET, 1, 2, 0, GRID, 1, 1, 0, GRID_PUT, 0, 0, 1, GRID, 1, 1, 0);
        due("all 0 again", stair.grid(0, 0), 0);
        again(stair, GRID_PUT, 0, 0, 1);
        due("from run to run", stair.grid(0, 0), 2);
        stair.wipe();
        due("wipe leaves it", stair.grid(0, 0), 2);
    }
}
