/** Promises 18 to 20: dine, clear, laws. */
public final class LawsTest {
    private static final Check CHECK = new Check();

    public static void main(String[] args) {
        dining();
        clearing();
        lawsOfDinners();
        sameInAll();
        none();
        CHECK.end("LawsTest");
    }

    private static LeafTable dined(int... dinners) {
        LeafTable table = new LeafTable();
        for (int i = 0; i + 1 < dinners.length; i += 2) {
            CHECK.due("dine(" + dinners[i] + ", " + dinners[i + 1] + ")",
                table.dine(dinners[i], dinners[i + 1]), i / 2 + 1);
        }
        return table;
    }

    private static void laws(LeafTable table, int many, int first, int same) {
        CHECK.due("laws(0)", table.laws(0), many);
        CHECK.due("laws(1)", table.laws(1), first);
        CHECK.due("laws(2)", table.laws(2), same);
    }

    private static void dining() {
        LeafTable table = new LeafTable();
        int[][] outside = {{-1, 0}, {10000, 0}, {0, -41}, {0, 41}, {Integer.MAX_VALUE, 0}, {0, Integer.MIN_VALUE}};
        for (int[] call : outside) {
            CHECK.due("dine(" + call[0] + ", " + call[1] + ")", table.dine(call[0], call[1]), LeafTable.OUTSIDE);
        }
        CHECK.due("count(9)", table.count(9), 0);
        int[][] inside = {{0, 0}, {9999, 40}, {9999, -40}, {1, 1}, {1, 1}, {1, 1}};
        for (int i = 0; i < inside.length; i++) {
            CHECK.due("dine", table.dine(inside[i][0], inside[i][1]), i + 1);
        }
        CHECK.due("a seventh", table.dine(0, 0), LeafTable.FULL);
        CHECK.due("a seventh outside", table.dine(10000, 0), LeafTable.OUTSIDE);
        CHECK.due("a seventh, v outside", table.dine(0, 41), LeafTable.OUTSIDE);
        CHECK.due("count(9)", table.count(9), 6);
    }

    private static void clearing() {
        LeafTable table = dined(1000, 1, 100, -1);
        CHECK.due("clear()", table.clear(), 2);
        CHECK.due("clear() of none", table.clear(), 0);
        CHECK.due("count(9)", table.count(9), 0);
        laws(table, 256, 0, 0);
        CHECK.due("dine again", table.dine(1000, 2), 1);
        laws(table, 64, 3000, 1);
    }

    private static void lawsOfDinners() {
        laws(dined(), 256, 0, 0);
        laws(dined(0, 0), 256, 0, 0);
        laws(dined(1000, -1), 64, 0, 1);
        laws(dined(1000, 2), 64, 3000, 1);
        laws(dined(100, 1), 64, 200, 2);
        laws(dined(10, 0), 64, 10, 4);
        laws(dined(1, 2), 64, 3, 8);
        // one BUSY and one STAYING make 0: -1 and 1, 0 and 0, 1 and -1
        laws(dined(1100, 0), 48, 200, 0);
        laws(dined(1100, 4), 16, 3300, 3);
        laws(dined(9999, -36), 1, 0, 15);
        laws(dined(9999, 36), 31, 233, 0);
        laws(dined(1000, 1, 100, -1, 10, 2, 1, 0), 1, 2031, 15);
        laws(dined(1000, 1, 100, -1, 10, 2, 1, 0, 1111, 2, 2233, 6), 1, 2031, 15);
    }

    private static void sameInAll() {
        // STAYING and SILENT are told, of the others only the sum
        laws(dined(100, -1, 1, 0, 1010, 3), 2, 2031, 10);
        laws(dined(100, -1, 1, 0, 1010, 4), 1, 3031, 15);
    }

    private static void none() {
        laws(dined(0, 1), 0, LeafTable.NONE, LeafTable.NONE);
        laws(dined(1000, 3), 0, LeafTable.NONE, LeafTable.NONE);
        laws(dined(1000, 1, 1000, 2), 0, LeafTable.NONE, LeafTable.NONE);
        laws(dined(2000, 1), 0, LeafTable.NONE, LeafTable.NONE);
        LeafTable table = new LeafTable();
        CHECK.due("laws(3)", table.laws(3), LeafTable.OUTSIDE);
        CHECK.due("laws(-1)", table.laws(-1), LeafTable.OUTSIDE);
        CHECK.due("laws far out", table.laws(Integer.MAX_VALUE), LeafTable.OUTSIDE);
    }
}
