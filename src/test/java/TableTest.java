/** Promises 1 to 6: a new object, write, wipe, fault, lay, guest. */
public final class TableTest {
    private static final Check CHECK = new Check();

    public static void main(String[] args) {
        newObject();
        writing();
        faultsOfTheHead();
        faultsOfGuests();
        faultsOfLeaves();
        laying();
        layingAnew();
        guests();
        CHECK.end("TableTest");
    }

    private static void newObject() {
        LeafTable table = new LeafTable();
        int[] want = {0, 0, 1, 1, 0, 1, 0, 0, 0, 0, 1};
        for (int what = 0; what < want.length; what++) {
            CHECK.due("new: count(" + what + ")", table.count(what), want[what]);
        }
        CHECK.due("new: seed(0)", table.seed(0), 0);
        CHECK.due("new: again(0)", table.again(0), LeafTable.STATE);
        CHECK.due("new: again(1)", table.again(1), LeafTable.STATE);
        CHECK.due("new: undo()", table.undo(), LeafTable.STATE);
        CHECK.due("UNKNOWN", LeafTable.UNKNOWN, -1);
        CHECK.due("OUTSIDE", LeafTable.OUTSIDE, -2);
        CHECK.due("STATE", LeafTable.STATE, -3);
        CHECK.due("FULL", LeafTable.FULL, -4);
        CHECK.due("NONE", LeafTable.NONE, -9);
    }

    private static void writing() {
        LeafTable table = new LeafTable();
        int[] outside = {-1, 256, Integer.MIN_VALUE, Integer.MAX_VALUE};
        for (int letter : outside) {
            CHECK.due("write(" + letter + ")", table.write(letter), LeafTable.OUTSIDE);
        }
        CHECK.due("count(0) behind refusals", table.count(0), 0);
        for (int i = 0; i < 40; i++) {
            CHECK.due("write " + i, table.write(i % 2 == 0 ? 0 : 255), i + 1);
        }
        CHECK.due("write of a 41st", table.write(71), LeafTable.FULL);
        CHECK.due("write outside of a 41st", table.write(256), LeafTable.OUTSIDE);
        CHECK.due("count(0) when full", table.count(0), 40);
        CHECK.due("wipe() when full", table.wipe(), 40);
        CHECK.due("wipe() of nothing", table.wipe(), 0);
        CHECK.due("count(0) when wiped", table.count(0), 0);
        CHECK.due("write when wiped", table.write(84), 1);
    }

    private static void faultsOfTheHead() {
        CHECK.fault("", 0);
        CHECK.fault("X", 0);
        CHECK.fault("t", 0);
        CHECK.fault("G", 0);
        CHECK.fault("T", 1);
        CHECK.fault("T4", 1);
        CHECK.fault("T9", 1);
        CHECK.fault("TT", 1);
        CHECK.fault("T/", 1);
        CHECK.fault("T:", 1);
        CHECK.fault("T0", 2);
        CHECK.fault("T3", 2);
        CHECK.fault("T00", 2);
        CHECK.fault("T31", 2);
        CHECK.fault("T3x", 2);
        CHECK.fault("T01", 3);
        CHECK.fault("T30", 3);
        CHECK.fault("T290", 3);
        CHECK.fault("T29G", 3);
        CHECK.fault("T291", 4);
        CHECK.fault("T2910", 4);
        CHECK.fault("T291:", 4);
        CHECK.fault("T2911", LeafTable.NONE);
        CHECK.fault("T0199", LeafTable.NONE);
        CHECK.fault("T3011", LeafTable.NONE);
        CHECK.fault("T01111", 5);
        CHECK.fault("T0111T", 5);
        CHECK.fault("T0111g", 5);
    }

    private static void faultsOfGuests() {
        CHECK.fault("T3011G", 6);
        CHECK.fault("T3011GG", 6);
        CHECK.fault("T3011G2", 7);
        CHECK.fault("T3011G29", 8);
        CHECK.fault("T3011G293", 9);
        CHECK.fault("T3011G294", 8);
        CHECK.fault("T3011G29x", 8);
        CHECK.fault("T3011G2939", 10);
        CHECK.fault("T3011G293:", 9);
        CHECK.fault("T3011G29393", LeafTable.NONE);
        CHECK.fault("T3011G29394", 10);
        CHECK.fault("T3011G293930", 11);
        CHECK.fault("T3011G00000G01000G02000G03000G04000", LeafTable.NONE);
        CHECK.fault("T3011G00000G01000G02000G03000G04000G", 35);
        CHECK.fault("T3011G00000G01000G02000G03000G04000X", 35);
        CHECK.fault("T3011G00000G01000G02000G03000G0400", 34);
    }

    private static void faultsOfLeaves() {
        CHECK.fault("T3011G3", 6);
        CHECK.fault("T1111G11", 7);
        CHECK.fault("T1111G10", 8);
        CHECK.fault("T1011G1", 6);
        CHECK.fault("T1011G09", 8);
        CHECK.fault("T0911G09", 7);
        CHECK.fault("T3011G05000G05", 13);
        CHECK.fault("T3011G05000G06", 14);
        // the only leaf of the second ten is taken, so its first figure is wrong already
        CHECK.fault("T1111G10000G1", 12);
        CHECK.fault("T1111G10000G0", 13);
        CHECK.fault("T1211G10000G1", 13);
        CHECK.fault("T1211G10000G10", 13);
        CHECK.fault("T1211G10000G11", 14);
        CHECK.fault("T1211G10000G11000G1", 18);
        // there is no leaf for one more, so G itself is wrong
        CHECK.fault("T0111G00000", LeafTable.NONE);
        CHECK.fault("T0111G00000G", 11);
        CHECK.fault("T0211G00000G", 12);
        CHECK.fault("T0211G01000G00000G", 17);
        CHECK.fault("T0411G00000G01000G02000G03000G", 29);
        CHECK.fault("T0511G00000G01000G02000G03000G04000", LeafTable.NONE);
    }

    private static void laying() {
        LeafTable table = Check.written("T1285G02021G030");
        CHECK.due("lay() with a fault", table.lay(), LeafTable.STATE);
        CHECK.due("count(2) behind a refused lay", table.count(2), 1);
        CHECK.due("count(10) behind a refused lay", table.count(10), 1);
        Check.write(table, "T1285G02021G03103G11230");
        CHECK.due("lay()", table.lay(), 3);
        int[] want = {23, 3, 12, 5, 0, 8, 0, 3, 0, 0, 8};
        for (int what = 0; what < want.length; what++) {
            CHECK.due("laid: count(" + what + ")", table.count(what), want[what]);
        }
        Check.write(table, "T3079");
        CHECK.due("lay() without guests", table.lay(), 0);
        CHECK.counts("without guests", table, 30, 0, 7, 0);
        CHECK.due("count(3)", table.count(3), 9);
        CHECK.due("count(7)", table.count(7), 0);
        CHECK.due("guest(0, 0)", table.guest(0, 0), LeafTable.UNKNOWN);
        Check.write(table, "T0511G04000G03000G02000G01000G00000");
        CHECK.due("lay() of five", table.lay(), 5);
        CHECK.leaves("five", table, 4, 3, 2, 1, 0);
    }

    private static void layingAnew() {
        LeafTable table = Check.laid("T1099G01000G03010");
        table.dine(1000, 1);
        table.seed(77);
        table.keep(0);
        table.keep(1);
        table.say(0);
        table.pass(1);
        Check.write(table, "T");
        CHECK.due("refused lay", table.lay(), LeafTable.STATE);
        CHECK.due("acts stay behind a refused lay", table.count(8), 2);
        CHECK.counts("behind a refused lay", table, 11, 4, 5, 2);
        Check.write(table, "T1099G01000G03010");
        CHECK.due("lay() anew", table.lay(), 2);
        CHECK.counts("anew", table, 10, 0, 9, 0);
        CHECK.leaves("anew", table, 1, 3);
        CHECK.due("acts are empty", table.count(8), 0);
        CHECK.due("nothing to undo", table.undo(), LeafTable.STATE);
        CHECK.due("slot 0 is gone", table.again(0), LeafTable.STATE);
        CHECK.due("slot 1 is gone", table.again(1), LeafTable.STATE);
        CHECK.due("dinners stay", table.count(9), 1);
        CHECK.due("the text stays", table.count(0), 17);
        CHECK.due("the seed stays", table.seed(0), 77);
    }

    private static void guests() {
        LeafTable table = Check.laid("T3093G29390G02071G05102");
        int[][] want = {{29, 3, 9, 0, 0, 0}, {2, 0, 7, 1, 0, 1}, {5, 1, 0, 2, 0, 1}};
        for (int guest = 0; guest < want.length; guest++) {
            for (int what = 0; what < want[guest].length; what++) {
                CHECK.due("guest(" + guest + ", " + what + ")", table.guest(guest, what), want[guest][what]);
            }
        }
        table.pass(1);
        CHECK.due("served, just as warm as wanted", table.guest(1, 4), 1);
        CHECK.due("another is not", table.guest(0, 4), 0);
        CHECK.due("what = 6", table.guest(0, 6), LeafTable.OUTSIDE);
        CHECK.due("what = -1", table.guest(0, -1), LeafTable.OUTSIDE);
        CHECK.due("what is far out", table.guest(2, Integer.MAX_VALUE), LeafTable.OUTSIDE);
        CHECK.due("guest 3", table.guest(3, 0), LeafTable.UNKNOWN);
        CHECK.due("guest -1", table.guest(-1, 0), LeafTable.UNKNOWN);
        CHECK.due("guest 5", table.guest(5, 0), LeafTable.UNKNOWN);
        CHECK.due("guest -1, what too", table.guest(-1, 9), LeafTable.UNKNOWN);
        CHECK.due("guest is far out", table.guest(Integer.MIN_VALUE, 0), LeafTable.UNKNOWN);
    }
}
