/** Promises 25 to 27: keep, again, count. */
public final class SlotsTest {
    private static final Check CHECK = new Check();

    public static void main(String[] args) {
        keeping();
        twoSlots();
        wrongSlots();
        counting();
        CHECK.end("SlotsTest");
    }

    private static void keeping() {
        LeafTable table = Check.laid("T1099G02060G05100G07300");
        table.say(0);
        table.pass(0);
        CHECK.due("keep(0)", table.keep(0), 11);
        CHECK.due("acts stay behind keep", table.count(8), 2);
        table.say(1);
        table.pass(2);
        table.fetch();
        CHECK.counts("gone on", table, 10, 0, 9, 5);
        CHECK.leaves("gone on", table, 2, 6, 7);
        CHECK.due("again(0)", table.again(0), 11);
        CHECK.counts("again", table, 11, 2, 7, 1);
        CHECK.leaves("again", table, 2, 6, 8);
        CHECK.due("no acts", table.count(8), 0);
        CHECK.due("nothing to undo", table.undo(), LeafTable.STATE);
        table.say(0);
        CHECK.due("an act", table.count(8), 1);
        CHECK.due("again(0) once more", table.again(0), 11);
        CHECK.counts("once more", table, 11, 2, 7, 1);
    }

    private static void twoSlots() {
        LeafTable table = Check.laid("T1099G02060");
        table.keep(1);
        CHECK.due("again(0), kept in 1 only", table.again(0), LeafTable.STATE);
        table.say(0);
        CHECK.due("acts stay behind a refused again", table.count(8), 1);
        CHECK.due("again(0) refused", table.again(0), LeafTable.STATE);
        CHECK.due("acts stay", table.count(8), 1);
        CHECK.due("keep(0)", table.keep(0), 11);
        CHECK.due("again(1)", table.again(1), 10);
        CHECK.due("again(0)", table.again(0), 11);
        table.say(0);
        CHECK.due("keep(0) over", table.keep(0), 12);
        CHECK.due("again(1)", table.again(1), 10);
        CHECK.due("again(0)", table.again(0), 12);
    }

    private static void wrongSlots() {
        LeafTable table = new LeafTable();
        int[] slots = {-1, 2, Integer.MIN_VALUE, Integer.MAX_VALUE};
        for (int slot : slots) {
            CHECK.due("keep(" + slot + ")", table.keep(slot), LeafTable.UNKNOWN);
            CHECK.due("again(" + slot + ")", table.again(slot), LeafTable.UNKNOWN);
        }
        CHECK.due("keep(1) of a new one", table.keep(1), 1);
        CHECK.due("again(1) of a new one", table.again(1), 1);
    }

    private static void counting() {
        LeafTable table = Check.laid("T2587G02060G05100G20300");
        table.say(0);
        table.pass(0);
        table.pass(1);
        table.dine(1, 1);
        table.dine(2, 2);
        table.dine(3, 3);
        table.write('G');
        int[] want = {24, 3, 26, 7, 6, 2, 3, 3, 3, 3, 8};
        for (int what = 0; what < want.length; what++) {
            CHECK.due("count(" + what + ")", table.count(what), want[what]);
        }
        CHECK.due("count(11)", table.count(11), LeafTable.OUTSIDE);
        CHECK.due("count(-1)", table.count(-1), LeafTable.OUTSIDE);
        CHECK.due("count far out", table.count(Integer.MIN_VALUE), LeafTable.OUTSIDE);
    }
}
