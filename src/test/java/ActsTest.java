/** Promises 7 to 10: say, pass, fetch, undo; and who hears (count 7). */
public final class ActsTest {
    private static final Check CHECK = new Check();

    public static void main(String[] args) {
        busyAndFlattering();
        staying();
        soupGoesAlong();
        longest();
        passing();
        fetching();
        undoing();
        rowOfActs();
        hearing();
        CHECK.end("ActsTest");
    }

    private static void busyAndFlattering() {
        LeafTable table = Check.laid("T0899G03000G05200G01300");
        CHECK.due("BUSY says", table.say(0), 9);
        CHECK.leaves("BUSY", table, 3, 6, 1);
        CHECK.due("FLATTERING says", table.say(1), 11);
        CHECK.leaves("FLATTERING", table, 3, 6, 1);
        CHECK.due("SILENT says", table.say(2), 11);
        CHECK.leaves("SILENT", table, 3, 6, 1);
        CHECK.due("three acts", table.count(8), 3);
        CHECK.due("say(3)", table.say(3), LeafTable.UNKNOWN);
        CHECK.due("say(-1)", table.say(-1), LeafTable.UNKNOWN);
        CHECK.due("say(9999)", table.say(9999), LeafTable.UNKNOWN);
        CHECK.due("refused ones are no acts", table.count(8), 3);
    }

    private static void staying() {
        LeafTable table = Check.laid("T0599G01100G03000G04100");
        CHECK.due("the last leaf's guest says", table.say(2), LeafTable.STATE);
        CHECK.due("STAYING says", table.say(0), 4);
        CHECK.leaves("STAYING", table, 1, 2, 3);
        CHECK.due("somebody sits behind", table.say(0), LeafTable.STATE);
        CHECK.due("one act", table.count(8), 1);
        CHECK.due("LENGTH stays", table.count(2), 4);
        CHECK.due("BUSY says", table.say(1), 5);
        CHECK.leaves("behind BUSY", table, 1, 2, 4);
        LeafTable behind = Check.laid("T0599G02000G01100");
        CHECK.due("the first one told sits behind", behind.say(1), LeafTable.STATE);
        LeafTable silent = Check.laid("T0299G01300G00300");
        CHECK.due("SILENT on the last leaf", silent.say(0), 2);
        CHECK.due("SILENT with one behind", silent.say(1), 2);
        LeafTable alone = Check.laid("T0211G00100");
        CHECK.due("to one leaf", alone.say(0), 1);
        CHECK.due("no leaf behind", alone.say(0), LeafTable.STATE);
    }

    private static void soupGoesAlong() {
        LeafTable table = Check.laid("T1099G02000G05200G07300");
        table.pass(2);
        table.say(0);
        CHECK.counts("farther, BUSY", table, 11, 8, 2, 4);
        table.say(1);
        CHECK.counts("farther, FLATTERING", table, 13, 10, 2, 4);
        table.fetch();
        table.say(0);
        CHECK.counts("nearer", table, 14, 0, 9, 4);
        table.pass(0);
        table.say(0);
        CHECK.counts("on its own leaf", table, 15, 2, 7, 5);

        LeafTable left = Check.laid("T0599G00100G01000");
        left.pass(1);
        CHECK.due("somebody sits behind", left.say(0), LeafTable.STATE);
        CHECK.counts("soup at the second", left, 5, 1, 8, 2);

        LeafTable back = Check.laid("T0999G01100G04000");
        back.pass(1);
        back.say(0);
        CHECK.counts("farther, STAYING", back, 8, 3, 5, 2);
        CHECK.leaves("farther, STAYING", back, 1, 3);
    }

    private static void longest() {
        LeafTable table = Check.laid("T3011G00200G01000G02300");
        for (int i = 0; i < 14; i++) {
            table.say(0);
        }
        CHECK.due("58", table.count(2), 58);
        CHECK.due("BUSY to 59", table.say(1), 59);
        CHECK.due("FLATTERING to 61", table.say(0), LeafTable.STATE);
        CHECK.due("BUSY to 60", table.say(1), 60);
        CHECK.due("BUSY to 61", table.say(1), LeafTable.STATE);
        CHECK.due("FLATTERING to 62", table.say(0), LeafTable.STATE);
        CHECK.due("SILENT at 60", table.say(2), 60);
        CHECK.leaves("at 60", table, 0, 29, 32);
        CHECK.due("two back", table.undo() + table.undo(), 25);
        CHECK.due("59", table.count(2), 59);
        LeafTable even = Check.laid("T3011G00200");
        for (int i = 0; i < 15; i++) {
            even.say(0);
        }
        CHECK.due("FLATTERING to 60", even.count(2), 60);
    }

    private static void passing() {
        LeafTable table = Check.laid("T1091G03060G05040G09000");
        CHECK.due("pass as warm as wanted", table.pass(0), 6);
        CHECK.counts("first", table, 10, 3, 6, 1);
        CHECK.due("pass farther", table.pass(1), 4);
        CHECK.due("pass back", table.pass(0), 2);
        CHECK.counts("served from then on", table, 10, 3, 2, 3);
        CHECK.due("pass where it is", table.pass(0), 2);
        CHECK.due("never below 0", table.pass(2), 0);
        CHECK.counts("wants it 0 warm", table, 10, 9, 0, 7);
        CHECK.due("pass(3)", table.pass(3), LeafTable.UNKNOWN);
        CHECK.due("pass(-1)", table.pass(-1), LeafTable.UNKNOWN);
        CHECK.due("acts", table.count(8), 5);
        LeafTable cold = Check.laid("T1011G01010");
        CHECK.due("one too cold", cold.pass(0), 0);
        CHECK.due("is not served", cold.count(6), 0);
    }

    private static void fetching() {
        LeafTable table = Check.laid("T1071G04040");
        CHECK.due("fetch() at first", table.fetch(), 7);
        table.pass(0);
        CHECK.due("fetch() behind a pass", table.fetch(), 3);
        CHECK.counts("fetched", table, 10, 0, 7, 0);
        CHECK.due("acts", table.count(8), 3);
    }

    private static void undoing() {
        LeafTable table = Check.laid("T1071G02040G04100G07060");
        table.say(0);
        table.pass(0);
        table.say(1);
        table.fetch();
        CHECK.counts("done", table, 10, 0, 7, 1);
        CHECK.leaves("done", table, 2, 5, 7);
        CHECK.due("undo fetch", table.undo(), 3);
        CHECK.counts("undone fetch", table, 10, 2, 5, 1);
        CHECK.due("undo say", table.undo(), 2);
        CHECK.counts("undone say", table, 11, 2, 5, 1);
        CHECK.leaves("undone say", table, 2, 5, 8);
        CHECK.due("undo pass", table.undo(), 1);
        CHECK.counts("undone pass", table, 11, 0, 7, 0);
        CHECK.due("undo the first", table.undo(), 0);
        CHECK.counts("undone all", table, 10, 0, 7, 0);
        CHECK.leaves("undone all", table, 2, 4, 7);
        CHECK.due("nothing is left", table.undo(), LeafTable.STATE);
        // one served before stays served when a second pass to it is undone
        table.pass(0);
        table.pass(0);
        table.undo();
        CHECK.due("still served", table.count(6), 1);
    }

    private static void rowOfActs() {
        LeafTable table = Check.laid("T0111G00000");
        for (int i = 0; i < 14; i++) {
            table.say(0);
        }
        CHECK.due("14 acts", table.count(8), 14);
        table.say(0);
        table.say(0);
        CHECK.due("16 acts, two forgotten", table.count(8), 14);
        CHECK.due("17 leaves", table.count(2), 17);
        for (int i = 13; i >= 0; i--) {
            CHECK.due("undo to " + i, table.undo(), i);
            CHECK.due("leaves at " + i, table.count(2), i + 3);
        }
        CHECK.due("the first two are forgotten", table.undo(), LeafTable.STATE);
        CHECK.due("leaves at last", table.count(2), 3);
        table.fetch();
        CHECK.due("a row again", table.count(8), 1);
    }

    private static void hearing() {
        CHECK.due("none is near", Check.laid("T3013G04000G05000").count(7), 0);
        CHECK.due("just in reach", Check.laid("T3013G03000G06000").count(7), 3);
        CHECK.due("a gap", Check.laid("T3013G03000G07000G09000").count(7), 1);
        CHECK.due("by leaf, not by number", Check.laid("T3013G08000G00000G05000G03000G12000").count(7), 15);
        CHECK.due("at the head", Check.laid("T0111G00000").count(7), 1);
        LeafTable table = Check.laid("T3012G01100G04000");
        CHECK.due("out of reach", table.guest(1, 5), 0);
        table.say(0);
        CHECK.due("drawn near", table.guest(1, 5), 1);
    }
}
