import java.math.BigInteger;

/** Promises 21 to 24: hosts, come, seed, dinner. */
public final class HostsTest {
    private static final Check CHECK = new Check();

    public static void main(String[] args) {
        hosts();
        hostsWithin();
        come();
        comeByNumber();
        seed();
        dinner();
        dinnerWithin();
        CHECK.end("HostsTest");
    }

    private static void turns(LeafTable table, int n, int length, int first) {
        CHECK.due("hosts(" + n + ", false)", table.hosts(n, false), length);
        CHECK.due("hosts(" + n + ", true)", table.hosts(n, true), first);
    }

    private static void hosts() {
        LeafTable none = new LeafTable();
        turns(none, 1, 1, 0);
        turns(none, 4, 1, 0);
        CHECK.due("hosts(0)", none.hosts(0, false), LeafTable.OUTSIDE);
        CHECK.due("hosts(5)", none.hosts(5, true), LeafTable.OUTSIDE);
        CHECK.due("hosts(-1)", none.hosts(-1, true), LeafTable.OUTSIDE);
        LeafTable silent = Check.laid("T1011G01300G02300");
        turns(silent, 3, 10, 0);
        LeafTable grows = Check.laid("T1011G01000G02200G03200");
        turns(grows, 1, 12, 2);
        turns(grows, 2, 12, 2);
        turns(grows, 3, 14, 2);
        turns(grows, 4, 14, 2);
        // the other one has a leaf taken each time
        LeafTable shrinks = Check.laid("T1011G00000G05100");
        turns(shrinks, 1, 11, 1);
        turns(shrinks, 2, 10, 1);
        turns(shrinks, 3, 11, 1);
        turns(shrinks, 4, 10, 1);
    }

    private static void hostsWithin() {
        // only STAYING: the first one makes none speak, the other one all it can
        LeafTable stays = Check.laid("T0311G00100");
        turns(stays, 1, 3, 0);
        turns(stays, 2, 2, 0);
        turns(stays, 4, 1, 0);
        // one leaf only is behind STAYING: the other one takes it, however late
        LeafTable last = Check.laid("T0211G00100");
        turns(last, 4, 1, 0);
        LeafTable full = Check.laid("T3011G00200G01000");
        for (int i = 0; i < 15; i++) {
            full.say(0);
        }
        turns(full, 4, 60, 0);
        full.undo();
        turns(full, 1, 60, 1);
        full.say(1);
        turns(full, 1, 60, 2);
    }

    private static void chance(LeafTable table, int x, int n, int above, int below) {
        CHECK.fraction("come(" + x + ", " + n + ")", table.come(x, n, true), table.come(x, n, false), above, below);
    }

    private static void come() {
        LeafTable table = Check.laid("T1011G01000G03200");
        chance(table, 0, 10, 1, 1);
        chance(table, 0, 11, 0, 1);
        chance(table, 10, 13, 1, 1);
        chance(table, 10, 14, 0, 1);
        chance(table, 3, 10, 1, 1);
        // any comes: 1 - 49/100
        chance(table, 3, 11, 51, 100);
        chance(table, 3, 12, 3, 10);
        chance(table, 3, 13, 9, 100);
        chance(table, 5, 13, 1, 4);
        chance(table, 5, 60, 0, 1);
        chance(table, 5, 1, 1, 1);
        LeafTable five = Check.laid("T1011G01000G03000G05000G07000G09000");
        chance(five, 1, 15, 1, 100000);
        chance(five, 9, 15, 59049, 100000);
        chance(five, 5, 15, 1, 32);
        chance(five, 5, 13, 1, 2);
        int[][] outside = {{-1, 5}, {11, 5}, {5, 0}, {5, 61}, {5, -1}, {Integer.MAX_VALUE, 1}, {1, Integer.MAX_VALUE}};
        for (int[] call : outside) {
            chance(table, call[0], call[1], LeafTable.OUTSIDE, LeafTable.OUTSIDE);
        }
    }

    private static void comeByNumber() {
        // STAYING (0) sits right behind nobody's leaf unless BUSY (1), told behind it, has spoken
        LeafTable first = Check.laid("T0311G01100G00000G02300");
        chance(first, 10, 4, 1, 1);
        chance(first, 10, 3, 1, 1);
        chance(first, 4, 3, 1, 1);
        chance(first, 4, 4, 2, 5);
        // STAYING can always: 3 - 1 + 1, by chance 2 only if BUSY does not come
        LeafTable second = Check.laid("T0311G01100G00000");
        chance(second, 4, 3, 19, 25);
        chance(second, 4, 4, 6, 25);
        LeafTable full = Check.laid("T3011G00000G01200G02300");
        for (int i = 0; i < 29; i++) {
            full.say(0);
        }
        // at 59: BUSY, then FLATTERING can not
        chance(full, 5, 60, 1, 2);
        chance(full, 5, 59, 1, 1);
        chance(full, 10, 60, 1, 1);
    }

    private static void seed() {
        LeafTable table = new LeafTable();
        CHECK.due("seed(5)", table.seed(5), 0);
        CHECK.due("seed(MIN)", table.seed(Long.MIN_VALUE), 5);
        CHECK.due("seed(MAX)", table.seed(Long.MAX_VALUE), Long.MIN_VALUE);
        CHECK.due("seed(0)", table.seed(0), Long.MAX_VALUE);
        table.dinner(1);
        CHECK.due("seed behind one from 0", table.seed(1), 1442695040888963407L);
        CHECK.due("dinner(0)", table.dinner(0), LeafTable.OUTSIDE);
        CHECK.due("dinner(31)", table.dinner(31), LeafTable.OUTSIDE);
        CHECK.due("dinner(-1)", table.dinner(-1), LeafTable.OUTSIDE);
        CHECK.due("refused ones change no seed", table.seed(1), 1);
    }

    private static BigInteger next(BigInteger x) {
        BigInteger all = BigInteger.ONE.shiftLeft(64);
        return x.multiply(new BigInteger("6364136223846793005")).add(new BigInteger("1442695040888963407")).mod(all);
    }

    private static int drawn(BigInteger x) {
        return x.shiftRight(33).mod(BigInteger.valueOf(6)).intValue();
    }

    private static void dinner() {
        // each guest but one is SILENT, so that LENGTH tells how often that one was drawn
        for (int busy = 0; busy < 6; busy++) {
            StringBuilder text = new StringBuilder("T3011");
            for (int i = 0; i < 5; i++) {
                text.append("G0").append(i).append(i == busy ? "000" : "300");
            }
            LeafTable table = Check.laid(text.toString());
            BigInteger x = BigInteger.valueOf(-12345L + busy).mod(BigInteger.ONE.shiftLeft(64));
            table.seed(-12345L + busy);
            for (int m = 1; m <= 30; m++) {
                int length = 30;
                for (int i = 0; i < m; i++) {
                    x = next(x);
                    length += drawn(x) == busy && busy < 5 ? 1 : 0;
                }
                CHECK.due("dinner(" + m + ")", table.dinner(m), length);
            }
            CHECK.due("the seed at last", table.seed(0), x.longValue());
            CHECK.due("LENGTH stays", table.count(2), 30);
            CHECK.due("no acts", table.count(8), 0);
        }
    }

    private static void dinnerWithin() {
        LeafTable table = Check.laid("T0311G00100G01100");
        table.seed(0);
        int least = 3;
        for (int i = 0; i < 20; i++) {
            least = Math.min(least, table.dinner(30));
        }
        CHECK.due("who can not does not", least, 2);
        LeafTable full = Check.laid("T3011G00200G01200G02200G03200G04200");
        for (int i = 0; i < 14; i++) {
            full.say(0);
        }
        CHECK.due("60 at most", full.dinner(30), 60);
        CHECK.due("as it was", full.count(2), 58);
    }
}
