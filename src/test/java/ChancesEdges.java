import java.math.BigInteger;

/** The edges of TWO HOSTS, COME, THE SEED; promises 21 to 24. */
final class ChancesEdges {
    private static final int LEAST = Integer.MIN_VALUE, GREATEST = Integer.MAX_VALUE;
    private static final BigInteger TIMES = new BigInteger("6364136223846793005");
    private static final BigInteger MORE = new BigInteger("1442695040888963407");
    private static final BigInteger ALL = BigInteger.ONE.shiftLeft(64);

    private final Check check;

    ChancesEdges(Check check) {
        this.check = check;
    }

    void tell(Sentences told) {
        tellHosts(told);
        tellChances(told);
        tellSeed(told);
    }

    private void tellHosts(Sentences told) {
        told.holds(Document.TERMS, "TWO HOSTS by turns, n turns (1 to 4), the first one begins:", this::fourTurns);
        told.holds(Document.TERMS, "each makes one GUEST say its own (any that can), or none;", this::anyThatCan);
        told.holds(Document.TERMS, "the first one wants THE TABLE long behind all, the other one short: LENGTH then;",
            this::longAndShort);
        told.holds(Document.TERMS, "whom the first one makes speak (1 more; 0: none; of like ones the least).",
            this::leastOfLikeOnes);
        told.holds(21, "TWO HOSTS: LENGTH (first = false), whom the first one makes speak (first = true).", this::hostsAsAsked);
        told.holds(21, "OUTSIDE: n.", this::noSuchTurns);
    }

    private void tellChances(Sentences told) {
        told.holds(Document.TERMS, "COME by x tenths (0 to 10): each GUEST comes to speak, by itself", this::tenths);
        told.holds(Document.TERMS, "(all sit on their LEAVES as they are now, come or not);", this::comeOrNot);
        told.holds(Document.TERMS, "who has come says its own, by number, if it can:", this::byNumber);
        told.holds(Document.TERMS, "the chance that LENGTH is n (1 to 60) or more then: a FRACTION.", this::orMore);
        told.holds(22, "COME.", this::comeAsAsked);
        told.holds(22, "OUTSIDE: x,", this::noSuchTenths);
        told.holds(22, "n.", this::noSuchLength);
    }

    private void tellSeed(Sentences told) {
        told.holds(Document.TERMS, "A DINNER by THE SEED: m times (1 to 30)", this::thirtyTimes);
        told.holds(Document.TERMS, "x (THE SEED, a long; 0 at first) becomes x times 6364136223846793005 and 1442695040888963407"
            + " (64 bits, wrapping);", this::wrapping);
        told.holds(Document.TERMS, "its upper 31 bits by 6, what is left:", this::upperBits);
        told.holds(Document.TERMS, "0 to 4 that GUEST says its own, if there is such a one and it can;", this::drawnGuests);
        told.holds(Document.TERMS, "5: nothing: LENGTH then.", this::drawnFive);
        told.holds(Document.TERMS, "(Nothing changes but THE SEED.)", this::onlyTheSeed);
        told.holds(23, "THE SEED is v: what it was.", this::seedThatWas);
        told.holds(24, "A DINNER by THE SEED.", this::dinnerAsAsked);
        told.holds(24, "OUTSIDE: m.", this::noSuchTimes);
    }

    private void turns(LeafTable table, int n, int length, int first) {
        check.due("hosts(" + n + ", false)", table.hosts(n, false), length);
        check.due("hosts(" + n + ", true)", table.hosts(n, true), first);
    }

    private void chance(LeafTable table, int x, int n, int above, int below) {
        check.fraction("come(" + x + ", " + n + ")", table.come(x, n, true), table.come(x, n, false), above, below);
    }

    /** So many leaves; FLATTERING (0), BUSY (1), SILENT (2). */
    private static LeafTable longOf(int leaves) {
        return Check.lengthened("T3091G00200G01000G02300", leaves);
    }

    // ---- hosts

    private void fourTurns() {
        LeafTable busy = Check.laid("T0991G01000");
        turns(busy, 0, LeafTable.OUTSIDE, LeafTable.OUTSIDE);
        turns(busy, 1, 10, 1);
        turns(busy, 2, 10, 1);
        turns(busy, 3, 11, 1);
        turns(busy, 4, 11, 1);
        turns(busy, 5, LeafTable.OUTSIDE, LeafTable.OUTSIDE);
        // the other one has no turn of one, one of two and three, two of four
        LeafTable staying = Check.laid("T0991G01100");
        turns(staying, 1, 9, 0);
        turns(staying, 2, 8, 0);
        turns(staying, 3, 8, 0);
        turns(staying, 4, 7, 0);
    }

    private void anyThatCan() {
        turns(new LeafTable(), 4, 1, 0);
        // nobody can
        turns(Check.laid("T0991G08100"), 4, 9, 0);
        // FLATTERING can not at 59, nor anybody at 60
        turns(longOf(58), 1, 60, 1);
        turns(longOf(59), 1, 60, 2);
        turns(longOf(60), 1, 60, 0);
        turns(longOf(60), 4, 60, 0);
        // one leaf is there for the other host to take, however often its turn comes
        turns(Check.laid("T0991G07100"), 4, 8, 0);
        // the fifth can
        turns(Check.laid("T0991G00300G01300G02300G03300G04000"), 1, 10, 5);
        // the same one again
        turns(Check.laid("T0991G04200"), 3, 13, 1);
        // rather none than one that makes it shorter
        turns(Check.laid("T0991G01100"), 1, 9, 0);
    }

    private void longAndShort() {
        LeafTable table = Check.laid("T0991G00200G03100");
        turns(table, 1, 11, 1);
        turns(table, 2, 10, 1);
        turns(table, 3, 12, 1);
        turns(table, 4, 11, 1);
        // behind all: at 59 the first one has STAYING take its only leaf, so that FLATTERING can make 60 at last
        LeafTable bound = ofFiftyNine("T2991G00200G27100", 0);
        turns(bound, 1, 59, 0);
        turns(bound, 2, 58, 0);
        turns(bound, 3, 60, 2);
    }

    private void leastOfLikeOnes() {
        turns(Check.laid("T0991G01300G02300"), 1, 9, 0);
        turns(Check.laid("T0991G01300G02000G03000"), 1, 10, 2);
        turns(Check.laid("T0991G01000G02000"), 1, 10, 1);
        turns(Check.laid("T0991G01000G02200G03200"), 1, 11, 2);
        // at 59 BUSY makes 60 at once or at last: none is the least of like ones
        turns(longOf(59), 3, 60, 0);
        turns(longOf(59), 2, 60, 2);
    }

    private void hostsAsAsked() {
        LeafTable table = Check.laid("T0991G01300G02200");
        check.due("hosts(1, false)", table.hosts(1, false), 11);
        check.due("hosts(1, true)", table.hosts(1, true), 2);
        check.due("hosts(1, false) of none", new LeafTable().hosts(1, false), 1);
        check.due("hosts(1, true) of none", new LeafTable().hosts(1, true), 0);
    }

    private void noSuchTurns() {
        LeafTable table = Check.laid("T0991G01000");
        int[] wrong = {0, 5, -1, 6, LEAST, GREATEST};
        for (int n : wrong) {
            turns(table, n, LeafTable.OUTSIDE, LeafTable.OUTSIDE);
        }
        turns(table, 1, 10, 1);
        turns(table, 4, 11, 1);
    }

    // ---- chances

    private void tenths() {
        LeafTable one = Check.laid("T0991G01000");
        int[][] want = {{0, 1}, {1, 10}, {1, 5}, {3, 10}, {2, 5}, {1, 2}, {3, 5}, {7, 10}, {4, 5}, {9, 10}, {1, 1}};
        for (int x = 0; x <= 10; x++) {
            chance(one, x, 10, want[x][0], want[x][1]);
        }
        // by itself: both, and either
        LeafTable two = Check.laid("T0991G01000G02000");
        chance(two, 3, 11, 9, 100);
        chance(two, 3, 10, 51, 100);
        LeafTable five = Check.laid("T0991G00000G01000G02000G03000G04000");
        chance(five, 1, 14, 1, 100000);
        chance(five, 9, 14, 59049, 100000);
        chance(new LeafTable(), 10, 1, 1, 1);
        chance(new LeafTable(), 10, 2, 0, 1);
    }

    private void comeOrNot() {
        // one sits behind STAYING, whether it comes to speak or not
        LeafTable sat = Check.laid("T0991G01100G02000");
        chance(sat, 5, 9, 1, 1);
        chance(sat, 5, 10, 1, 2);
        LeafTable silent = Check.laid("T0991G01100G02300");
        chance(silent, 5, 9, 1, 1);
        // its LEAF as it is now: two are free behind STAYING, then one, then none
        LeafTable drawn = Check.laid("T0991G01100G04300");
        chance(drawn, 5, 9, 1, 2);
        drawn.say(0);
        chance(drawn, 5, 8, 1, 2);
        drawn.say(0);
        chance(drawn, 5, 7, 1, 1);
    }

    private void byNumber() {
        // at 59 the first of BUSY and FLATTERING by number speaks, and by number only BUSY can
        LeafTable full = longOf(59);
        chance(full, 5, 60, 1, 2);
        chance(full, 10, 60, 1, 1);
        // at 59 STAYING makes room for FLATTERING, if it is told ahead of it
        chance(ofFiftyNine("T2991G01100G00200", 1), 5, 60, 1, 4);
        chance(ofFiftyNine("T2991G00200G01100", 0), 5, 60, 0, 1);
        chance(ofFiftyNine("T2991G00200G01100", 0), 5, 59, 1, 2);
        // once only
        chance(Check.laid("T0991G01000"), 10, 11, 0, 1);
    }

    private static LeafTable ofFiftyNine(String text, int flattering) {
        LeafTable table = Check.laid(text);
        for (int i = 0; i < 15; i++) {
            table.say(flattering);
        }
        return table;
    }

    private void orMore() {
        LeafTable table = Check.laid("T0991G01000G03200");
        chance(table, 5, 1, 1, 1);
        chance(table, 5, 9, 1, 1);
        chance(table, 5, 10, 3, 4);
        chance(table, 5, 11, 1, 2);
        chance(table, 5, 12, 1, 4);
        chance(table, 5, 13, 0, 1);
        chance(table, 5, 60, 0, 1);
        chance(longOf(60), 5, 60, 1, 1);
        chance(longOf(58), 5, 60, 1, 2);
    }

    private void comeAsAsked() {
        LeafTable table = Check.laid("T0991G01000G03200");
        check.due("come(3, 11, true)", table.come(3, 11, true), 3);
        check.due("come(3, 11, false)", table.come(3, 11, false), 10);
    }

    private void noSuchTenths() {
        LeafTable table = Check.laid("T0991G01000");
        int[] wrong = {-1, 11, 12, LEAST, GREATEST};
        for (int x : wrong) {
            chance(table, x, 9, LeafTable.OUTSIDE, LeafTable.OUTSIDE);
        }
        chance(table, 0, 10, 0, 1);
        chance(table, 10, 10, 1, 1);
    }

    private void noSuchLength() {
        LeafTable table = Check.laid("T0991G01000");
        int[] wrong = {0, 61, -1, 62, LEAST, GREATEST};
        for (int n : wrong) {
            chance(table, 5, n, LeafTable.OUTSIDE, LeafTable.OUTSIDE);
        }
        chance(table, 5, 1, 1, 1);
        chance(table, 5, 60, 0, 1);
    }

    // ---- seed

    private static BigInteger next(BigInteger x) {
        return x.multiply(TIMES).add(MORE).mod(ALL);
    }

    private static BigInteger after(long seed, int times) {
        BigInteger x = BigInteger.valueOf(seed).mod(ALL);
        for (int i = 0; i < times; i++) {
            x = next(x);
        }
        return x;
    }

    private static int drawn(BigInteger x) {
        return x.shiftRight(33).mod(BigInteger.valueOf(6)).intValue();
    }

    /** A seed behind which the next one drawn is as told. */
    private static long seedThatDraws(int want) {
        long seed = 0;
        for (int i = 0; i < 1000 && drawn(after(seed, 1)) != want; i++) {
            seed++;
        }
        return seed;
    }

    private static LeafTable seeded(String text, long seed) {
        LeafTable table = Check.laid(text);
        table.seed(seed);
        return table;
    }

    private void thirtyTimes() {
        int[] right = {1, 2, 29, 30};
        for (int m : right) {
            LeafTable table = seeded("T0991", 9);
            check.due("dinner(" + m + ")", table.dinner(m), 9);
            check.due("THE SEED behind " + m, table.seed(0), after(9, m).longValue());
        }
        int[] wrong = {0, 31};
        for (int m : wrong) {
            LeafTable table = seeded("T0991", 9);
            check.due("dinner(" + m + ")", table.dinner(m), LeafTable.OUTSIDE);
            check.due("THE SEED behind " + m, table.seed(0), 9);
        }
    }

    private void wrapping() {
        LeafTable first = new LeafTable();
        first.dinner(1);
        check.due("from 0 at first", first.seed(0), 1442695040888963407L);
        first.seed(1);
        first.dinner(1);
        check.due("from 1", first.seed(0), 7806831264735756412L);
        long[] seeds = {2, -1, Long.MAX_VALUE, Long.MIN_VALUE, 1L << 32, -(1L << 33)};
        for (long seed : seeds) {
            LeafTable table = seeded("T0991", seed);
            table.dinner(1);
            check.due("from " + seed, table.seed(0), after(seed, 1).longValue());
        }
    }

    /** Who is drawn is told by LENGTH, all the others being SILENT; half of the seeds are below 0. */
    private void upperBits() {
        for (int busy = 0; busy <= 5; busy++) {
            StringBuilder text = new StringBuilder("T0991");
            for (int i = 0; i < 5; i++) {
                text.append("G0").append(i).append(i == busy ? "000" : "300");
            }
            LeafTable table = Check.laid(text.toString());
            for (int i = 0; i < 60; i++) {
                long seed = i * 0x123456789ABCDEFL;
                table.seed(seed);
                int want = drawn(after(seed, 1)) == busy && busy < 5 ? 10 : 9;
                check.due("dinner(1) from " + seed, table.dinner(1), want);
            }
        }
    }

    private void drawnGuests() {
        String five = "T0991G00000G01000G02000G03000G04000";
        for (int guest = 0; guest <= 4; guest++) {
            long seed = seedThatDraws(guest);
            check.due("drawn " + guest, seeded(five, seed).dinner(1), 10);
            String fewer = five.substring(0, 5 + 6 * guest);
            check.due("no such one, " + guest, seeded(fewer, seed).dinner(1), 9);
            check.due("nor of a new object", seeded("T0191", seed).dinner(1), 1);
        }
        long first = seedThatDraws(0);
        check.due("STAYING can", seeded("T0991G07100", first).dinner(1), 8);
        check.due("STAYING can not, on the last LEAF", seeded("T0991G08100", first).dinner(1), 9);
        check.due("STAYING can not, one behind it", seeded("T0991G00100G01000", first).dinner(1), 9);
        LeafTable full = longOf(59);
        full.seed(first);
        check.due("FLATTERING can not at 59", full.dinner(1), 59);
        full.seed(seedThatDraws(1));
        check.due("BUSY can at 59", full.dinner(1), 60);
        // one after the other
        LeafTable one = seeded("T0391G01100G00100", 5);
        check.due("who could can no more", one.dinner(30), 2);
    }

    private void drawnFive() {
        long seed = seedThatDraws(5);
        LeafTable five = seeded("T0991G00000G01000G02000G03000G04000", seed);
        check.due("drawn 5", five.dinner(1), 9);
        check.due("THE SEED", five.seed(0), after(seed, 1).longValue());
    }

    private void onlyTheSeed() {
        LeafTable like = Dump.someTable();
        LeafTable dined = Dump.someTable();
        check.due("LENGTH then is another", dined.dinner(30) == like.count(2) ? 1 : 0, 0);
        check.due("THE SEED", dined.seed(Dump.SOME_SEED), after(Dump.SOME_SEED, 30).longValue());
        check.due("nothing else", Dump.of(dined).equals(Dump.of(like)) ? 1 : 0, 1);
    }

    private void seedThatWas() {
        LeafTable table = new LeafTable();
        long[] seeds = {0, 1, -1, Long.MIN_VALUE, Long.MAX_VALUE, 0};
        long was = 0;
        for (long seed : seeds) {
            check.due("seed(" + seed + ")", table.seed(seed), was);
            was = seed;
        }
    }

    private void dinnerAsAsked() {
        LeafTable table = seeded("T0991G00000G01300G02300G03300G04300", 7);
        int want = 9;
        for (int i = 1; i <= 30; i++) {
            want += drawn(after(7, i)) == 0 ? 1 : 0;
        }
        check.due("dinner(30)", table.dinner(30), want);
        check.due("LENGTH stays", table.count(2), 9);
    }

    private void noSuchTimes() {
        LeafTable table = seeded("T0991G00000", 7);
        int[] wrong = {0, 31, -1, 32, LEAST, GREATEST};
        for (int m : wrong) {
            check.due("dinner(" + m + ")", table.dinner(m), LeafTable.OUTSIDE);
        }
        check.due("THE SEED", table.seed(0), 7);
        check.due("dinner(1)", table.dinner(1) >= 9 ? 1 : 0, 1);
        check.due("dinner(30)", table.dinner(30) >= 9 ? 1 : 0, 1);
    }
}
