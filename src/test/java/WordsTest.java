/** Promises 16 and 17: comes, spoken. */
public final class WordsTest {
    private static final Check CHECK = new Check();

    public static void main(String[] args) {
        nobodyHears();
        earsOfThoseThatHear();
        allWordsComeBack();
        outside();
        CHECK.end("WordsTest");
    }

    private static void both(LeafTable table, int n, int said, int told) {
        CHECK.due("comes(" + n + ", " + said + ")", table.comes(n, said), told);
        CHECK.due("spoken(" + n + ", " + told + ")", table.spoken(n, told), said);
    }

    private static void nobodyHears() {
        both(new LeafTable(), 6, 32103, 32103);
        both(Check.laid("T3011G02003"), 4, 1230, 1230);
    }

    private static void earsOfThoseThatHear() {
        LeafTable one = Check.laid("T3019G02003");
        both(one, 4, 123, 3012);
        both(one, 1, 0, 3);
        both(one, 1, 1, 0);
        both(one, 6, 111111, 0);
        // 1 and 2 hear, the third does not: ears are 3 all told
        LeafTable two = Check.laid("T3013G01001G04002G08001");
        both(two, 4, 123, 3012);
        both(two, 2, 3, 32);
        // four ears of 3: 12 by 4 leaves nothing, three of them 1
        both(Check.laid("T3019G01003G02003G03003G04003"), 5, 123, 123);
        both(Check.laid("T3019G01003G02003G03003"), 5, 123, 11230);
        LeafTable five = Check.laid("T3019G01003G02003G03003G04003G05003");
        both(five, 2, 12, 1);
        // who goes out of reach hears no more
        LeafTable away = Check.laid("T3011G00001G01003");
        both(away, 3, 12, 12);
        away.say(0);
        both(away, 3, 12, 123);
    }

    private static void allWordsComeBack() {
        LeafTable table = Check.laid("T3019G01002G02003");
        for (int word = 0; word < 1 << 12; word++) {
            int figures = Integer.parseInt(Integer.toString(word, 4));
            int told = table.comes(6, figures);
            CHECK.due("spoken of what comes", table.spoken(6, told), figures);
        }
    }

    private static void outside() {
        LeafTable table = Check.laid("T3019G01001");
        int[][] wrong = {{0, 0}, {7, 0}, {-1, 0}, {1, -1}, {1, 4}, {1, 10}, {2, 40}, {2, 14}, {2, 19},
            {2, 100}, {3, 343}, {6, 1000000}, {6, 400000}, {6, Integer.MAX_VALUE}, {6, Integer.MIN_VALUE},
            {Integer.MAX_VALUE, 0}, {Integer.MIN_VALUE, 0}};
        for (int[] call : wrong) {
            CHECK.due("comes(" + call[0] + ", " + call[1] + ")", table.comes(call[0], call[1]), LeafTable.OUTSIDE);
            CHECK.due("spoken(" + call[0] + ", " + call[1] + ")", table.spoken(call[0], call[1]), LeafTable.OUTSIDE);
        }
        both(table, 6, 333333, 0);
    }
}
