/** Promises 11 to 15: passes, longBy, together, judge, share. */
public final class PlansTest {
    private static final Check CHECK = new Check();

    public static void main(String[] args) {
        passes();
        passesFromNowOn();
        longBy();
        longByWithin();
        together();
        judge();
        judgeOutside();
        judgeCold();
        share();
        shareFromNow();
        changesNothing();
        CHECK.end("PlansTest");
    }

    private static void most(String text, int count, int row) {
        LeafTable table = Check.laid(text);
        CHECK.due("passes(false) of " + text, table.passes(false), count);
        CHECK.due("passes(true) of " + text, table.passes(true), row);
    }

    private static void passes() {
        most("T3099", 0, 0);
        most("T3019G05010", 0, 0);
        most("T3099G05040", 1, 1);
        most("T3099G05050", 0, 0);
        // down the table all are served, up the table only some
        most("T3099G05000G03060G01080", 3, 321);
        most("T3099G03000G02000", 2, 12);
        most("T3069G05010G04020", 2, 21);
        most("T3049G03020G02020", 1, 2);
        most("T3059G03020G02020G01090", 2, 21);
        most("T3059G02030", 1, 1);
        most("T3099G00090G01080G02070G03060G04050", 5, 12345);
        most("T3099G04050G03060G02070G01080G00090", 5, 54321);
        most("T3099G00000G01000G02000G03000G04000", 5, 12345);
    }

    private static void passesFromNowOn() {
        LeafTable table = Check.laid("T3099G05040G06030G01080");
        table.pass(0);
        CHECK.due("the served count, too", table.passes(false), 2);
        CHECK.due("those left", table.passes(true), 2);
        table.pass(1);
        CHECK.due("none more", table.passes(false), 2);
        CHECK.due("no row", table.passes(true), 0);
        table.fetch();
        CHECK.due("warm again", table.passes(false), 3);
        CHECK.due("the third", table.passes(true), 3);
        // THE SOUP stands between two, of whom either can be served, not both
        LeafTable between = Check.laid("T3099G01040G05040G03300");
        between.pass(2);
        CHECK.due("either, not both", between.passes(false), 2);
        CHECK.due("the first of like rows", between.passes(true), 1);
    }

    private static void row(LeafTable table, int n, int count, int row) {
        CHECK.due("longBy(" + n + ", false)", table.longBy(n, false), count);
        CHECK.due("longBy(" + n + ", true)", table.longBy(n, true), row);
    }

    private static void longBy() {
        LeafTable table = Check.laid("T1011G02300G04000G06200G08100");
        row(table, 10, 0, 0);
        row(table, 11, 1, 2);
        row(table, 12, 1, 3);
        row(table, 13, 2, 23);
        row(table, 14, 2, 33);
        row(table, 15, 3, 233);
        row(table, 17, 4, 2333);
        row(table, 18, 4, 3333);
        row(table, 19, LeafTable.NONE, LeafTable.NONE);
        row(table, 9, 1, 4);
        // there is one leaf behind the last guest, and no more
        row(table, 8, LeafTable.NONE, LeafTable.NONE);
        CHECK.due("longBy(0)", table.longBy(0, true), LeafTable.OUTSIDE);
        CHECK.due("longBy(61)", table.longBy(61, false), LeafTable.OUTSIDE);
        CHECK.due("longBy(60)", table.longBy(60, false), LeafTable.NONE);
        CHECK.due("longBy(-5)", table.longBy(-5, false), LeafTable.OUTSIDE);
    }

    private static void longByWithin() {
        LeafTable table = Check.laid("T3011G00200G01100");
        for (int i = 0; i < 14; i++) {
            table.say(0);
        }
        table.undo();
        row(table, 56, 0, 0);
        row(table, 60, 2, 11);
        row(table, 59, 3, 112);
        row(table, 57, 2, 12);
        table.say(0);
        table.say(0);
        row(table, 60, 0, 0);
        row(table, 59, 1, 2);
        row(table, 58, 2, 22);
        LeafTable two = Check.laid("T0411G00100G01100");
        // the first can not, as long as the second sits behind it
        row(two, 3, 1, 2);
        row(two, 2, 2, 22);
        row(two, 1, LeafTable.NONE, LeafTable.NONE);
        LeafTable stays = Check.laid("T0511G00100G02100");
        row(stays, 4, 1, 1);
        row(stays, 3, 2, 12);
        row(stays, 2, 3, 122);
    }

    private static void drawn(String text, int count, int row) {
        LeafTable table = Check.laid(text);
        CHECK.due("together(false) of " + text, table.together(false), count);
        CHECK.due("together(true) of " + text, table.together(true), row);
    }

    private static void together() {
        drawn("T3011", 0, 0);
        drawn("T3011G01000", 0, 0);
        drawn("T3011G02000", LeafTable.NONE, LeafTable.NONE);
        drawn("T3011G01100G03000", 1, 1);
        drawn("T3011G01100G05000", 3, 111);
        drawn("T3011G01100G06000", 4, 1111);
        drawn("T3011G01100G07000", LeafTable.NONE, LeafTable.NONE);
        drawn("T3011G03100G01100G05000", 2, 12);
        drawn("T3012G00200G04000G02100", 0, 0);
        drawn("T3012G00300G05000G02100", 1, 3);
    }

    private static void judged(LeafTable table, int n, int row, int want) {
        CHECK.due("judge(" + n + ", " + row + ")", table.judge(n, row), want);
    }

    private static void judge() {
        LeafTable table = Check.laid("T0491G01100G03000");
        judged(table, 1, 0, LeafTable.NONE);
        judged(table, 2, 0, 1);
        judged(table, 1, 1, LeafTable.NONE);
        judged(table, 1, 2, 0);
        judged(table, 1, 4, 0);
        judged(table, 6, 111111, LeafTable.NONE);
        judged(table, 6, 111112, 5);
        judged(table, 3, 0, 1);
        judged(table, 3, 10, 2);
        judged(table, 3, 17, 2);
        judged(table, 1, 7, 0);
        judged(table, 1, 8, 0);
        judged(table, 1, 9, 0);
        judged(table, 1, 5, LeafTable.NONE);
        judged(table, 6, 555555, LeafTable.NONE);
        judged(table, 4, 6005, 2);
        judged(Check.laid("T0491G01100"), 1, 5, LeafTable.NONE);
        LeafTable empty = new LeafTable();
        judged(empty, 6, 666666, LeafTable.NONE);
        judged(empty, 6, 666665, 5);
        judged(empty, 1, 0, 0);
    }

    private static void judgeOutside() {
        LeafTable table = new LeafTable();
        judged(table, 0, 0, LeafTable.OUTSIDE);
        judged(table, 7, 0, LeafTable.OUTSIDE);
        judged(table, -1, 0, LeafTable.OUTSIDE);
        judged(table, 1, -1, LeafTable.OUTSIDE);
        judged(table, 1, 10, LeafTable.OUTSIDE);
        judged(table, 1, 9, 0);
        judged(table, 6, 999999, 0);
        judged(table, 6, 1000000, LeafTable.OUTSIDE);
        judged(table, 6, Integer.MAX_VALUE, LeafTable.OUTSIDE);
        judged(table, Integer.MAX_VALUE, 1, LeafTable.OUTSIDE);
    }

    private static void judgeCold() {
        // 4 warm: the leaf of the farthest one is 3 away, then 4
        LeafTable table = Check.laid("T0641G01000G03300");
        judged(table, 1, 5, LeafTable.NONE);
        judged(table, 2, 5, 1);
        judged(table, 2, 55, LeafTable.NONE);
        judged(table, 2, 15, LeafTable.NONE);
        judged(table, 3, 50, 1);
        judged(table, 3, 505, LeafTable.NONE);
        judged(table, 3, 561, LeafTable.NONE);
        // THE SOUP is 0 warm behind a saying, too
        LeafTable cold = Check.laid("T0911G05000G07000");
        cold.pass(0);
        judged(cold, 1, 0, 0);
        judged(cold, 2, 60, LeafTable.NONE);
        judged(cold, 2, 65, 1);
        // the one on the greatest leaf, not the last one told
        LeafTable turned = Check.laid("T0931G02000G01000");
        judged(turned, 1, 5, LeafTable.NONE);
        judged(turned, 2, 15, 1);
    }

    private static void shared(String text, int guest, int above, int below) {
        LeafTable table = Check.laid(text);
        CHECK.fraction("share(" + guest + ") of " + text,
            table.share(guest, true), table.share(guest, false), above, below);
    }

    private static void share() {
        shared("T3099G05000", 0, 1, 1);
        shared("T3019G05010", 0, 0, 1);
        shared("T3049G03010G00050", 0, 1, 1);
        shared("T3049G03010G00050", 1, 0, 1);
        shared("T3029G01010G02020", 0, 1, 1);
        shared("T3029G01010G02020", 1, 0, 1);
        CHECK.due("share(2)", Check.laid("T3029G01010G02020").share(2, true), LeafTable.UNKNOWN);
        CHECK.due("share(2) below", Check.laid("T3029G01010G02020").share(2, false), LeafTable.UNKNOWN);
        CHECK.due("share(-1)", Check.laid("T3029G01010G02020").share(-1, true), LeafTable.UNKNOWN);
        CHECK.due("share(0) of none", new LeafTable().share(0, false), LeafTable.UNKNOWN);
    }

    private static void shareFromNow() {
        LeafTable between = Check.laid("T3099G01050G05040G03300G00090");
        between.pass(2);
        // at 6 warm on leaf 3: the first at 4, too cold; the second at 4: served; the third at 6
        CHECK.fraction("share(0)", between.share(0, true), between.share(0, false), 0, 1);
        CHECK.fraction("share(1)", between.share(1, true), between.share(1, false), 1, 1);
        CHECK.fraction("share(2)", between.share(2, true), between.share(2, false), 1, 1);
        CHECK.fraction("share(3)", between.share(3, true), between.share(3, false), 0, 1);
        LeafTable either = Check.laid("T3099G01040G05040G03340");
        either.pass(2);
        // either of the two, not both; the third always
        CHECK.fraction("either: share(0)", either.share(0, true), either.share(0, false), 1, 2);
        CHECK.fraction("either: share(1)", either.share(1, true), either.share(1, false), 1, 2);
        CHECK.fraction("either: share(2)", either.share(2, true), either.share(2, false), 1, 1);
        LeafTable three = Check.laid("T3099G01040G05040G03390G02050");
        three.pass(2);
        // 0, 1, 3 alone are served; 3, then 0 at 4: both; 1 with neither of them; 2 never
        CHECK.fraction("three: share(0)", three.share(0, true), three.share(0, false), 5, 6);
        CHECK.fraction("three: share(1)", three.share(1, true), three.share(1, false), 1, 3);
        CHECK.fraction("three: share(2)", three.share(2, true), three.share(2, false), 0, 1);
        CHECK.fraction("three: share(3)", three.share(3, true), three.share(3, false), 5, 6);
    }

    private static void changesNothing() {
        LeafTable table = Check.laid("T1291G02020G03103G05030G08212G11120");
        table.pass(0);
        table.say(1);
        table.say(0);
        table.passes(true);
        table.longBy(20, true);
        table.together(true);
        table.judge(6, 565656);
        table.share(3, true);
        table.comes(3, 123);
        table.spoken(3, 123);
        table.hosts(4, true);
        table.come(5, 12, true);
        table.dinner(30);
        CHECK.counts("behind plans", table, 12, 2, 7, 1);
        CHECK.leaves("behind plans", table, 2, 4, 5, 8, 11);
        CHECK.due("acts", table.count(8), 3);
    }
}
