/** What the tests share: answers compared with what is due, and texts laid. */
final class Check {
    private int wrong;
    private int checked;
    private String about = "";

    void due(String call, long got, long want) {
        checked++;
        if (got != want) {
            wrong++;
            System.out.println(about + call + " answered " + got + ", due is " + want);
        }
    }

    /** What the next checks are about, told ahead of each that is wrong. */
    void about(String words) {
        about = words.isEmpty() ? "" : words + ": ";
    }

    int checked() {
        return checked;
    }

    void end(String name) {
        System.out.println(name + ": " + checked + " checked, " + wrong + " wrong");
        if (wrong != 0) {
            System.exit(1);
        }
    }

    static void write(LeafTable table, String text) {
        table.wipe();
        for (int i = 0; i < text.length(); i++) {
            table.write(text.charAt(i));
        }
    }

    static LeafTable written(String text) {
        LeafTable table = new LeafTable();
        write(table, text);
        return table;
    }

    /** A new object on which the text has been laid; the text must be without a fault. */
    static LeafTable laid(String text) {
        LeafTable table = written(text);
        if (table.lay() < 0) {
            throw new IllegalStateException("not laid: " + text);
        }
        return table;
    }

    /** A table of 30 leaves, made so long by its guests 0 (FLATTERING) and 1 (BUSY). */
    static LeafTable lengthened(String text, int leaves) {
        LeafTable table = laid(text);
        for (int length = 30; length < leaves; ) {
            boolean isByTwo = length + 2 <= leaves;
            table.say(isByTwo ? 0 : 1);
            length += isByTwo ? 2 : 1;
        }
        return table;
    }

    void fault(String text, int want) {
        due("fault() of \"" + text + "\"", written(text).fault(), want);
    }

    /** The leaves of the first guests, as they are due. */
    void leaves(String when, LeafTable table, int... want) {
        for (int i = 0; i < want.length; i++) {
            due(when + ": guest(" + i + ", 0)", table.guest(i, 0), want[i]);
        }
    }

    /** LENGTH, the soup's leaf and warmth, who is served. */
    void counts(String when, LeafTable table, int length, int soup, int warmth, int served) {
        due(when + ": count(2)", table.count(2), length);
        due(when + ": count(4)", table.count(4), soup);
        due(when + ": count(5)", table.count(5), warmth);
        due(when + ": count(6)", table.count(6), served);
    }

    void fraction(String call, int above, int below, int wantAbove, int wantBelow) {
        due(call + " above", above, wantAbove);
        due(call + " below", below, wantBelow);
    }
}
