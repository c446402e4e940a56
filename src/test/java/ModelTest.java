import java.util.Random;

/** Dinners by chance (of a fixed seed), told to the class and to the model: all answers are the same. */
public final class ModelTest {
    private static final int RUNS = 400;
    private static final Check CHECK = new Check();

    private final Random random;
    private final LeafTable table = new LeafTable();
    private final Model model = new Model();
    private int calls;

    private ModelTest(long seed) {
        random = new Random(seed);
    }

    public static void main(String[] args) {
        int runs = args.length > 0 ? Integer.parseInt(args[0]) : RUNS;
        for (int i = 0; i < runs; i++) {
            new ModelTest(i).run();
        }
        for (int i = 0; i < 20 * runs; i++) {
            new ModelTest(i).faults();
        }
        CHECK.end("ModelTest");
    }

    private void run() {
        writeBoth(someTable());
        due("lay()", table.lay(), model.lay());
        if (random.nextInt(4) == 0) {
            lengthen();
        }
        while (calls < 400) {
            step(random.nextInt(30));
            if (random.nextInt(4) == 0) {
                compareState();
            }
        }
    }

    private void due(String call, long got, long want) {
        calls++;
        CHECK.due(call, got, want);
    }

    private int within(int least, int greatest) {
        return random.nextInt(30) == 0
            ? new int[] {least - 1, greatest + 1, Integer.MIN_VALUE, Integer.MAX_VALUE}[random.nextInt(4)]
            : least + random.nextInt(greatest - least + 1);
    }

    private void lengthen() {
        for (int i = 0; i < 30; i++) {
            int guest = random.nextInt(5);
            due("say(" + guest + ")", table.say(guest), model.say(guest));
        }
    }

    private void compareState() {
        for (int what = 0; what <= 10; what++) {
            due("count(" + what + ")", table.count(what), model.count(what));
        }
        int guest = random.nextInt(5);
        for (int what = 0; what <= 5; what++) {
            due("guest(" + guest + ", " + what + ")", table.guest(guest, what), model.guest(guest, what));
        }
    }

    private void step(int which) {
        boolean flag = random.nextBoolean();
        int guest = within(0, 4);
        switch (which) {
            case 0 -> due("fault()", table.fault(), model.fault());
            case 1 -> relay();
            case 2, 3, 4, 5, 6 -> due("say(" + guest + ")", table.say(guest), model.say(guest));
            case 7, 8, 9 -> due("pass(" + guest + ")", table.pass(guest), model.pass(guest));
            case 10 -> due("fetch()", table.fetch(), model.fetch());
            case 11 -> due("undo()", table.undo(), model.undo());
            case 12 -> due("passes(" + flag + ")", table.passes(flag), model.passes(flag));
            case 13, 14 -> longBy(flag);
            case 15 -> due("together(" + flag + ")", table.together(flag), model.together(flag));
            case 16, 17 -> judge();
            case 18 -> share(guest, flag);
            case 19 -> words();
            case 20 -> dine();
            case 21 -> laws();
            case 22, 23 -> hosts(within(1, 4), flag);
            case 24, 25 -> come(within(0, 10), flag);
            case 26 -> seed();
            case 27 -> dinner(within(1, 30));
            default -> slots(within(0, 1), flag);
        }
    }

    private void relay() {
        if (random.nextInt(3) == 0) {
            writeBoth(random.nextInt(4) == 0 ? spoilt(someTable()) : someTable());
            due("lay()", table.lay(), model.lay());
        }
    }

    private void longBy(boolean flag) {
        int n = random.nextInt(3) == 0 ? within(1, 60) : model.count(2) + random.nextInt(13) - 4;
        due("longBy(" + n + ", " + flag + ")", table.longBy(n, flag), model.longBy(n, flag));
    }

    private void judge() {
        int n = within(1, 6);
        int row = 0;
        for (int i = 0; i < Math.min(n, 6); i++) {
            row = row * 10 + (random.nextInt(20) == 0 ? random.nextInt(10) : random.nextInt(7));
        }
        if (random.nextInt(20) == 0) {
            row = within(0, 999999);
        }
        due("judge(" + n + ", " + row + ")", table.judge(n, row), model.judge(n, row));
    }

    private void share(int guest, boolean flag) {
        if (random.nextInt(8) == 0) {
            due("share(" + guest + ", " + flag + ")", table.share(guest, flag), model.share(guest, flag));
        }
    }

    private void words() {
        int n = within(1, 6);
        int word = 0;
        for (int i = 0; i < Math.min(n, 6); i++) {
            word = word * 10 + random.nextInt(random.nextInt(20) == 0 ? 10 : 4);
        }
        due("comes(" + n + ", " + word + ")", table.comes(n, word), model.comes(n, word));
        due("spoken(" + n + ", " + word + ")", table.spoken(n, word), model.spoken(n, word));
    }

    private void dine() {
        if (random.nextInt(4) == 0) {
            due("clear()", table.clear(), model.clear());
        }
        int[] law = {1, -1, 2, 0};
        int spoke = 0;
        int v = random.nextInt(8) == 0 ? random.nextInt(3) : 0;
        for (int i = 0; i < 4; i++) {
            int many = random.nextInt(3) == 0 ? random.nextInt(10) : 0;
            spoke = spoke * 10 + many;
            v += law[i] * many;
        }
        spoke = random.nextInt(20) == 0 ? within(0, 9999) : spoke;
        v = random.nextInt(20) == 0 ? within(-40, 40) : v;
        due("dine(" + spoke + ", " + v + ")", table.dine(spoke, v), model.dine(spoke, v));
    }

    private void laws() {
        int what = within(0, 2);
        due("laws(" + what + ")", table.laws(what), model.laws(what));
    }

    private void hosts(int n, boolean flag) {
        due("hosts(" + n + ", " + flag + ")", table.hosts(n, flag), model.hosts(n, flag));
    }

    private void come(int x, boolean flag) {
        int n = random.nextInt(3) == 0 ? within(1, 60) : model.count(2) + random.nextInt(11) - 4;
        due("come(" + x + ", " + n + ", " + flag + ")", table.come(x, n, flag), model.come(x, n, flag));
    }

    private void seed() {
        long v = random.nextLong();
        due("seed(" + v + ")", table.seed(v), model.seed(v));
    }

    private void dinner(int m) {
        due("dinner(" + m + ")", table.dinner(m), model.dinner(m));
    }

    private void slots(int slot, boolean flag) {
        if (flag) {
            due("keep(" + slot + ")", table.keep(slot), model.keep(slot));
        } else {
            due("again(" + slot + ")", table.again(slot), model.again(slot));
        }
    }

    private void writeBoth(String text) {
        due("wipe()", table.wipe(), model.wipe());
        for (char letter : text.toCharArray()) {
            due("write(" + (int) letter + ")", table.write(letter), model.write(letter));
        }
    }

    private String someTable() {
        boolean isNarrow = random.nextBoolean();
        int length = isNarrow ? 1 + random.nextInt(9) : 1 + random.nextInt(30);
        StringBuilder text = new StringBuilder("T").append(pair(length))
            .append(1 + random.nextInt(9)).append(1 + random.nextInt(random.nextBoolean() ? 9 : 3));
        boolean[] taken = new boolean[length];
        int many = random.nextInt(6);
        for (int i = 0; i < many && i < length; i++) {
            int leaf = random.nextInt(length);
            while (taken[leaf]) {
                leaf = random.nextInt(length);
            }
            taken[leaf] = true;
            text.append('G').append(pair(leaf)).append(random.nextInt(4))
                .append(random.nextInt(10)).append(random.nextInt(4));
        }
        return text.toString();
    }

    private static String pair(int number) {
        return (number < 10 ? "0" : "") + number;
    }

    /** A text with a letter of it changed, or cut, or one more. */
    private String spoilt(String text) {
        StringBuilder result = new StringBuilder(text);
        int place = random.nextInt(text.length());
        String letters = "TG0123456789012345678901230123G/:";
        char letter = letters.charAt(random.nextInt(letters.length()));
        switch (random.nextInt(4)) {
            case 0 -> result.setLength(place);
            case 1 -> result.insert(place, letter);
            case 2 -> result.append("G0").append(letter);
            default -> result.setCharAt(place, letter);
        }
        return result.toString();
    }

    private void faults() {
        String text = someTable();
        if (random.nextInt(3) == 0) {
            text = "T" + pair(1 + random.nextInt(12)) + text.substring(3);
        }
        writeBoth(random.nextInt(6) == 0 ? text : spoilt(text));
        due("fault() of " + text, table.fault(), model.fault());
        due("lay() of " + text, table.lay(), model.lay());
    }
}
