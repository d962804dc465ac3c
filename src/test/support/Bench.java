/** What the tests by hand share: the count of wrong answers, texts as bytes, and villages to begin with. */
abstract class Bench {
    static final int LOW = Integer.MIN_VALUE;
    static final int HIGH = Integer.MAX_VALUE;
    static final int NO_ARREARS = -1000000;
    static final int NO_BALANCE = -2000000001;
    static final String[] NO_NAMES = {"day", "left", "right", "wicks", "work", "ill", "feast", "away", "drunk"};

    private static int wrong = 0;
    private static int asked = 0;
    private static String tested = "";

    interface Call {
        long on(TombLane x);
    }

    /** What is tested from here on: a promise, or a sentence of the document. */
    static void testing(String words) {
        tested = words;
    }

    static void due(String call, long got, long want) {
        asked++;
        if (got != want) {
            wrong++;
            System.out.println(tested + ": " + call + " answered " + got + ", due is " + want);
        }
    }

    static void due(String call, boolean got, boolean want) {
        due(call, got ? 1 : 0, want ? 1 : 0);
    }

    static void close() {
        System.out.println(wrong == 0 ? "all " + asked + " answers are as due" : wrong + " answers are not as due");
        if (wrong != 0) {
            System.exit(1);
        }
    }

    static long name(String letters) {
        long bytes = 0;
        for (int i = 0; i < letters.length(); i++) {
            bytes = bytes << 8 | letters.charAt(i);
        }
        return bytes;
    }

    static int four(String text, int from) {
        int bytes = 0;
        for (int i = from; i < from + 4; i++) {
            bytes = bytes << 8 | (i < text.length() ? text.charAt(i) : ' ');
        }
        return bytes;
    }

    static int feed(TombLane x, String twenty) {
        return x.feed(four(twenty, 0), four(twenty, 4), four(twenty, 8), four(twenty, 12), four(twenty, 16));
    }

    static void write(TombLane x, String text) {
        int before = x.about(5);
        for (int i = 0; i < text.length(); i += 20) {
            feed(x, text.substring(i));
        }
        x.end(before + text.length());
    }

    static int find(TombLane x, String text) {
        write(x, text);
        return x.flake();
    }

    /** ani, bek, kha of the left gang, pai of the right one, of the ranks 0 to 3. */
    static TombLane village() {
        TombLane x = new TombLane();
        x.man(name("ani"), 0, 0);
        x.man(name("bek"), 0, 1);
        x.man(name("kha"), 0, 2);
        x.man(name("pai"), 1, 3);
        return x;
    }

    /** a to l, those at even numbers of the left gang. */
    static TombLane crowd() {
        TombLane x = new TombLane();
        for (int i = 0; i < 12; i++) {
            x.man('a' + i, i % 2, i % 4);
        }
        return x;
    }

    /** A village with something of everything. */
    static TombLane busy() {
        TombLane x = village();
        x.ration(1, 9);
        x.worth(2, 0, 7);
        x.come(0, 20, 3);
        x.debt(0, 1, 2, 4, 10);
        x.debt(1, 3, 0, 5, 11);
        x.debt(2, 3, 1, 6, 12);
        x.pay(1, 15);
        find(x, "day 5 left: ani ill; day 6 left: bek ? wicks 4;");
        find(x, "day 7 left: ? wicks 2; day 8 right:;");
        x.later(3);
        x.giveUp(1);
        find(x, "day 5 left: zed");
        write(x, "day 9 left: ani ill;");
        return x;
    }

    /** All that can be seen of an object; reads its tape at last. Fewer than 250 calls. */
    static String seen(TombLane x) {
        StringBuilder seen = new StringBuilder();
        for (int what = 0; what < 15; what++) {
            seen.append(x.about(what)).append(' ');
        }
        seen.append(x.fault(0)).append(' ').append(x.fault(1)).append(' ');
        for (int man = 0; man < 12; man++) {
            seen.append(x.of(man, 0)).append(' ').append(x.of(man, 1)).append(' ').append(x.of(man, 2)).append(' ');
            seen.append(x.arrears(man, 19)).append(' ').append(x.arrears(man, 3599)).append(' ');
            seen.append(x.balance(man, 14)).append(' ').append(x.balance(man, 3599)).append(' ');
            for (int day = 5; day < 10; day++) {
                seen.append(x.day(man, day, HIGH)).append(' ');
            }
            seen.append(x.span(man, 0, 0, true)).append(' ');
        }
        seen.append(x.fewest(3599)).append(' ');
        seen.append(x.flake()).append(' ').append(x.fault(0)).append(' ').append(x.fault(1)).append(' ');
        return seen.append(x.about(12)).toString();
    }

    /** The call answers so, and nothing of a busy object is another one behind it. */
    static void dueRefused(String call, Call refused, long answer) {
        TombLane x = busy();
        due(call, refused.on(x), answer);
        due(call + " does nothing", seen(x).equals(seen(busy())), true);
    }

    /** The text is a flake (fault 0), or has this fault at this place, read by a village with abcdefgh, too. */
    static void dueFault(String text, int fault, int place) {
        TombLane x = village();
        x.man(name("abcdefgh"), 0, 0);
        due("flake of " + text, find(x, text), fault == 0 ? 0 : -1);
        due("fault(0) of " + text, x.fault(0), fault);
        due("fault(1) of " + text, x.fault(1), place);
        due("about(1) behind " + text, x.about(1), fault == 0 ? 1 : 0);
        due("about(5) behind " + text, x.about(5), 0);
    }
}
