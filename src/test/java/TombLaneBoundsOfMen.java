/** Each sentence that names a boundary of the men, the tape, the flakes and the date (promises 1 to 8, 21, 22). */
public final class TombLaneBoundsOfMen extends Bench {
    public static void main(String[] args) {
        newObject();
        twelveMenAtMost();
        twoGangs();
        fourRanks();
        namesOfTheirOwn();
        namesOfOneToEightLetters();
        namesOfLettersAlone();
        namesWithZerosAhead();
        noNames();
        refusedMan();
        ofNoneSuch();
        twentyBytesHighestFirst();
        threeHundredBytes();
        feedAboveThreeHundred();
        endOfTape();
        endRefused();
        cutBytesAreGone();
        fortyFlakes();
        foundNow();
        faultBringsNone();
        giveUpOnce();
        giveUpNoneSuch();
        knownFromFoundToGivenUp();
        givenUpOnTheSameDate();
        datesThatNeverCome();
        laterByZeroToThousand();
        laterAboveTheLastDate();
        aboutCounts();
        aboutAnotherWhat();
        close();
    }

    private static void newObject() {
        testing("1: No MEN; DATE 0");
        TombLane x = new TombLane();
        due("MEN", x.about(0), 0);
        due("DATE", x.about(2), 0);
        due("FLAKES", x.about(1), 0);
        due("sacks", x.about(3), 0);
        due("DEBTS", x.about(4), 0);
        due("TAPE", x.about(5), 0);
        due("no flake() yet: FAULT", x.fault(0), 0);
        due("no flake() yet: place", x.fault(1), -1);
        due("man 0", x.of(0, 0), -1);
        due("day of man 0", x.day(0, 0, 0), -1);
        due("span of man 0", x.span(0, 0, 0, true), -1);
        due("missed by man 0", x.missed(0, 0, 2, 0), -1);
        due("arrears of man 0", x.arrears(0, 0), NO_ARREARS);
        due("balance of man 0", x.balance(0, 0), NO_BALANCE);
        due("come to man 0", x.come(0, 0, 1), -1);
        due("debt of man 0", x.debt(0, 1, 0, 1, 0), -1);
        due("wicks of no men", x.wicks(1, 0, 0), 0);
        due("fewest of no men", x.fewest(0), 0);
        due("giveUp(0)", x.giveUp(0), false);
        due("pay(0, 0)", x.pay(0, 0), false);
    }

    private static void twelveMenAtMost() {
        testing("MEN, 12 at most (numbered from 0 on); 2: NONE, doing nothing, if there are 12");
        TombLane x = new TombLane();
        for (int i = 0; i < 12; i++) {
            due("man " + i, x.man(name("m" + (char) ('a' + i)), i % 2, 0), i);
            due("MEN", x.about(0), i + 1);
        }
        due("a 13th", x.man(name("x"), 0, 0), -1);
        due("a 14th", x.man(name("y"), 1, 3), -1);
        due("MEN", x.about(0), 12);
        due("the 12th is there", x.of(11, 2), 2);
        due("a 13th is not", x.of(12, 2), -1);
        due("the 13th's NAME", find(x, "day 1 left: x ill;"), -1);
        due("is none", x.fault(0), 4);
    }

    private static void twoGangs() {
        testing("of the LEFT (0) or the RIGHT (1) gang");
        TombLane x = new TombLane();
        due("left", x.man(name("l"), 0, 0), 0);
        due("right", x.man(name("r"), 1, 0), 1);
        due("of the left", x.of(0, 0), 0);
        due("of the right", x.of(1, 0), 1);
        for (int side : new int[] {-1, 2, LOW, HIGH}) {
            dueRefused("side " + side, v -> v.man(name("n"), side, 0), -1);
        }
    }

    private static void fourRanks() {
        testing("of a RANK (0 .. 3)");
        TombLane x = new TombLane();
        for (int rank = 0; rank < 4; rank++) {
            due("rank " + rank, x.man('a' + rank, 0, rank), rank);
            due("his rank", x.of(rank, 1), rank);
        }
        for (int rank : new int[] {-1, 4, LOW, HIGH}) {
            dueRefused("rank " + rank, v -> v.man(name("n"), 0, rank), -1);
        }
    }

    private static void namesOfTheirOwn() {
        testing("2: NONE, doing nothing, if the NAME is told already");
        dueRefused("the same", v -> v.man(name("ani"), 0, 0), -1);
        dueRefused("in the other gang", v -> v.man(name("ani"), 1, 0), -1);
        dueRefused("of another rank", v -> v.man(name("pai"), 1, 0), -1);
        TombLane x = village();
        due("a longer one", x.man(name("anii"), 0, 0), 4);
        due("a shorter one", x.man(name("an"), 0, 0), 5);
        due("its end", x.man(name("ni"), 0, 0), 6);
        due("backwards", x.man(name("ina"), 0, 0), 7);
        due("the last told, again", x.man(name("ina"), 0, 0), -1);
        TombLane other = new TombLane();
        due("told to another object alone", other.man(name("ani"), 0, 0), 0);
    }

    private static void namesOfOneToEightLetters() {
        testing("a NAME: 1 to 8 letters; 21: letters of his NAME");
        dueRefused("no letter", v -> v.man(0, 0, 0), -1);
        TombLane x = new TombLane();
        for (int letters = 1; letters <= 8; letters++) {
            due(letters + " letters", x.man(name("zyxwvuts".substring(0, letters)), 0, 0), letters - 1);
            due("so many", x.of(letters - 1, 2), letters);
        }
    }

    private static void namesOfLettersAlone() {
        testing("a NAME: letters a .. z");
        for (int c = 0; c < 256; c++) {
            boolean letter = c >= 'a' && c <= 'z';
            due("byte " + c, new TombLane().man(c, 0, 0), letter ? 0 : -1);
            due("byte " + c + " last", new TombLane().man(name("a" + (char) c), 0, 0), letter ? 0 : -1);
            due("byte " + c + " within", new TombLane().man(name("a" + (char) c + "z"), 0, 0), letter ? 0 : -1);
            String eight = (char) c + "bcdefgh";
            due("byte " + c + " of 8", new TombLane().man(name(eight), 0, 0), letter || c == 0 ? 0 : -1);
        }
        dueRefused("-1", v -> v.man(-1, 0, 0), -1);
        dueRefused("the lowest", v -> v.man(Long.MIN_VALUE, 0, 0), -1);
        dueRefused("the highest", v -> v.man(Long.MAX_VALUE, 0, 0), -1);
        dueRefused("a sign above eight letters", v -> v.man(name("abcdefgh") | Long.MIN_VALUE, 0, 0), -1);
    }

    private static void namesWithZerosAhead() {
        testing("given as the bytes of a long, the highest first, 0s ahead left out");
        for (int zeros = 1; zeros <= 7; zeros++) {
            long behind = (long) 'a' << 8 * zeros;
            dueRefused(zeros + " 0s behind", v -> v.man(behind, 0, 0), -1);
        }
        dueRefused("a 0 within", v -> v.man(name("a\0b"), 0, 0), -1);
        TombLane x = new TombLane();
        due("ab", x.man(0x6162L, 0, 0), 0);
        due("the highest first", find(x, "day 1 left: ab ill;"), 0);
        due("the lowest first", find(x, "day 1 left: ba ill;"), -1);
        due("told", x.day(0, 1, 0), 2);
    }

    private static void noNames() {
        testing("day left right wicks and the REASONS are no NAMES");
        for (String word : NO_NAMES) {
            dueRefused(word, v -> v.man(name(word), 0, 0), -1);
            TombLane x = new TombLane();
            due(word + "s", x.man(name(word + "s"), 0, 0), 0);
            due(word + ", less a letter", x.man(name(word.substring(0, word.length() - 1)), 0, 0), 1);
            due(word + " as an entry", find(x, "day 1 left: " + word + " ill;"), -1);
            due("its FAULT", x.fault(0), 2);
            // wicks may stand there, but only as the wicks.
            due("its place", x.fault(1), word.equals("wicks") ? 18 : 12);
        }
        due("gap is one", new TombLane().man(name("gap"), 0, 0), 0);
    }

    private static void refusedMan() {
        testing("2: NONE, doing nothing");
        TombLane x = new TombLane();
        due("side 2", x.man(name("b"), 2, 0), -1);
        due("rank 4", x.man(name("b"), 0, 4), -1);
        due("the NAME is not told by these", x.man(name("b"), 0, 0), 0);
        due("nor does a refused one change him", x.man(name("b"), 1, 3), -1);
        due("side", x.of(0, 0), 0);
        due("rank", x.of(0, 1), 0);
    }

    private static void ofNoneSuch() {
        testing("21: NONE if there is none such");
        TombLane x = village();
        for (int what = 0; what <= 2; what++) {
            due("man 3 what " + what, x.of(3, what) >= 0, true);
            for (int man : new int[] {-1, 4, 11, 12, LOW, HIGH}) {
                due("man " + man + " what " + what, x.of(man, what), -1);
            }
        }
        for (int what : new int[] {-1, 3, LOW, HIGH}) {
            due("what " + what, x.of(0, what), -1);
        }
    }

    private static void twentyBytesHighestFirst() {
        testing("3: Twenty bytes come behind those on the TAPE, of each number the highest first");
        TombLane x = village();
        due("twenty", x.feed(0x64617920, 0x35206c65, 0x66743a20, 0x616e6920, 0x696c6c20), 20);
        due("twenty more", x.feed(0x62656b20, 0x6472756e, 0x6b207769, 0x636b7320, 0x323b2020), 40);
        due("day 5 left: ani ill bek drunk wicks 2;", x.flake(), 0);
        due("ani", x.day(0, 5, 0), 2);
        due("bek", x.day(1, 5, 0), 5);
        // A byte of each of the five numbers, at each of their four places, is where it belongs.
        for (int at = 0; at < 20; at++) {
            int[] numbers = {0x20202020, 0x20202020, 0x20202020, 0x20202020, 0x20202020};
            numbers[at / 4] |= 0x80 << 24 - at % 4 * 8;
            TombLane y = new TombLane();
            y.feed(numbers[0], numbers[1], numbers[2], numbers[3], numbers[4]);
            due("byte " + at, y.flake(), -1);
            due("no TOKEN", y.fault(0), 1);
            due("place", y.fault(1), at);
        }
    }

    private static void threeHundredBytes() {
        testing("FLAKES are texts of at most 300 bytes");
        TombLane x = village();
        String text = "day 1 left: ani ill bek away ?;";
        write(x, " ".repeat(300 - text.length()) + text);
        due("bytes", x.about(5), 300);
        due("read to the last", x.flake(), 0);
        due("told", x.day(1, 1, 0), 4);
        write(x, " ".repeat(299) + "X");
        due("the last byte is no TOKEN", x.flake(), -1);
        due("FAULT", x.fault(0), 1);
        due("place", x.fault(1), 299);
        write(x, " ".repeat(297) + "day");
        due("the end behind the last byte", x.flake(), -1);
        due("FAULT", x.fault(0), 2);
        due("place", x.fault(1), 300);
    }

    private static void feedAboveThreeHundred() {
        testing("3: NONE, and nothing comes, if there would be more than 300");
        for (int before = 278; before <= 300; before++) {
            TombLane x = new TombLane();
            write(x, " ".repeat(before));
            due("bytes ahead", x.about(5), before);
            due("feed behind " + before, feed(x, "X"), before <= 280 ? before + 20 : -1);
            due("bytes then", x.about(5), before <= 280 ? before + 20 : before);
            due("the text", x.flake(), before <= 280 ? -1 : 0);
        }
        TombLane x = new TombLane();
        for (int i = 1; i <= 15; i++) {
            due("feed " + i, feed(x, ""), 20 * i);
        }
        due("a 16th", feed(x, ""), -1);
        x.end(280);
        due("room again", feed(x, ""), 300);
    }

    private static void endOfTape() {
        testing("4: The TAPE has its first n bytes: n");
        TombLane x = new TombLane();
        due("0 of none", x.end(0), 0);
        feed(x, "");
        due("all", x.end(20), 20);
        due("one less", x.end(19), 19);
        due("bytes", x.about(5), 19);
        due("one", x.end(1), 1);
        due("none", x.end(0), 0);
        due("bytes", x.about(5), 0);
        write(x, " ".repeat(300));
        due("300", x.end(300), 300);
    }

    private static void endRefused() {
        testing("4: NONE, doing nothing, if it has not so many, or n is below 0");
        for (int n : new int[] {-1, 21, 300, 301, LOW, HIGH}) {
            dueRefused("end(" + n + ") of 20", v -> v.end(n), -1);
        }
        TombLane x = new TombLane();
        due("end(1) of none", x.end(1), -1);
        due("end(-1) of none", x.end(-1), -1);
        write(x, " ".repeat(300));
        due("end(301) of 300", x.end(301), -1);
        x.end(7);
        due("end(8) of 7: cut ones are gone", x.end(8), -1);
        due("bytes", x.about(5), 7);
    }

    private static void cutBytesAreGone() {
        testing("3, 4: behind end(n) bytes come behind the n");
        TombLane x = village();
        feed(x, "day 5 left: ani ill;");
        x.end(16);
        feed(x, "away;");
        x.end(21);
        due("day 5 left: ani away;", x.flake(), 0);
        due("away", x.day(0, 5, 0), 4);
        feed(x, "XXXXXXXXXXXXXXXXXXXX");
        x.end(0);
        due("nothing is left", x.flake(), 1);
    }

    private static void fortyFlakes() {
        testing("A FLAKE, 40 at most; 5: -2, and the TAPE stays: there are 40; 6: not -2");
        TombLane x = village();
        for (int i = 0; i < 39; i++) {
            due("flake " + i, x.flake(), i);
        }
        due("a FAULT among 39", find(x, "X"), -1);
        due("is told", x.fault(0), 1);
        due("the 40th", find(x, "day 39 left: ani ill;"), 39);
        due("tells none", x.fault(0), 0);
        write(x, "day 40 left: ani ill;");
        due("a 41st", x.flake(), -2);
        due("FLAKES", x.about(1), 40);
        due("the TAPE stays", x.about(5), 21);
        due("lines of the 40th", x.about(49), 1);
        due("lines of a 41st", x.about(50), -1);
        due("the 41st tells nothing", x.day(0, 40, HIGH), 0);
        x.end(3);
        due("one with a FAULT", x.flake(), -2);
        due("the TAPE stays", x.about(5), 3);
        due("FAULT of the latest that was not -2", x.fault(0), 0);
        due("its place", x.fault(1), -1);
        x.end(0);
        due("an empty one", x.flake(), -2);
        due("giveUp(39)", x.giveUp(39), true);
        due("GIVEN UP is a FLAKE still", x.flake(), -2);
        due("giveUp(40)", x.giveUp(40), false);
    }

    private static void foundNow() {
        testing("5: The TAPE (empty then) is a FLAKE, FOUND now: its number");
        TombLane x = village();
        due("of an empty TAPE", x.flake(), 0);
        due("lines", x.about(10), 0);
        x.later(7);
        due("on 7", find(x, "day 1 left: ani ill ?;"), 1);
        due("empty then", x.about(5), 0);
        due("on 6 it is not", x.day(0, 1, 6), 0);
        due("on 7 it is", x.day(0, 1, 7), 2);
        due("none is left on the TAPE", x.flake(), 2);
        due("lines", x.about(12), 0);
    }

    private static void faultBringsNone() {
        testing("5: NONE: a FAULT (none comes); 6: Of the latest flake() what 0: its FAULT (0), 1: its place (NONE)");
        TombLane x = village();
        due("sound", find(x, "day 1 left: ani ill ?;"), 0);
        due("a FAULT behind a sound line", find(x, "day 2 left: ani ill ?; day 3 left: zed"), -1);
        due("FAULT", x.fault(0), 4);
        due("place", x.fault(1), 35);
        due("FLAKES", x.about(1), 1);
        due("the TAPE is empty", x.about(5), 0);
        due("the sound line tells nothing", x.day(0, 2, 0), 0);
        due("no lines of it", x.about(11), -1);
        due("it is told still", x.fault(0), 4);
        due("the next has the next number", find(x, "day 4 left: ani away ?;"), 1);
        due("no FAULT", x.fault(0), 0);
        due("no place", x.fault(1), -1);
        due("a FAULT again", find(x, "X"), -1);
        due("an empty one behind it", x.flake(), 2);
        due("no FAULT of it", x.fault(0), 0);
        due("no place of it", x.fault(1), -1);
        for (int what : new int[] {-1, 2, LOW, HIGH}) {
            dueRefused("fault(" + what + ")", v -> v.fault(what), -1);
        }
    }

    private static void giveUpOnce() {
        testing("7: false if it is so already");
        TombLane x = village();
        find(x, "day 1 left: ani ill ?;");
        x.later(2);
        due("giveUp(0)", x.giveUp(0), true);
        due("on the same date again", x.giveUp(0), false);
        x.later(2);
        due("later again", x.giveUp(0), false);
        due("it stays GIVEN UP on 2, not on 4", x.day(0, 1, 3), 0);
        due("on 1 it was not", x.day(0, 1, 1), 2);
        dueRefused("of a busy one", v -> v.giveUp(1) ? 1 : 0, 0);
    }

    private static void giveUpNoneSuch() {
        testing("7: false if there is none such");
        for (int flake : new int[] {-1, 2, 39, 40, LOW, HIGH}) {
            dueRefused("giveUp(" + flake + ")", v -> v.giveUp(flake) ? 1 : 0, 0);
        }
        TombLane x = village();
        due("the next one", x.giveUp(0), false);
        due("comes", find(x, "day 1 left: ani ill ?;"), 0);
        due("not GIVEN UP", x.day(0, 1, 0), 2);
    }

    private static void knownFromFoundToGivenUp() {
        testing("AS KNOWN on k it counts if FOUND on k or before, and not GIVEN UP on k or before");
        TombLane x = village();
        x.later(10);
        find(x, "day 1 left: ani ill ? wicks 2;");
        x.later(10);
        x.giveUp(0);
        x.later(10);
        int[] dates = {LOW, -1, 0, 9, 10, 11, 19, 20, 21, 30, 31, HIGH};
        for (int k : dates) {
            boolean counts = k >= 10 && k < 20;
            due("day on " + k, x.day(0, 1, k), counts ? 2 : 0);
            due("wicks on " + k, x.wicks(0, 1, k), counts ? 2 : 0);
            due("missed on " + k, x.missed(0, 0, 2, k), counts ? 1 : 0);
            due("span on " + k, x.span(0, 0, k, true), counts ? 29 : 30);
        }
        due("lines of it", x.about(10), 1);
        due("FLAKES", x.about(1), 1);
    }

    private static void givenUpOnTheSameDate() {
        testing("may be GIVEN UP on a later one, or the same");
        TombLane x = village();
        find(x, "day 1 left: ani ill ?;");
        due("on date 0", x.giveUp(0), true);
        x.later(5);
        find(x, "day 2 left: ani ill ?;");
        due("on date 5", x.giveUp(1), true);
        for (int k : new int[] {-1, 0, 1, 4, 5, 6, HIGH}) {
            due("the first on " + k, x.day(0, 1, k), 0);
            due("the second on " + k, x.day(0, 2, k), 0);
        }
        due("lines stay", x.about(11), 1);
    }

    private static void datesThatNeverCome() {
        testing("AS KNOWN on a date ahead of all, or behind the DATE");
        TombLane x = village();
        find(x, "day 1 left: ani ill ?;");
        for (int k : new int[] {LOW, LOW + 1, -1}) {
            due("on " + k, x.day(0, 1, k), 0);
        }
        for (int k : new int[] {1, 100000, 100001, HIGH - 1, HIGH}) {
            due("on " + k, x.day(0, 1, k), 2);
        }
    }

    private static void laterByZeroToThousand() {
        testing("8: So many days later (0 .. 1000): the DATE; NONE, doing nothing, for another number");
        TombLane x = new TombLane();
        due("later(0)", x.later(0), 0);
        due("later(1)", x.later(1), 1);
        due("later(1000)", x.later(1000), 1001);
        due("DATE", x.about(2), 1001);
        for (int days : new int[] {-1, -1000, 1001, LOW, HIGH}) {
            dueRefused("later(" + days + ")", v -> v.later(days), -1);
        }
    }

    private static void laterAboveTheLastDate() {
        testing("8: NONE, doing nothing, if it would be above 100,000");
        TombLane x = village();
        for (int i = 1; i < 100; i++) {
            x.later(1000);
        }
        due("99000", x.about(2), 99000);
        due("to 99999", x.later(999), 99999);
        due("two above", x.later(2), -1);
        due("1000 above", x.later(1000), -1);
        due("to 100000", x.later(1), 100000);
        due("one above", x.later(1), -1);
        due("none above", x.later(0), 100000);
        due("DATE", x.about(2), 100000);
        find(x, "day 1 left: ani ill ?;");
        due("FOUND on it", x.day(0, 1, 100000), 2);
        due("not ahead of it", x.day(0, 1, 99999), 0);
        due("GIVEN UP on it", x.giveUp(0), true);
        due("on it", x.day(0, 1, 100000), 0);
        TombLane y = new TombLane();
        for (int i = 0; i < 99; i++) {
            y.later(1000);
        }
        due("by 1000 to 100000", y.later(1000), 100000);
    }

    private static void aboutCounts() {
        testing("22: MEN, FLAKES, the DATE, how often sacks came, DEBTS, bytes on the TAPE, lines of FLAKE f");
        TombLane x = busy();
        int[] counts = {4, 2, 3, 1, 3, 20};
        for (int what = 0; what < counts.length; what++) {
            due("about(" + what + ")", x.about(what), counts[what]);
        }
        due("lines of FLAKE 0", x.about(10), 2);
        due("lines of FLAKE 1, GIVEN UP", x.about(11), 2);
        TombLane y = village();
        due("20 lines", find(y, "day1 left:;".repeat(20)), 0);
        due("lines", y.about(10), 20);
    }

    private static void aboutAnotherWhat() {
        testing("22: NONE for another what");
        for (int what : new int[] {-1, 6, 7, 8, 9, 12, 49, 50, -10, LOW, LOW + 9, LOW + 10, HIGH}) {
            dueRefused("about(" + what + ")", v -> v.about(what), -1);
        }
        TombLane x = new TombLane();
        due("about(10), no FLAKE", x.about(10), -1);
        x.flake();
        due("about(10), an empty one", x.about(10), 0);
    }
}
