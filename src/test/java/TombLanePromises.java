/** Each promise of the document by hand: ordinary inputs, the edges that it names, wrong inputs. */
public final class TombLanePromises extends Bench {
    public static void main(String[] args) {
        promise1NewObject();
        promise2Man();
        promise3Feed();
        promise4End();
        promise5Flake();
        promise6FaultOfTokens();
        promise6FaultOfGrammar();
        promise6FaultOfMeaning();
        promise7GiveUp();
        promise8Later();
        promise9Day();
        promise9DayNarrowed();
        promise10Wicks();
        promise11Span();
        promise12Missed();
        promise13Ration();
        promise14Come();
        promise15Arrears();
        promise16Worth();
        promise17Debt();
        promise18Pay();
        promise19Balance();
        promise20Fewest();
        promise21Of();
        promise22About();
        exampleOfReadme();
        close();
    }

    private static void promise1NewObject() {
        testing("promise 1");
        TombLane x = new TombLane();
        for (int what = 0; what <= 5; what++) {
            due("about(" + what + ")", x.about(what), 0);
        }
        due("fault(0)", x.fault(0), 0);
        due("fault(1)", x.fault(1), -1);
        due("of(0, 0)", x.of(0, 0), -1);
        due("fewest(3599)", x.fewest(3599), 0);
        due("NONE", TombLane.NONE, -1);
        TombLane other = village();
        due("another's about(0)", x.about(0), 0);
        due("about(0)", other.about(0), 4);
    }

    private static void promise2Man() {
        testing("promise 2");
        TombLane x = new TombLane();
        due("a", x.man(name("a"), 0, 0), 0);
        due("z", x.man(name("z"), 1, 3), 1);
        due("abcdefgh", x.man(name("abcdefgh"), 0, 3), 2);
        due("zzzzzzzz", x.man(name("zzzzzzzz"), 1, 0), 3);
        due("a again", x.man(name("a"), 0, 0), -1);
        due("a again on the other side", x.man(name("a"), 1, 2), -1);
        for (String word : NO_NAMES) {
            due(word, x.man(name(word), 0, 0), -1);
        }
        due("days", x.man(name("days"), 0, 0), 4);
        due("da", x.man(name("da"), 0, 0), 5);
        String[] none = {"A", "1", "a`", "a{", "ab c", "a1", "?", "a\0", "a\0b", "\0", "\u00e9", "\u00ffbcdefgh"};
        for (String letters : none) {
            due("no name: " + letters, x.man(name(letters), 0, 0), -1);
        }
        due("0", x.man(0, 0, 0), -1);
        due("-1", x.man(-1, 0, 0), -1);
        due("the lowest long", x.man(Long.MIN_VALUE, 0, 0), -1);
        int[] sides = {-1, 2, LOW, HIGH};
        for (int side : sides) {
            due("side " + side, x.man(name("b"), side, 0), -1);
        }
        int[] ranks = {-1, 4, LOW, HIGH};
        for (int rank : ranks) {
            due("rank " + rank, x.man(name("b"), 0, rank), -1);
        }
        due("how many", x.about(0), 6);
        for (int i = 6; i < 12; i++) {
            due("man " + i, x.man(name("m" + (char) ('a' + i)), 0, 0), i);
        }
        due("a 13th", x.man(name("b"), 0, 0), -1);
        due("how many at last", x.about(0), 12);
    }

    private static void promise3Feed() {
        testing("promise 3");
        TombLane x = village();
        for (int i = 1; i <= 15; i++) {
            due("feed " + i, x.feed(0x20202020, 0x20202020, 0x20202020, 0x20202020, 0x20202020), 20 * i);
        }
        due("a 16th", x.feed(0, 0, 0, 0, 0), -1);
        due("bytes", x.about(5), 300);
        due("300 blanks", x.flake(), 0);
        write(x, " ".repeat(280));
        due("from 280", x.feed(0, 0, 0, 0, 0), 300);
        x.end(281);
        due("from 281", x.feed(0, 0, 0, 0, 0), -1);
        due("bytes still", x.about(5), 281);
        x.end(0);
        // Each number's highest byte comes first, and bytes are not signed.
        x.feed(0x64617931, 0x206c6566, 0x743a3b20, 0x2020ff20, 0x20202020);
        due("day1 left:; .. 255", x.flake(), -1);
        due("its fault", x.fault(0), 1);
        due("its place", x.fault(1), 14);
    }

    private static void promise4End() {
        testing("promise 4");
        TombLane x = village();
        due("end(0)", x.end(0), 0);
        due("end(1)", x.end(1), -1);
        due("end(-1)", x.end(-1), -1);
        x.feed(0, 0, 0, 0, 0);
        due("end(21)", x.end(21), -1);
        due("end(high)", x.end(HIGH), -1);
        due("end(low)", x.end(LOW), -1);
        due("bytes", x.about(5), 20);
        due("end(20)", x.end(20), 20);
        due("end(7)", x.end(7), 7);
        due("end(8)", x.end(8), -1);
        due("bytes then", x.about(5), 7);
        x.end(0);
        x.feed(four("day ", 0), four("1 le", 0), four("ft:;", 0), four("xxxx", 0), four("xxxx", 0));
        x.end(12);
        due("the first ones stay", x.flake(), 0);
        due("lines", x.about(10), 1);
    }

    private static void promise5Flake() {
        testing("promise 5");
        TombLane x = village();
        due("an empty one", x.flake(), 0);
        due("its lines", x.about(10), 0);
        due("blanks", find(x, " \n "), 1);
        due("lines", find(x, "day 1 left:;day 2 right:;\nday 1 left:?;"), 2);
        due("how many lines", x.about(12), 3);
        due("empty then", x.about(5), 0);
        due("a fault", find(x, "day 1 left:"), -1);
        due("empty then, too", x.about(5), 0);
        due("none came", x.about(1), 3);
        due("behind a fault", find(x, "day1 left:bek?ani work?wicks?;"), 3);
        due("a fault is gone", x.fault(0), 0);
        for (int i = 4; i < 40; i++) {
            due("flake " + i, x.flake(), i);
        }
        write(x, "day 1 left:;");
        due("a 41st", x.flake(), -2);
        due("the tape stays", x.about(5), 12);
        x.giveUp(0);
        due("given up ones are flakes still", x.flake(), -2);
        due("how many", x.about(1), 40);
        x.end(3);
        due("a 41st with a fault", x.flake(), -2);
        due("tells no fault", x.fault(0), 0);
        due("the tape stays, too", x.about(5), 3);
    }

    private static void promise6FaultOfTokens() {
        testing("promise 6");
        dueFault("A", 1, 0);
        dueFault(" \tday", 1, 1);
        dueFault("\rday", 1, 0);
        dueFault("day\0", 1, 3);
        dueFault("day 1 left, ani", 1, 10);
        dueFault("day 1 left:\u00ff", 1, 11);
        dueFault("day 1left:;", 1, 4);
        dueFault("day 12345 left:;", 1, 4);
        dueFault("day 00001 left:;", 1, 4);
        dueFault("day 1 left: abcdefghi ill;", 1, 12);
        dueFault("day 1 left: abcdefghill;", 1, 12);
        dueFault("day 1 left: wicks 2a;", 1, 18);
        dueFault("day1 left:abcdefgh ill wicks2;", 0, -1);
        dueFault("\n day \n1\nleft\n:\n;\n", 0, -1);
        dueFault("day 0001 left:;", 0, -1);
        dueFault("day0 right:?????;", 0, -1);
        TombLane x = village();
        find(x, "day");
        int[] whats = {-1, 2, LOW, HIGH};
        for (int what : whats) {
            due("fault(" + what + ")", x.fault(what), -1);
        }
    }

    private static void promise6FaultOfGrammar() {
        testing("promise 6");
        dueFault("left", 2, 0);
        dueFault("5", 2, 0);
        dueFault("?", 2, 0);
        dueFault("day", 2, 3);
        dueFault("day  ", 2, 5);
        dueFault("days 1", 2, 0);
        dueFault("day left", 2, 4);
        dueFault("day ?", 2, 4);
        dueFault("day 1", 2, 5);
        dueFault("day 1 ani", 2, 6);
        dueFault("day 1 2", 2, 6);
        dueFault("day 1:", 2, 5);
        dueFault("day 1 left", 2, 10);
        dueFault("day 1 left;", 2, 10);
        dueFault("day 1 left ani", 2, 11);
        dueFault("day 1 left:", 2, 11);
        dueFault("day 1 left::", 2, 11);
        dueFault("day 1 left:5", 2, 11);
        dueFault("day 1 left:day", 2, 11);
        dueFault("day 1 left:right", 2, 11);
        dueFault("day 1 left:ill", 2, 11);
        dueFault("day 1 left:work", 2, 11);
        dueFault("day 1 left:ani", 2, 14);
        dueFault("day 1 left:ani;", 2, 14);
        dueFault("day 1 left:ani bek", 2, 15);
        dueFault("day 1 left:ani left", 2, 15);
        dueFault("day 1 left:ani 2", 2, 15);
        dueFault("day 1 left:ani ill ill", 2, 19);
        dueFault("day 1 left:wicks", 2, 16);
        dueFault("day 1 left:wicks;", 2, 16);
        dueFault("day 1 left:wicks ani", 2, 17);
        dueFault("day 1 left:wicks ? ?", 2, 19);
        dueFault("day 1 left:wicks 2 4", 2, 19);
        dueFault("day 1 left:wicks 2 ani ill;", 2, 19);
        dueFault("day 1 left:wicks 2 wicks 2;", 2, 19);
        dueFault("day 1 left:wicks 2", 2, 18);
        dueFault("day 1 left:;;", 2, 12);
        dueFault("day1 left:;".repeat(20), 0, -1);
        dueFault("day1 left:;".repeat(21), 2, 220);
        dueFault("day1 left:;".repeat(20) + " x", 2, 221);
        dueFault("day1 left:;".repeat(20) + " X", 1, 221);
    }

    private static void promise6FaultOfMeaning() {
        testing("promise 6");
        dueFault("day 3599 left:;", 0, -1);
        dueFault("day 3600 left:;", 3, 4);
        dueFault("day 9999 X", 3, 4);
        dueFault("day 1 left:zed", 4, 11);
        dueFault("day 1 left:pai ill;", 4, 11);
        dueFault("day 1 right:ani ill;", 4, 12);
        dueFault("day 1 right:pai ill;", 0, -1);
        dueFault("day 1 left:an ill;", 4, 11);
        dueFault("day 1 left:anii ill;", 4, 11);
        dueFault("day 1 left:gap", 4, 11);
        dueFault("day 1 left:ani ill ani ill;", 5, 19);
        dueFault("day 1 left:ani ? ani ?;", 5, 17);
        dueFault("day 1 left:ani ill bek ? ? ani", 5, 27);
        dueFault("day 1 left:ani ill;day 1 left:ani ill;", 0, -1);
        dueFault("day 1 left:wicks 1;", 6, 17);
        dueFault("day 1 left:wicks 9999;", 6, 17);
        dueFault("day 1 left:wicks 9998;", 0, -1);
        dueFault("day 1 left:wicks 0;", 0, -1);
        dueFault("day 1 left:wicks 3 X", 6, 17);
        dueFault("day 1 left:; day 1 left:zed", 4, 24);
    }

    private static void promise7GiveUp() {
        testing("promise 7");
        TombLane x = village();
        due("none yet", x.giveUp(0), false);
        find(x, "day 1 left: ani ill ?;");
        find(x, "day 1 left: ani feast ?;");
        x.later(5);
        due("giveUp(-1)", x.giveUp(-1), false);
        due("giveUp(2)", x.giveUp(2), false);
        due("giveUp(low)", x.giveUp(LOW), false);
        due("giveUp(high)", x.giveUp(HIGH), false);
        due("giveUp(0)", x.giveUp(0), true);
        due("giveUp(0) again", x.giveUp(0), false);
        x.later(1);
        due("giveUp(0) later", x.giveUp(0), false);
        due("as known ahead of it", x.day(0, 1, 4), 2);
        due("as known on it", x.day(0, 1, 5), 3);
        due("as known later", x.day(0, 1, HIGH), 3);
        find(x, "day 2 left: ani away ?;");
        due("found on 6", x.day(0, 2, 6), 4);
        due("not known on 5", x.day(0, 2, 5), 0);
        due("giveUp on the same date", x.giveUp(2), true);
        due("it never counts", x.day(0, 2, 6), 0);
        due("lines stay", x.about(12), 1);
        due("flakes stay", x.about(1), 3);
    }

    private static void promise8Later() {
        testing("promise 8");
        TombLane x = new TombLane();
        due("later(0)", x.later(0), 0);
        due("later(1000)", x.later(1000), 1000);
        due("later(1001)", x.later(1001), -1);
        due("later(-1)", x.later(-1), -1);
        due("later(low)", x.later(LOW), -1);
        due("later(high)", x.later(HIGH), -1);
        due("the date", x.about(2), 1000);
        for (int i = 2; i < 100; i++) {
            due("later", x.later(1000), 1000 * i);
        }
        due("to 99999", x.later(999), 99999);
        due("above", x.later(2), -1);
        due("to 100000", x.later(1), 100000);
        due("above it", x.later(1), -1);
        due("there", x.later(0), 100000);
    }

    private static void promise9Day() {
        testing("promise 9");
        TombLane x = village();
        find(x, "day 0 left: ani work bek ill kha feast; day 3599 left: ani away bek drunk kha ?;");
        due("work", x.day(0, 0, 0), 1);
        due("ill", x.day(1, 0, 0), 2);
        due("feast", x.day(2, 0, 0), 3);
        due("away", x.day(0, 3599, 0), 4);
        due("drunk", x.day(1, 3599, 0), 5);
        due("named with a gap", x.day(2, 3599, 0), 0);
        due("another gang", x.day(3, 0, 0), 0);
        find(x, "day 5 left:;");
        due("all others work", x.day(2, 5, 0), 1);
        due("not those of the other gang", x.day(3, 5, 0), 0);
        find(x, "day 6 left: ani ?;");
        due("of this one nothing", x.day(0, 6, 0), 0);
        due("no gap as an entry", x.day(1, 6, 0), 1);
        find(x, "day 7 left: ani ill ?; day 7 left: ani drunk ?;");
        due("the first by lines", x.day(0, 7, 0), 2);
        due("a gap: nothing of others", x.day(1, 7, 0), 0);
        find(x, "day 7 left: bek away ?;");
        find(x, "day 7 left: ani feast bek ill ?;");
        due("the first by flakes", x.day(1, 7, 0), 4);
        due("the first still", x.day(0, 7, 0), 2);
        find(x, "day 7 left: ani work ?; day 7 left: bek ?;");
        due("torn", x.day(0, 7, 0), 7);
        due("nothing of bek", x.day(1, 7, 0), 4);
        due("kha worked", x.day(2, 7, 0), 1);
        find(x, "day 7 left: ani ill kha ill ?;");
        due("torn stays", x.day(0, 7, 0), 7);
        due("torn by work told first", x.day(2, 7, 0), 7);
        find(x, "day 8 right: wicks ?;");
        due("a gap of wicks is no entry", x.day(3, 8, 0), 1);
        find(x, "day 9 left: ani work bek ill ?; day 9 left: kha ill ?; day 9 left: ani ? bek ? ?;");
        due("work, and nothing more told", x.day(0, 9, 0), 1);
        due("ill, and nothing more told", x.day(1, 9, 0), 2);
        TombLane full = crowd();
        due("no such name among 12", find(full, "day 1 right: m ill;"), -1);
        due("its fault", full.fault(0), 4);
        find(full, "day 1 right: l ill; day 2 right: b work ? wicks 12; day 3 right: l drunk ? wicks 0;");
        due("the last of 12", full.day(11, 1, 0), 2);
        due("one of 12", full.day(9, 1, 0), 1);
        due("the last of 12, narrowed", full.day(11, 2, 0), 1);
        due("one of 12, narrowed", full.day(9, 3, 0), 6);
        due("the last of 12, told", full.day(11, 3, 0), 5);
        x.man(name("new"), 0, 0);
        due("one who came later", x.day(4, 5, 0), 1);
        due("as known on -1", x.day(0, 0, -1), 0);
        due("as known on low", x.day(0, 0, LOW), 0);
        due("as known on high", x.day(0, 0, HIGH), 1);
        int[] men = {-1, 5, 12, LOW, HIGH};
        for (int man : men) {
            due("man " + man, x.day(man, 0, 0), -1);
        }
        int[] days = {-1, 3600, LOW, HIGH};
        for (int day : days) {
            due("day " + day, x.day(0, day, 0), -1);
        }
    }

    private static void promise9DayNarrowed() {
        testing("promise 9");
        TombLane x = village();
        find(x, "day 1 left: ani ill ? wicks 4; day 2 left: ani work ? wicks 2; day 3 left: ? wicks 4;");
        due("as many as are open", x.day(1, 1, 0), 1);
        due("all of them", x.day(2, 1, 0), 1);
        due("the ill one", x.day(0, 1, 0), 2);
        due("none wanted", x.day(1, 2, 0), 6);
        due("the one who worked", x.day(0, 2, 0), 1);
        due("some of them", x.day(0, 3, 0), 0);
        find(x, "day 4 left: ? wicks 0; day 5 left: ? wicks 8; day 6 left: ani work bek work ? wicks 2;");
        due("none of three", x.day(2, 4, 0), 6);
        due("more than are open", x.day(0, 5, 0), 0);
        due("fewer than none", x.day(2, 6, 0), 0);
        find(x, "day 7 left: ? wicks 6; day 7 left: ? wicks 4; day 8 left: ani work ? wicks 6; day 8 left: ani ill ?;");
        due("unlike numbers", x.day(0, 7, 0), 0);
        due("one is torn", x.day(1, 8, 0), 0);
        find(x, "day 9 left: ? wicks 6;");
        find(x, "day 9 left: ? wicks ?; day 9 left: ? wicks 6;");
        due("alike numbers", x.day(0, 9, 0), 1);
        find(x, "day 10 left: ani ? wicks 6; day 10 right: ? wicks 0;");
        due("one left, one wanted", x.day(0, 10, 0), 1);
        due("the other gang's wicks", x.day(3, 10, 0), 6);
        find(x, "day 11 left: ani ? wicks 4;");
        due("one left, none wanted", x.day(0, 11, 0), 6);
        x.later(1);
        find(x, "day 1 left: ? wicks 6;");
        due("as known on 1", x.day(1, 1, 1), 0);
        due("as known on 0", x.day(1, 1, 0), 1);
    }

    private static void promise10Wicks() {
        testing("promise 10");
        TombLane x = village();
        due("nothing told", x.wicks(0, 1, 0), 0);
        find(x, "day 1 left: wicks ?; day 2 left: ani work ?; day 2 left: ani ill ?;");
        due("a gap tells none", x.wicks(0, 1, 0), 0);
        due("torn, but none told", x.wicks(0, 2, 0), 0);
        find(x, "day 2 left: ? wicks 2; day 3 left: wicks 6; day 4 left: wicks 4; day 5 left: wicks 8;");
        due("torn", x.wicks(0, 2, 0), 1);
        due("just those", x.wicks(0, 3, 0), 2);
        due("fewer than none wanted", x.wicks(0, 4, 0), 1);
        due("more wanted than open", x.wicks(0, 5, 0), 1);
        find(x, "day 6 left: ? wicks 6; day 7 left: ? wicks 8; day 8 left: ? wicks 0; day 9 left: ? wicks 2;");
        due("all open wanted", x.wicks(0, 6, 0), 2);
        due("one more than open", x.wicks(0, 7, 0), 1);
        due("none wanted", x.wicks(0, 8, 0), 2);
        due("one of three", x.wicks(0, 9, 0), 2);
        find(x, "day 9 left: ? wicks 4; day 9 left: ? wicks 2;");
        due("unlike", x.wicks(0, 9, 0), 1);
        due("the other gang", x.wicks(1, 9, 0), 0);
        due("ahead of all", x.wicks(0, 9, -1), 0);
        find(x, "day 10 left: ? wicks 9998; day 10 right: wicks 2;");
        due("very many", x.wicks(0, 10, 0), 1);
        due("the right gang", x.wicks(1, 10, 0), 2);
        x.later(3);
        x.giveUp(1);
        due("given up", x.wicks(0, 3, 3), 0);
        due("ahead of that", x.wicks(0, 3, 2), 2);
        TombLane empty = new TombLane();
        find(empty, "day 1 right: wicks 0; day 2 right: wicks 2;");
        due("no men, none wanted", empty.wicks(1, 1, 0), 2);
        due("no men, one wanted", empty.wicks(1, 2, 0), 1);
        int[] sides = {-1, 2, LOW, HIGH};
        for (int side : sides) {
            due("side " + side, x.wicks(side, 0, 0), -1);
        }
        int[] days = {-1, 3600, LOW, HIGH};
        for (int day : days) {
            due("day " + day, x.wicks(0, day, 0), -1);
        }
    }

    private static void promise11Span() {
        testing("promise 11");
        TombLane x = village();
        due("nothing known, least", x.span(0, 0, 0, false), 0);
        due("nothing known, greatest", x.span(0, 119, 0, true), 30);
        find(x, "day 29 left:; day 30 left:; day 31 left: ani ill; day 59 left: ani work ?; day 60 left:;");
        due("month 0, least", x.span(0, 0, 0, false), 1);
        due("month 0, greatest", x.span(0, 0, 0, true), 30);
        due("month 1, least", x.span(0, 1, 0, false), 2);
        due("month 1, greatest", x.span(0, 1, 0, true), 29);
        due("month 2, least", x.span(0, 2, 0, false), 1);
        find(x, "day 59 left: ani ill ?; day 32 left: ? wicks 6; day 33 left: ? wicks 0;");
        due("torn, least", x.span(0, 1, 0, false), 2);
        due("torn, greatest", x.span(0, 1, 0, true), 28);
        find(x, "day 3599 left:;");
        due("the last month", x.span(2, 119, 0, false), 1);
        due("as known on -1", x.span(2, 119, -1, false), 0);
        int[] none = {-1, 4, 120, LOW, HIGH};
        for (int number : none) {
            due("man " + number, x.span(number, 0, 0, true), -1);
            due("month " + number, x.span(0, number, 0, false), number == 4 ? 0 : -1);
        }
    }

    private static void promise12Missed() {
        testing("promise 12");
        TombLane x = village();
        find(x, "day 0 left: ani ill; day 29 left: ani ill; day 30 left: ani ill; day 1 left: ani feast;");
        find(x, "day 2 left: ani away; day 3 left: ani drunk; day 4 left: ? wicks 0; day 5 left: ani ill; day 5 left:;");
        due("ill", x.missed(0, 0, 2, 0), 2);
        due("ill, month 1", x.missed(0, 1, 2, 0), 1);
        due("feast", x.missed(0, 0, 3, 0), 1);
        due("away", x.missed(0, 0, 4, 0), 1);
        due("drunk", x.missed(0, 0, 5, 0), 1);
        due("for no reason", x.missed(0, 0, 6, 0), 1);
        due("bek, for no reason", x.missed(1, 0, 6, 0), 1);
        due("bek, ill", x.missed(1, 0, 2, 0), 0);
        due("as known on -1", x.missed(0, 0, 2, -1), 0);
        int[] reasons = {-1, 0, 1, 7, LOW, HIGH};
        for (int reason : reasons) {
            due("reason " + reason, x.missed(0, 0, reason, 0), -1);
        }
        int[] none = {-1, 120, LOW, HIGH};
        for (int number : none) {
            due("man " + number, x.missed(number, 0, 2, 0), -1);
            due("month " + number, x.missed(0, number, 2, 0), -1);
        }
        due("month 119", x.missed(0, 119, 6, 0), 0);
        due("man 4", x.missed(4, 0, 2, 0), -1);
    }

    private static void promise13Ration() {
        testing("promise 13");
        TombLane x = village();
        for (int rank = 0; rank < 4; rank++) {
            due("at first, rank " + rank, x.arrears(rank, 29), 4 + rank);
        }
        due("ration(0, 100)", x.ration(0, 100), true);
        due("ration(3, 0)", x.ration(3, 0), true);
        due("rank 0 now", x.arrears(0, 59), 200);
        due("rank 1 still", x.arrears(1, 59), 10);
        due("rank 3 now", x.arrears(3, 3599), 0);
        int[] none = {-1, 101, LOW, HIGH};
        for (int number : none) {
            due("rank " + number, x.ration(number, 1), false);
            due("sacks " + number, x.ration(1, number), false);
        }
        due("ration(4, 1)", x.ration(4, 1), false);
        due("rank 1 still, behind those", x.arrears(1, 59), 10);
    }

    private static void promise14Come() {
        testing("promise 14");
        TombLane x = village();
        due("come(0, 0, 1)", x.come(0, 0, 1), 1);
        due("come(3, 3599, 1000)", x.come(3, 3599, 1000), 2);
        int[] none = {-1, 3600, LOW, HIGH};
        for (int number : none) {
            due("man " + number, x.come(number, 0, 1), -1);
            due("day " + number, x.come(0, number, 1), -1);
            due("sacks " + number, x.come(0, 0, number), -1);
        }
        due("man 4", x.come(4, 0, 1), -1);
        due("no sacks", x.come(0, 0, 0), -1);
        due("1001 sacks", x.come(0, 0, 1001), -1);
        due("how often", x.about(3), 2);
        for (int i = 3; i <= 60; i++) {
            due("come " + i, x.come(1, 5, 2), i);
        }
        due("a 61st time", x.come(1, 5, 2), -1);
        due("how often at last", x.about(3), 60);
        due("all came", x.arrears(1, 5), -116);
    }

    private static void promise15Arrears() {
        testing("promise 15");
        TombLane x = village();
        due("day 0", x.arrears(0, 0), 0);
        due("day 28", x.arrears(0, 28), 0);
        due("day 29", x.arrears(0, 29), 4);
        due("day 58", x.arrears(0, 58), 4);
        due("day 59", x.arrears(0, 59), 8);
        due("day 3598", x.arrears(0, 3598), 476);
        due("day 3599", x.arrears(0, 3599), 480);
        x.come(0, 40, 10);
        x.come(1, 0, 1);
        due("ahead of it", x.arrears(0, 39), 4);
        due("on it", x.arrears(0, 40), -6);
        due("behind it", x.arrears(0, 59), -2);
        due("another", x.arrears(1, 29), 4);
        int[] none = {-1, 3600, LOW, HIGH};
        for (int number : none) {
            due("man " + number, x.arrears(number, 0), NO_ARREARS);
            due("day " + number, x.arrears(0, number), NO_ARREARS);
        }
        due("man 4", x.arrears(4, 0), NO_ARREARS);
    }

    private static void promise16Worth() {
        testing("promise 16");
        TombLane x = village();
        x.debt(0, 1, 4, 2, 3599);
        x.debt(0, 1, 0, 3, 359);
        x.debt(0, 1, 0, 4, 360);
        due("1 at first", x.balance(1, 3599), 9);
        due("worth(4, 9, 1000)", x.worth(4, 9, 1000), true);
        due("good 4 of year 9", x.balance(1, 3599), 2007);
        due("worth(0, 0, 0)", x.worth(0, 0, 0), true);
        due("good 0 of year 0", x.balance(1, 3599), 2004);
        due("worth(0, 1, 10)", x.worth(0, 1, 10), true);
        due("good 0 of year 1", x.balance(1, 3599), 2040);
        int[] none = {-1, 1001, LOW, HIGH};
        for (int number : none) {
            due("good " + number, x.worth(number, 0, 1), false);
            due("year " + number, x.worth(0, number, 1), false);
            due("worth " + number, x.worth(0, 1, number), false);
        }
        due("worth(5, 0, 1)", x.worth(5, 0, 1), false);
        due("worth(0, 10, 1)", x.worth(0, 10, 1), false);
        due("nothing done", x.balance(1, 3599), 2040);
    }

    private static void promise17Debt() {
        testing("promise 17");
        TombLane x = village();
        due("debt(0, 1, 0, 1, 0)", x.debt(0, 1, 0, 1, 0), 0);
        due("debt(3, 2, 4, 1000, 3599)", x.debt(3, 2, 4, 1000, 3599), 1);
        due("to himself", x.debt(2, 2, 0, 1, 0), -1);
        int[] none = {-1, 3600, LOW, HIGH};
        for (int number : none) {
            due("by " + number, x.debt(number, 1, 0, 1, 0), -1);
            due("to " + number, x.debt(0, number, 0, 1, 0), -1);
            due("good " + number, x.debt(0, 1, number, 1, 0), -1);
            due("many " + number, x.debt(0, 1, 0, number, 0), -1);
            due("day " + number, x.debt(0, 1, 0, 1, number), -1);
        }
        due("by 4", x.debt(4, 1, 0, 1, 0), -1);
        due("to 4", x.debt(0, 4, 0, 1, 0), -1);
        due("good 5", x.debt(0, 1, 5, 1, 0), -1);
        due("none", x.debt(0, 1, 0, 0, 0), -1);
        due("1001", x.debt(0, 1, 0, 1001, 0), -1);
        due("how many", x.about(4), 2);
        for (int i = 2; i < 60; i++) {
            due("debt " + i, x.debt(0, 1, 0, 1, 0), i);
        }
        due("a 61st", x.debt(0, 1, 0, 1, 0), -1);
        due("how many at last", x.about(4), 60);
        x.pay(0, 0);
        due("paid ones are debts still", x.debt(0, 1, 0, 1, 0), -1);
        due("balance", x.balance(1, 3599), 58);
    }

    private static void promise18Pay() {
        testing("promise 18");
        TombLane x = village();
        due("none yet", x.pay(0, 0), false);
        x.debt(0, 1, 0, 5, 10);
        x.debt(0, 1, 0, 7, 3599);
        due("ahead of its day", x.pay(0, 9), false);
        int[] none = {-1, 3600, LOW, HIGH};
        for (int number : none) {
            due("debt " + number, x.pay(number, 20), false);
            due("day " + number, x.pay(0, number), false);
        }
        due("debt 2", x.pay(2, 20), false);
        due("nothing done", x.balance(1, 3598), 5);
        due("pay(0, 20)", x.pay(0, 20), true);
        due("again", x.pay(0, 20), false);
        due("again, later", x.pay(0, 30), false);
        due("the day ahead", x.balance(1, 19), 5);
        due("that day", x.balance(1, 20), 0);
        due("on its own day", x.pay(1, 3599), true);
        due("again on the last day", x.pay(1, 3599), false);
        due("it was never one", x.balance(1, 3599), 0);
    }

    private static void promise19Balance() {
        testing("promise 19");
        TombLane x = village();
        x.worth(2, 0, 1000);
        x.debt(0, 1, 2, 1000, 5);
        x.debt(1, 0, 0, 3, 6);
        x.debt(2, 1, 0, 4, 6);
        due("ahead", x.balance(1, 4), 0);
        due("a million", x.balance(1, 5), 1000000);
        due("a million owed", x.balance(0, 5), -1000000);
        due("less what he owes", x.balance(1, 6), 1000001);
        due("of the first", x.balance(0, 6), -999997);
        due("of the third", x.balance(2, 6), -4);
        due("of the fourth", x.balance(3, 6), 0);
        for (int i = 3; i < 60; i++) {
            x.debt(0, 1, 2, 1000, 359);
        }
        due("the most", x.balance(1, 3599), 58000001);
        int[] none = {-1, 3600, LOW, HIGH};
        for (int number : none) {
            due("man " + number, x.balance(number, 0), NO_BALANCE);
            due("day " + number, x.balance(0, number), NO_BALANCE);
        }
        due("man 4", x.balance(4, 0), NO_BALANCE);
    }

    private static void promise20Fewest() {
        testing("promise 20");
        TombLane x = crowd();
        due("none", x.fewest(0), 0);
        due("the last day", x.fewest(3599), 0);
        int[] none = {-1, 3600, LOW, HIGH};
        for (int number : none) {
            due("day " + number, x.fewest(number), -1);
        }
        // A ring is settled by nothing.
        x.debt(0, 1, 0, 5, 0);
        x.debt(1, 2, 0, 5, 0);
        due("a chain", x.fewest(0), 1);
        x.debt(2, 0, 0, 5, 1);
        due("a ring", x.fewest(1), 0);
        due("ahead of the ring", x.fewest(0), 1);
        x.debt(0, 2, 0, 6, 2);
        x.debt(0, 3, 0, 3, 2);
        x.debt(1, 3, 0, 4, 2);
        due("four men", x.fewest(2), 3);
        x.debt(4, 5, 0, 10, 3);
        due("and two", x.fewest(3), 4);
        x.pay(6, 4);
        due("and two who paid", x.fewest(4), 3);
        // -10 -4 -3 +7 +6 +4: who always lets the greatest debtor pay the greatest creditor needs five.
        TombLane mixed = crowd();
        mixed.debt(0, 3, 0, 7, 0);
        mixed.debt(0, 4, 0, 3, 0);
        mixed.debt(1, 4, 0, 3, 0);
        mixed.debt(1, 5, 0, 1, 0);
        mixed.debt(2, 5, 0, 3, 0);
        due("two and four", mixed.fewest(0), 4);
        TombLane pairs = crowd();
        for (int i = 0; i < 6; i++) {
            // i owes 1 + i in all, 11 - i is owed as much, over a detour by others.
            pairs.debt(i, (i + 1) % 6, 0, 1 + i, 0);
            pairs.debt((i + 1) % 6, 11 - i, 0, 1 + i, 0);
        }
        due("six pairs", pairs.fewest(0), 6);
        TombLane one = crowd();
        for (int i = 1; i < 12; i++) {
            one.debt(0, i, 0, i, 0);
        }
        due("one owes all", one.fewest(0), 11);
        one.worth(0, 0, 0);
        due("worth nothing", one.fewest(0), 0);
        TombLane triples = crowd();
        for (int i = 0; i < 4; i++) {
            triples.debt(3 * i, 3 * i + 1, 0, 1 << 2 * i, 0);
            triples.debt(3 * i, 3 * i + 2, 0, 2 << 2 * i, 0);
        }
        due("four triples", triples.fewest(0), 8);
    }

    private static void promise21Of() {
        testing("promise 21");
        TombLane x = village();
        x.man(name("abcdefgh"), 1, 2);
        x.man(name("z"), 0, 3);
        due("of(0, 0)", x.of(0, 0), 0);
        due("of(3, 0)", x.of(3, 0), 1);
        due("of(3, 1)", x.of(3, 1), 3);
        due("of(0, 1)", x.of(0, 1), 0);
        due("of(0, 2)", x.of(0, 2), 3);
        due("of(4, 2)", x.of(4, 2), 8);
        due("of(5, 2)", x.of(5, 2), 1);
        int[] none = {-1, 6, 12, LOW, HIGH};
        for (int number : none) {
            due("man " + number, x.of(number, 0), -1);
            due("what " + number, x.of(0, number), -1);
        }
        due("what 3", x.of(0, 3), -1);
    }

    private static void promise22About() {
        testing("promise 22");
        TombLane x = village();
        find(x, "day 1 left:;");
        find(x, "");
        find(x, "day 1 left:; day 2 left:;");
        x.later(9);
        x.come(0, 0, 1);
        x.come(0, 0, 1);
        x.debt(0, 1, 0, 1, 0);
        write(x, "abcde");
        int[] due = {4, 3, 9, 2, 1, 5, -1, -1, -1, -1, 1, 0, 2, -1};
        for (int what = 0; what < due.length; what++) {
            due("about(" + what + ")", x.about(what), due[what]);
        }
        int[] none = {-1, -10, 49, 50, LOW, LOW + 10, HIGH};
        for (int what : none) {
            due("about(" + what + ")", x.about(what), -1);
        }
    }

    private static void exampleOfReadme() {
        testing("README.md");
        TombLane lane = new TombLane();
        due("ani", lane.man(0x616e69L, 0, 0), 0);
        due("bek", lane.man(0x62656bL, 0, 1), 1);
        due("feed", lane.feed(0x64617920, 0x35206c65, 0x66743a20, 0x616e6920, 0x696c6c3b), 20);
        due("flake", lane.flake(), 0);
        due("day", lane.day(0, 5, 0), 2);
        due("span", lane.span(1, 0, 0, false), 1);
        due("arrears", lane.arrears(0, 59), 8);
        due("worth", lane.worth(2, 0, 6), true);
        due("debt", lane.debt(0, 1, 2, 3, 10), 0);
        due("balance", lane.balance(1, 10), 18);
        due("fewest", lane.fewest(10), 1);
    }
}
