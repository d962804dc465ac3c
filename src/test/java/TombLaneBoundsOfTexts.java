/** Each sentence that names a boundary of the flakes' language and its faults (promises 5 and 6). */
public final class TombLaneBoundsOfTexts extends Bench {
    public static void main(String[] args) {
        noLines();
        partsOfLine();
        partsOfEntry();
        reasons();
        wordsOfEightLetters();
        numbersOfOneToFourDigits();
        signs();
        everyByteAsToken();
        blanksPartThemOrNot();
        asLongAsCanBe();
        noLetterBehindNumber();
        twentyLines();
        firstByPlace();
        placeOfTheEnd();
        theLeastAtOnePlace();
        dayAboveLast();
        unknownName();
        nameAgain();
        oddWicks();
        close();
    }

    private static void noLines() {
        testing("flake = {line}: none is one");
        dueFault("", 0, -1);
        dueFault(" ", 0, -1);
        dueFault("\n", 0, -1);
        dueFault(" \n \n ", 0, -1);
        dueFault(" ".repeat(300), 0, -1);
    }

    private static void partsOfLine() {
        testing("line = day N (left | right) : {entry} [wicks (N | gap)] ;");
        dueFault("day 1 left:;", 0, -1);
        dueFault("day 1 right:;", 0, -1);
        dueFault("day 1 left: wicks 2;", 0, -1);
        dueFault("day 1 left: wicks ?;", 0, -1);
        dueFault("day 1 left: ani ill ? bek ? ? wicks 4;", 0, -1);
        dueFault("1 left:;", 2, 0);
        dueFault("day left:;", 2, 4);
        dueFault("day ? left:;", 2, 4);
        dueFault("day 1 :;", 2, 6);
        dueFault("day 1 ? :;", 2, 6);
        dueFault("day 1 left right:;", 2, 11);
        dueFault("day 1 left ;", 2, 11);
        dueFault("day 1 left ani ill;", 2, 11);
        dueFault("day 1 left::;", 2, 11);
        dueFault("day 1 left: 2;", 2, 12);
        dueFault("day 1 left: wicks;", 2, 17);
        dueFault("day 1 left: wicks ani ill;", 2, 18);
        dueFault("day 1 left: wicks 2 ani ill;", 2, 20);
        dueFault("day 1 left: wicks ? ?;", 2, 20);
        dueFault("day 1 left: wicks 2 wicks 2;", 2, 20);
        dueFault("day 1 left: wicks wicks;", 2, 18);
        dueFault("day 1 left: ani ill:", 2, 19);
        dueFault("day 1 left: day 2 left:;", 2, 12);
        dueFault("day 1 left:;;", 2, 12);
    }

    private static void partsOfEntry() {
        testing("entry = NAME REASON | NAME gap | gap");
        dueFault("day 1 left: ani ill;", 0, -1);
        dueFault("day 1 left: ani ?;", 0, -1);
        dueFault("day 1 left: ?;", 0, -1);
        dueFault("day 1 left: ????????;", 0, -1);
        dueFault("day 1 left: ani;", 2, 15);
        dueFault("day 1 left: ani bek ill;", 2, 16);
        dueFault("day 1 left: ani 2;", 2, 16);
        dueFault("day 1 left: ani day;", 2, 16);
        dueFault("day 1 left: ani right;", 2, 16);
        dueFault("day 1 left: ani wicks 2;", 2, 16);
        dueFault("day 1 left: ani :", 2, 16);
        dueFault("day 1 left: ill ani;", 2, 12);
        dueFault("day 1 left: ani ill away;", 2, 20);
        dueFault("day 1 left: ? ill;", 2, 14);
    }

    private static void reasons() {
        testing("REASON = work | ill | feast | away | drunk");
        String[] words = {"work", "ill", "feast", "away", "drunk"};
        for (int i = 0; i < words.length; i++) {
            TombLane x = village();
            due(words[i], find(x, "day 1 left: ani " + words[i] + " ?;"), 0);
            due("is told", x.day(0, 1, 0), 1 + i);
            dueFault("day 1 left: ani " + words[i] + "s;", 2, 16);
            dueFault("day 1 left: ani " + words[i].substring(1) + ";", 2, 16);
        }
        dueFault("day 1 left: ani open;", 2, 16);
        dueFault("day 1 left: ani torn;", 2, 16);
    }

    private static void wordsOfEightLetters() {
        testing("words (a .. z, 8 at most)");
        dueFault("day 1 left: abcdefgh ill;", 0, -1);
        dueFault("day 1 left: abcdefghi ill;", 1, 12);
        dueFault("day 1 left: abcdefghill;", 1, 12);
        dueFault("day 1 left: zzzzzzzz ill;", 4, 12);
        dueFault("day 1 left: zzzzzzzzz ill;", 1, 12);
        dueFault("abcdefgh", 2, 0);
        dueFault("abcdefghi", 1, 0);
        dueFault("z".repeat(300), 1, 0);
        // A long of nine letters has lost the first.
        dueFault("day 1 left: zabcdefgh ill;", 1, 12);
        dueFault("day 1 left: ani zzzzzill;", 2, 16);
        dueFault("day 1 left: ani zzzzzzill;", 1, 16);
    }

    private static void numbersOfOneToFourDigits() {
        testing("numbers (1 to 4 digits)");
        for (String number : new String[] {"0", "9", "00", "10", "007", "359", "0000", "3599"}) {
            dueFault("day " + number + " left:;", 0, -1);
        }
        dueFault("day 00000 left:;", 1, 4);
        dueFault("day 00001 left:;", 1, 4);
        dueFault("day 12345 left:;", 1, 4);
        dueFault("day 1234567890 left:;", 1, 4);
        dueFault("day " + "0".repeat(290), 1, 4);
        // 2 to the 64th: as a long it would be 0.
        dueFault("day 18446744073709551616 left:;", 1, 4);
        dueFault("day 1 left: wicks 9998;", 0, -1);
        dueFault("day 1 left: wicks 0002;", 0, -1);
        dueFault("day 1 left: wicks 00002;", 1, 18);
        dueFault("day -1 left:;", 1, 4);
        dueFault("day +1 left:;", 1, 4);
        dueFault("day 1.5 left:;", 1, 5);
        TombLane x = village();
        find(x, "day 0007 left: ani ill ? wicks 0004;");
        due("0007 is 7", x.day(0, 7, 0), 2);
        due("0004 is 4", x.day(1, 7, 0), 1);
    }

    private static void signs() {
        testing("signs : ; ?");
        dueFault(":", 2, 0);
        dueFault(";", 2, 0);
        dueFault("?", 2, 0);
        dueFault("day 1 left:?;", 0, -1);
        for (String none : new String[] {".", ",", "!", "-", "/", "<", "=", "@", "_", "`", "{"}) {
            dueFault("day 1 left" + none + ";", 1, 10);
        }
    }

    private static void everyByteAsToken() {
        testing("FAULT 1: no TOKEN, for each byte");
        for (int c = 0; c < 256; c++) {
            boolean blank = c == 32 || c == 10;
            boolean token = c >= 'a' && c <= 'z' || c >= '0' && c <= '9' || c == ':' || c == ';' || c == '?';
            dueFault("" + (char) c, blank ? 0 : token ? 2 : 1, blank ? -1 : 0);
            if (!blank && !token) {
                dueFault("day 1 left: ani" + (char) c + "ill;", 1, 15);
                dueFault("day 1 left:; " + (char) c, 1, 13);
            }
        }
    }

    private static void blanksPartThemOrNot() {
        testing("blanks (32, 10) part them or not");
        dueFault("day1 left:ani ill?bek?wicks?;day2 right:;", 0, -1);
        dueFault("\nday\n1\nleft\n:\nani\nill\n?\nwicks\n2\n;\n", 0, -1);
        dueFault("  day  1  left  :  ani  ill  ?  wicks  2  ;  ", 0, -1);
        dueFault(" \n day \n 1 \n left \n : \n ; \n ", 0, -1);
        dueFault("day\t1 left:;", 1, 3);
        dueFault("day 1 left:;\r\n", 1, 12);
        dueFault("day 1 left:;\u000b", 1, 12);
        dueFault("day 1 left:;\f", 1, 12);
        dueFault("day 1 left:;\u00a0", 1, 12);
        dueFault("day 1 left:;\0", 1, 12);
    }

    private static void asLongAsCanBe() {
        testing("each is as long as can be");
        dueFault("dayleft", 2, 0);
        dueFault("day 1 leftright:;", 1, 6);
        dueFault("day 1 lefts:;", 2, 6);
        dueFault("day 1 left: aniill;", 4, 12);
        dueFault("day 1 left: wickss 2;", 4, 12);
        dueFault("da y 1 left:;", 2, 0);
        dueFault("day 12 34 left:;", 2, 7);
        dueFault("day 35 99 left:;", 2, 7);
        dueFault("day 1 left: ani ill bekill;", 4, 20);
        TombLane x = village();
        find(x, "day 12 left: ani ill ?;");
        due("12 is not 1", x.day(0, 1, 0), 0);
        due("12 is 12", x.day(0, 12, 0), 2);
    }

    private static void noLetterBehindNumber() {
        testing("no letter directly behind a number");
        dueFault("day 1left:;", 1, 4);
        dueFault("day 0001left:;", 1, 4);
        dueFault("day 1 left: wicks 2x;", 1, 18);
        dueFault("1day", 1, 0);
        dueFault("day1 left:;", 0, -1);
        dueFault("day 1\nleft: wicks2;", 0, -1);
        dueFault("day 1:", 2, 5);
        dueFault("day 1A", 1, 5);
    }

    private static void twentyLines() {
        testing("At most 20 lines; FAULT 2: a 21st line: at its day");
        String line = "day1 left:;";
        dueFault(line.repeat(19), 0, -1);
        dueFault(line.repeat(20), 0, -1);
        dueFault(line.repeat(20) + " \n", 0, -1);
        dueFault(line.repeat(21), 2, 220);
        dueFault(line.repeat(20) + "  " + line, 2, 222);
        dueFault(line.repeat(20) + "day", 2, 220);
        dueFault(line.repeat(20) + "day 9999", 2, 220);
        dueFault(line.repeat(20) + "X", 1, 220);
        dueFault(line.repeat(20) + ";", 2, 220);
        dueFault(line.repeat(19) + "day1 left:zed?;" + line, 4, 219);
        TombLane x = village();
        due("21 lines", find(x, line.repeat(21)), -1);
        due("20 lines behind them", find(x, "day1 left:?;".repeat(19) + "day2 left:;"), 0);
        due("lines", x.about(10), 20);
        due("the 20th tells", x.day(0, 2, 0), 1);
    }

    private static void firstByPlace() {
        testing("FAULTS, the first by its place (bytes from 0)");
        dueFault("X day", 1, 0);
        dueFault("left X", 2, 0);
        dueFault("day 3600 X", 3, 4);
        dueFault("day X 3600", 1, 4);
        dueFault("day 3600 day", 3, 4);
        dueFault("day 1 left: zed X", 4, 12);
        dueFault("day 1 left: X zed", 1, 12);
        dueFault("day 1 left: zed zed", 4, 12);
        dueFault("day 1 left: ani ill ani X", 5, 20);
        dueFault("day 1 left: ani X ani", 1, 16);
        dueFault("day 1 left: ani ill ani ill zed", 5, 20);
        dueFault("day 1 left: ani ill zed ill ani", 4, 20);
        dueFault("day 1 left: wicks 3 X", 6, 18);
        dueFault("day 1 left: wicks 3", 6, 18);
        dueFault("day 1 left: wicks X 3", 1, 18);
        dueFault("day 1 left: zed ill wicks 3;", 4, 12);
        dueFault("day 1 left: wicks 3; day 3600 left:;", 6, 18);
        dueFault("day 3600 left: wicks 3;", 3, 4);
        dueFault("day 1 left:; day 1 left: X", 1, 25);
    }

    private static void placeOfTheEnd() {
        testing("the end: the text's length");
        dueFault("day", 2, 3);
        dueFault("day   ", 2, 6);
        dueFault("day 1", 2, 5);
        dueFault("day 1 left", 2, 10);
        dueFault("day 1 left:", 2, 11);
        dueFault("day 1 left: ani", 2, 15);
        dueFault("day 1 left: ani ill", 2, 19);
        dueFault("day 1 left: ani ill\n\n", 2, 21);
        dueFault("day 1 left: ?", 2, 13);
        dueFault("day 1 left: wicks", 2, 17);
        dueFault("day 1 left: wicks 2", 2, 19);
        dueFault("day 1 left: wicks ?", 2, 19);
        dueFault("day 1 left:; day 1 left:", 2, 24);
        dueFault(" ".repeat(297) + "day", 2, 300);
        dueFault("day" + " ".repeat(297), 2, 300);
    }

    private static void theLeastAtOnePlace() {
        testing("at one place the least");
        dueFault("12345", 1, 0);
        dueFault("day abcdefghi", 1, 4);
        dueFault("day 9999x", 1, 4);
        dueFault("day 99999", 1, 4);
        dueFault("day 1 left: zzzzzzzzz", 1, 12);
        dueFault("day 1 left: wicks 3x", 1, 18);
        dueFault("day 1 left: wicks 99999", 1, 18);
        dueFault("9999", 2, 0);
        dueFault("day 1 9999", 2, 6);
        dueFault("day 1 left: 9999", 2, 12);
        dueFault("zed", 2, 0);
        dueFault("day 1 zed", 2, 6);
        dueFault("day 1 left zed", 2, 11);
        dueFault("day 1 left: ani zed", 2, 16);
        dueFault("day 1 left: ani ani", 2, 16);
        dueFault("day 1 left: ani ? wicks ani", 2, 24);
        dueFault("day 1 left: wicks 2 3", 2, 20);
        dueFault("day 1 left: wicks zed", 2, 18);
    }

    private static void dayAboveLast() {
        testing("FAULT 3: a day above 3599");
        dueFault("day 0 left:;", 0, -1);
        dueFault("day 3599 left:;", 0, -1);
        dueFault("day 3600 left:;", 3, 4);
        dueFault("day 3601 left:;", 3, 4);
        dueFault("day 9999 left:;", 3, 4);
        dueFault("day 3599 left:;day 3600 right:;", 3, 19);
        dueFault("day 1 left: wicks 3600;", 0, -1);
        TombLane x = village();
        find(x, "day 0 left: ani ill ?; day 3599 left: ani away ?;");
        due("day 0 is told", x.day(0, 0, 0), 2);
        due("day 3599 is told", x.day(0, 3599, 0), 4);
    }

    private static void unknownName() {
        testing("FAULT 4: a NAME that no MAN has, of this gang");
        dueFault("day 1 left: zed ill;", 4, 12);
        dueFault("day 1 left: an ill;", 4, 12);
        dueFault("day 1 left: anii ill;", 4, 12);
        dueFault("day 1 left: pai ill;", 4, 12);
        dueFault("day 1 right: ani ill;", 4, 13);
        dueFault("day 1 right: pai ill;", 0, -1);
        dueFault("day 1 left: zed ?;", 4, 12);
        dueFault("day 1 left: ? zed", 4, 14);
        dueFault("day 1 right: pai ill; day 1 left: pai ill;", 4, 34);
        TombLane x = new TombLane();
        due("no MAN at all", find(x, "day 1 left: ani ill;"), -1);
        due("FAULT", x.fault(0), 4);
        x.man(name("ani"), 0, 0);
        due("he has come", find(x, "day 1 left: ani ill;"), 0);
    }

    private static void nameAgain() {
        testing("FAULT 5: one that the line has already");
        dueFault("day 1 left: ani ill ani ill;", 5, 20);
        dueFault("day 1 left: ani ill ani work;", 5, 20);
        dueFault("day 1 left: ani ? ani ill;", 5, 18);
        dueFault("day 1 left: ani ill ani ?;", 5, 20);
        dueFault("day 1 left: ani work bek ill ? kha ? ani ?;", 5, 37);
        dueFault("day 1 left: ani ill; day 1 left: ani ill;", 0, -1);
        dueFault("day 1 left: ani ? ?; day 1 left: ani ?;", 0, -1);
        dueFault("day 1 left: ani ill bek ill kha ill abcdefgh ill;", 0, -1);
        dueFault("day 1 right: pai ? pai", 5, 19);
        TombLane full = crowd();
        due("the last of 12 again", find(full, "day 1 right: l ? l ?;"), -1);
        due("FAULT", full.fault(0), 5);
        due("place", full.fault(1), 17);
    }

    private static void oddWicks() {
        testing("FAULT 6: wicks that are odd");
        for (int wicks = 0; wicks < 10; wicks++) {
            dueFault("day 1 left: wicks " + wicks + ";", wicks % 2 == 0 ? 0 : 6, wicks % 2 == 0 ? -1 : 18);
        }
        dueFault("day 1 left: wicks 9999;", 6, 18);
        dueFault("day 1 left: wicks 9998;", 0, -1);
        dueFault("day 1 left: wicks 0001;", 6, 18);
        dueFault("day 1 left: ? wicks 1;", 6, 20);
        dueFault("day 1 left: wicks ?;", 0, -1);
        dueFault("day 1 left:; day 3 right: wicks 7;", 6, 32);
    }
}
