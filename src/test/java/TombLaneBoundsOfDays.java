/** Each sentence that names a boundary of what is told of days, of the wicks and the spans (promises 9 to 12). */
public final class TombLaneBoundsOfDays extends Bench {
    public static void main(String[] args) {
        daysFromFirstToLast();
        menThatThereAre();
        oneCantBe();
        namedWithReason();
        lineWithoutGap();
        namedWithGap();
        menWhoComeLater();
        workedOrMissed();
        theReasonToldFirst();
        torn();
        open();
        wicksOfNone();
        wicksWantedAsMany();
        wicksWantedNone();
        wicksWantedSome();
        fewerThanNoneWanted();
        moreThanOpenWanted();
        unlikeNumbers();
        oneIsTorn();
        gangsApart();
        wicksCantBe();
        narrowedAsKnown();
        monthsOfThirtyDays();
        spanOfAllDays();
        spanWithTornDays();
        spanCantBe();
        missedByReason();
        missedCantBe();
        close();
    }

    private static void daysFromFirstToLast() {
        testing("DAYS are numbers 0 .. 3599");
        TombLane x = village();
        find(x, "day 0 left: ani ill ?; day 3599 left: ani away ?;");
        due("day 0", x.day(0, 0, 0), 2);
        due("day 1", x.day(0, 1, 0), 0);
        due("day 3598", x.day(0, 3598, 0), 0);
        due("day 3599", x.day(0, 3599, 0), 4);
        for (int day : new int[] {-1, 3600, LOW, HIGH}) {
            due("day " + day, x.day(0, day, 0), -1);
        }
    }

    private static void menThatThereAre() {
        testing("9: a MAN's day; NONE if one can't be: no such MAN");
        TombLane x = village();
        for (int man = 0; man < 4; man++) {
            due("man " + man, x.day(man, 0, 0), 0);
        }
        for (int man : new int[] {-1, 4, 11, 12, LOW, HIGH}) {
            due("man " + man, x.day(man, 0, 0), -1);
        }
        TombLane full = crowd();
        due("man 11 of 12", full.day(11, 0, 0), 0);
        due("man 12 of 12", full.day(12, 0, 0), -1);
    }

    private static void oneCantBe() {
        testing("9: NONE if one can't be, doing nothing");
        dueRefused("man 4", v -> v.day(4, 0, 0), -1);
        dueRefused("day 3600", v -> v.day(0, 3600, 0), -1);
        dueRefused("both", v -> v.day(-1, -1, 0), -1);
        dueRefused("asking does nothing, either", v -> v.day(0, 5, 0), 2);
    }

    private static void namedWithReason() {
        testing("A line tells of each MAN that it names with a REASON what he did on that day");
        TombLane x = village();
        find(x, "day 1 left: ani work bek ill kha feast ?; day 2 left: ani away bek drunk ?;");
        int[] first = {1, 2, 3};
        for (int man = 0; man < 3; man++) {
            due("man " + man, x.day(man, 1, 0), first[man]);
        }
        due("away", x.day(0, 2, 0), 4);
        due("drunk", x.day(1, 2, 0), 5);
        due("not named", x.day(2, 2, 0), 0);
        due("another day", x.day(0, 3, 0), 0);
    }

    private static void lineWithoutGap() {
        testing("A line without a gap as an entry tells of all others of its gang that they WORKED");
        TombLane x = village();
        find(x, "day 1 left:; day 2 left: ani ill; day 3 left: ?; day 4 left: ani ill ?; day 5 left: ? ani ill;");
        due("no entry", x.day(0, 1, 0), 1);
        due("one other", x.day(1, 2, 0), 1);
        due("the one named", x.day(0, 2, 0), 2);
        due("a gap alone", x.day(0, 3, 0), 0);
        due("a gap behind", x.day(1, 4, 0), 0);
        due("a gap ahead", x.day(1, 5, 0), 0);
        due("the other gang", x.day(3, 1, 0), 0);
        find(x, "day 6 left: wicks ?; day 7 left: ani ?;");
        due("a gap of the wicks is no entry", x.day(0, 6, 0), 1);
        due("nor is the one of a NAME", x.day(1, 7, 0), 1);
        find(x, "day 8 left: ? ? ?; day 8 left:;");
        due("a gap in another line", x.day(0, 8, 0), 1);
        TombLane full = crowd();
        find(full, "day 1 left:; day 1 right:;");
        for (int man = 0; man < 12; man++) {
            due("man " + man + " of 12", full.day(man, 1, 0), 1);
        }
    }

    private static void namedWithGap() {
        testing("who are named with a gap: of these nothing");
        TombLane x = village();
        find(x, "day 1 left: ani ?; day 2 left: ani ? bek ? kha ?; day 3 left: ani ill; day 3 left: ani ?;");
        due("ani", x.day(0, 1, 0), 0);
        due("bek", x.day(1, 1, 0), 1);
        due("kha, as all", x.day(2, 2, 0), 0);
        due("another line tells", x.day(0, 3, 0), 2);
    }

    private static void menWhoComeLater() {
        testing("all others of its gang: who comes later, too");
        TombLane x = village();
        find(x, "day 1 left:; day 2 left: ?; day 3 left: wicks 8;");
        due("three work, four are told", x.wicks(0, 3, 0), 1);
        x.man(name("new"), 0, 0);
        x.man(name("far"), 1, 0);
        due("he WORKED", x.day(4, 1, 0), 1);
        due("behind a gap", x.day(4, 2, 0), 0);
        due("four work, four are told", x.wicks(0, 3, 0), 2);
        due("of the other gang", x.day(5, 1, 0), 0);
    }

    private static void workedOrMissed() {
        testing("WORKED, if all that is told of it is WORK; MISSED, if all that is told is a REASON that is not");
        TombLane x = village();
        find(x, "day 1 left: ani work ?; day 1 left: ani work ?; day 1 left:;");
        find(x, "day 1 left: ani ? ?; day 2 left: ani ill ?; day 2 left: ani ill;");
        due("WORK alone", x.day(0, 1, 0), 1);
        due("ill alone", x.day(0, 2, 0), 2);
    }

    private static void theReasonToldFirst() {
        testing("the one told first, by FLAKES, then lines");
        TombLane x = village();
        find(x, "day 1 left: bek drunk ?; day 1 left: ani ? ?; day 1 left: bek ill ?;");
        x.later(1);
        find(x, "day 1 left: ani feast bek feast ?; day 1 left: ani away ?;");
        x.later(1);
        find(x, "day 1 left: ani ill kha away ?;");
        due("by FLAKES", x.day(0, 1, 2), 3);
        due("by lines", x.day(1, 1, 2), 5);
        due("the one alone", x.day(2, 1, 2), 4);
        x.later(1);
        x.giveUp(0);
        due("the first is GIVEN UP", x.day(1, 1, 3), 3);
        x.giveUp(1);
        due("the second, too", x.day(0, 1, 3), 2);
        due("none is left", x.day(1, 1, 3), 0);
        due("as it was known", x.day(1, 1, 2), 5);
    }

    private static void torn() {
        testing("TORN, if both are told");
        TombLane x = village();
        find(x, "day 1 left: ani work bek ill ?; day 1 left: ani ill bek work kha drunk ?;");
        find(x, "day 1 left: ani work bek ill ?; day 2 left: ani ill; day 2 left:;");
        due("work first", x.day(0, 1, 0), 7);
        due("ill first", x.day(1, 1, 0), 7);
        due("one alone", x.day(2, 1, 0), 5);
        due("by a line without a gap", x.day(0, 2, 0), 7);
        due("the others", x.day(1, 2, 0), 1);
        x.later(1);
        find(x, "day 3 left: ani ill ?;");
        x.later(1);
        find(x, "day 3 left: ani work ?;");
        due("not as known ahead", x.day(0, 3, 1), 2);
        due("as known then", x.day(0, 3, 2), 7);
        x.later(1);
        x.giveUp(2);
        due("the first GIVEN UP", x.day(0, 3, 3), 1);
    }

    private static void open() {
        testing("else OPEN");
        TombLane x = village();
        find(x, "day 1 left: ani ? ?; day 1 left: ?; day 1 right: pai ?;");
        for (int man = 0; man < 4; man++) {
            due("man " + man, x.day(man, 1, 0), 0);
            due("man " + man + ", nothing told", x.day(man, 2, 0), 0);
        }
    }

    private static void wicksOfNone() {
        testing("10: 0 if none is told; there is one at least");
        TombLane x = village();
        find(x, "day 1 left:; day 2 left: wicks ?; day 3 left: ani work ?; day 3 left: ani ill ?;");
        due("nothing told at all", x.wicks(0, 0, 0), 0);
        due("no number", x.wicks(0, 1, 0), 0);
        due("a gap", x.wicks(0, 2, 0), 0);
        due("one TORN, but no number", x.wicks(0, 3, 0), 0);
        find(x, "day 4 left: ? wicks ?; day 4 left: ? wicks 0; day 5 left: ? wicks 0;");
        due("a gap and 0", x.wicks(0, 4, 0), 2);
        due("0 is told", x.wicks(0, 5, 0), 2);
        due("nobody WORKED", x.day(0, 5, 0), 6);
    }

    private static void wicksWantedAsMany() {
        testing("the OPEN ones WORKED, if as many as there are open are wanted still");
        TombLane x = village();
        find(x, "day 1 left: ? wicks 6; day 2 left: ani work ? wicks 6; day 3 left: ani ill ? wicks 4;");
        find(x, "day 4 left: ani ? wicks 6; day 5 left: ani work bek work kha work wicks 6; day 6 right: ? wicks 2;");
        for (int day = 1; day <= 5; day++) {
            due("wicks of day " + day, x.wicks(0, day, 0), 2);
        }
        due("three of three", x.day(0, 1, 0), 1);
        due("two of two", x.day(1, 2, 0), 1);
        due("two of two, one ill", x.day(2, 3, 0), 1);
        due("he is ill still", x.day(0, 3, 0), 2);
        due("one of one", x.day(0, 4, 0), 1);
        due("none of none", x.day(0, 5, 0), 1);
        due("a gang of one", x.day(3, 6, 0), 1);
    }

    private static void wicksWantedNone() {
        testing("MISSED (for no REASON) if none is");
        TombLane x = village();
        find(x, "day 1 left: ? wicks 0; day 2 left: ani work ? wicks 2; day 3 left: ani ill ? wicks 0;");
        find(x, "day 4 left: ani ? wicks 4; day 5 left: ani ill bek ill kha ill wicks 0; day 6 right: ? wicks 0;");
        for (int day = 1; day <= 5; day++) {
            due("wicks of day " + day, x.wicks(0, day, 0), 2);
        }
        due("none of three", x.day(0, 1, 0), 6);
        due("none of two", x.day(1, 2, 0), 6);
        due("he WORKED", x.day(0, 2, 0), 1);
        due("none of two, one ill", x.day(2, 3, 0), 6);
        due("he is ill for a REASON", x.day(0, 3, 0), 2);
        due("none of one", x.day(0, 4, 0), 6);
        due("none of none", x.day(0, 5, 0), 2);
        due("a gang of one", x.day(3, 6, 0), 6);
    }

    private static void wicksWantedSome() {
        testing("else they stay OPEN");
        TombLane x = village();
        find(x, "day 1 left: ? wicks 2; day 2 left: ? wicks 4; day 3 left: ani work ? wicks 4;");
        for (int day = 1; day <= 3; day++) {
            due("wicks of day " + day, x.wicks(0, day, 0), 2);
            due("bek on day " + day, x.day(1, day, 0), 0);
            due("kha on day " + day, x.day(2, day, 0), 0);
        }
    }

    private static void fewerThanNoneWanted() {
        testing("the WICKS QUARREL if fewer than none are wanted");
        TombLane x = village();
        find(x, "day 1 left: ani work ? wicks 0; day 2 left: wicks 4; day 3 left: ani ? wicks 2; day 4 left: wicks 0;");
        for (int day = 1; day <= 4; day++) {
            due("wicks of day " + day, x.wicks(0, day, 0), 1);
        }
        due("he WORKED all the same", x.day(0, 1, 0), 1);
        due("OPEN stays OPEN", x.day(1, 1, 0), 0);
        due("OPEN stays OPEN", x.day(0, 3, 0), 0);
    }

    private static void moreThanOpenWanted() {
        testing("the WICKS QUARREL if more than are OPEN are wanted");
        TombLane x = village();
        find(x, "day 1 left: ? wicks 8; day 2 left: ani ill ? wicks 6; day 3 left: wicks 8; day 4 left: ? wicks 9998;");
        for (int day = 1; day <= 4; day++) {
            due("wicks of day " + day, x.wicks(0, day, 0), 1);
        }
        due("OPEN stays OPEN", x.day(0, 1, 0), 0);
        due("OPEN stays OPEN", x.day(1, 2, 0), 0);
        due("ill stays ill", x.day(0, 2, 0), 2);
        TombLane empty = new TombLane();
        find(empty, "day 1 left: wicks 2; day 2 left: wicks 0;");
        due("a gang of none, one wanted", empty.wicks(0, 1, 0), 1);
        due("a gang of none, none wanted", empty.wicks(0, 2, 0), 2);
    }

    private static void unlikeNumbers() {
        testing("the WICKS QUARREL if numbers are unlike");
        TombLane x = village();
        find(x, "day 1 left: ? wicks 6; day 1 left: ? wicks 0; day 2 left: ? wicks 6; day 2 left: ? wicks 6;");
        find(x, "day 3 left: ? wicks 2; day 3 left: ? wicks 4; day 3 left: ? wicks 2;");
        due("unlike", x.wicks(0, 1, 0), 1);
        due("OPEN stays OPEN", x.day(0, 1, 0), 0);
        due("alike", x.wicks(0, 2, 0), 2);
        due("WORKED", x.day(0, 2, 0), 1);
        due("the last like the first", x.wicks(0, 3, 0), 1);
        x.later(1);
        find(x, "day 2 left: ? wicks 4;");
        due("unlike by FLAKES", x.wicks(0, 2, 1), 1);
        due("OPEN again", x.day(0, 2, 1), 0);
        due("as it was known", x.day(0, 2, 0), 1);
        x.later(1);
        x.giveUp(2);
        due("alike again", x.wicks(0, 2, 2), 2);
    }

    private static void oneIsTorn() {
        testing("If no MAN of his gang is TORN on that day; the WICKS QUARREL if one is TORN");
        TombLane x = village();
        find(x, "day 1 left: ani work ? wicks 2; day 1 left: ani ill ?; day 2 left: ? wicks 6;");
        due("QUARREL", x.wicks(0, 1, 0), 1);
        due("bek stays OPEN", x.day(1, 1, 0), 0);
        due("he is TORN", x.day(0, 1, 0), 7);
        due("another day", x.wicks(0, 2, 0), 2);
        find(x, "day 1 right: ? wicks 2;");
        due("the other gang", x.wicks(1, 1, 0), 2);
        due("its MAN", x.day(3, 1, 0), 1);
    }

    private static void gangsApart() {
        testing("a line's number tells how many of its gang WORKED");
        TombLane x = village();
        find(x, "day 1 left: wicks 6; day 1 right: wicks 6;");
        due("left", x.wicks(0, 1, 0), 2);
        due("right", x.wicks(1, 1, 0), 1);
        find(x, "day 2 left: ? wicks 0; day 2 right: ? wicks 2;");
        due("numbers of two gangs are not unlike", x.wicks(0, 2, 0), 2);
        due("left MISSED", x.day(0, 2, 0), 6);
        due("right WORKED", x.day(3, 2, 0), 1);
        TombLane full = crowd();
        find(full, "day 1 left: ? wicks 12; day 1 right: ? wicks 14;");
        due("six of six", full.wicks(0, 1, 0), 2);
        due("seven of six", full.wicks(1, 1, 0), 1);
    }

    private static void wicksCantBe() {
        testing("10: NONE if one can't be");
        TombLane x = village();
        find(x, "day 0 left: wicks 6; day 3599 right: wicks 2;");
        due("day 0", x.wicks(0, 0, 0), 2);
        due("day 3599", x.wicks(1, 3599, 0), 2);
        for (int side : new int[] {-1, 2, LOW, HIGH}) {
            due("side " + side, x.wicks(side, 0, 0), -1);
        }
        for (int day : new int[] {-1, 3600, LOW, HIGH}) {
            due("day " + day, x.wicks(0, day, 0), -1);
        }
        dueRefused("side 2", v -> v.wicks(2, 5, 0), -1);
    }

    private static void narrowedAsKnown() {
        testing("As known on k a MAN's day is narrowed by what was known on k alone");
        TombLane x = village();
        find(x, "day 1 left: ani work ?;");
        x.later(1);
        find(x, "day 1 left: ? wicks 2;");
        x.later(1);
        find(x, "day 1 left: bek work ?;");
        x.later(1);
        x.giveUp(1);
        int[] kha = {0, 6, 0, 0};
        int[] bek = {0, 6, 1, 1};
        int[] wicks = {0, 2, 1, 0};
        for (int k = 0; k < 4; k++) {
            due("kha on " + k, x.day(2, 1, k), kha[k]);
            due("bek on " + k, x.day(1, 1, k), bek[k]);
            due("wicks on " + k, x.wicks(0, 1, k), wicks[k]);
        }
    }

    private static void monthsOfThirtyDays() {
        testing("a MONTH is 30 of them (0 .. 119)");
        TombLane x = village();
        find(x, "day 0 left:; day 29 left:; day 30 left: ani ill; day 59 left: ani ill; day 60 left:;");
        find(x, "day 3569 left: ani ill; day 3570 left:; day 3599 left:;");
        due("month 0", x.span(0, 0, 0, false), 2);
        due("month 1", x.span(0, 1, 0, false), 0);
        due("month 1, ill", x.missed(0, 1, 2, 0), 2);
        due("month 2", x.span(0, 2, 0, false), 1);
        due("month 118, ill", x.missed(0, 118, 2, 0), 1);
        due("month 119", x.span(0, 119, 0, false), 2);
        due("month 119, ill", x.missed(0, 119, 2, 0), 0);
    }

    private static void spanOfAllDays() {
        testing("11: SPAN: at least the days that he WORKED, at most those and the OPEN ones");
        TombLane x = village();
        due("nothing told, least", x.span(0, 0, 0, false), 0);
        due("nothing told, greatest", x.span(0, 0, 0, true), 30);
        for (int day = 0; day < 30; day += 10) {
            StringBuilder text = new StringBuilder();
            for (int n = day; n < day + 10; n++) {
                text.append("day ").append(n).append(" left: ani ill;");
            }
            find(x, text.toString());
        }
        due("ill on all, least", x.span(0, 0, 0, false), 0);
        due("ill on all, greatest", x.span(0, 0, 0, true), 0);
        due("WORKED on all, least", x.span(1, 0, 0, false), 30);
        due("WORKED on all, greatest", x.span(1, 0, 0, true), 30);
        due("ahead of it, least", x.span(1, 0, -1, false), 0);
        due("ahead of it, greatest", x.span(0, 0, -1, true), 30);
        find(x, "day 30 left: ? wicks 6; day 31 left: ? wicks 0; day 32 left: ? wicks 2;");
        due("narrowed, least", x.span(0, 1, 0, false), 1);
        due("narrowed, greatest", x.span(0, 1, 0, true), 29);
    }

    private static void spanWithTornDays() {
        testing("11: SPAN: at most those and the OPEN ones (TORN ones, too)");
        TombLane x = village();
        find(x, "day 0 left: ani ill; day 1 left: ani ill; day 1 left:; day 2 left:;");
        due("least", x.span(0, 0, 0, false), 1);
        due("greatest", x.span(0, 0, 0, true), 29);
        due("TORN is not ill", x.missed(0, 0, 2, 0), 1);
    }

    private static void spanCantBe() {
        testing("11: NONE if one can't be");
        TombLane x = village();
        due("month 119", x.span(3, 119, 0, true), 30);
        for (int month : new int[] {-1, 120, LOW, HIGH, HIGH / 30, LOW / 30}) {
            due("month " + month, x.span(0, month, 0, true), -1);
            due("month " + month, x.span(0, month, 0, false), -1);
        }
        for (int man : new int[] {-1, 4, 12, LOW, HIGH}) {
            due("man " + man, x.span(man, 0, 0, true), -1);
            due("man " + man, x.span(man, 0, 0, false), -1);
        }
        dueRefused("month 120", v -> v.span(0, 120, 0, true), -1);
    }

    private static void missedByReason() {
        testing("12: How many days of a MONTH a MAN MISSED for a REASON (2 .. 6 as above)");
        TombLane x = village();
        find(x, "day 1 left: ani ill; day 2 left: ani ill; day 3 left: ani ill;");
        find(x, "day 4 left: ani ill; day 5 left: ani ill;");
        find(x, "day 6 left: ani feast; day 7 left: ani feast; day 8 left: ani feast; day 9 left: ani feast;");
        find(x, "day 10 left: ani away; day 11 left: ani away; day 12 left: ani away;");
        find(x, "day 13 left: ani drunk; day 14 left: ani drunk; day 15 left: ? wicks 0;");
        int[] counts = {5, 4, 3, 2, 1};
        for (int reason = 2; reason <= 6; reason++) {
            due("reason " + reason, x.missed(0, 0, reason, 0), counts[reason - 2]);
            due("another MAN, reason " + reason, x.missed(1, 0, reason, 0), reason == 6 ? 1 : 0);
            due("ahead of it, reason " + reason, x.missed(0, 0, reason, -1), 0);
        }
    }

    private static void missedCantBe() {
        testing("12: NONE if one can't be");
        TombLane x = village();
        for (int reason : new int[] {-1, 0, 1, 7, 8, LOW, HIGH}) {
            due("reason " + reason, x.missed(0, 0, reason, 0), -1);
        }
        for (int month : new int[] {-1, 120, LOW, HIGH}) {
            due("month " + month, x.missed(0, month, 2, 0), -1);
        }
        for (int man : new int[] {-1, 4, 12, LOW, HIGH}) {
            due("man " + man, x.missed(man, 0, 2, 0), -1);
        }
        due("what can be", x.missed(3, 119, 6, 0), 0);
        dueRefused("reason 7", v -> v.missed(0, 0, 7, 0), -1);
    }
}
