/** Each sentence that names a boundary of the rations and the debts (promises 13 to 20), and of an object's calls. */
public final class TombLaneBoundsOfGoods extends Bench {
    public static void main(String[] args) {
        rationsAtFirst();
        rationsOfZeroToHundred();
        rationsAsTheyAreNow();
        rationRefused();
        sacksOfOneToThousand();
        sixtyComings();
        comeRefused();
        owedAtTheEndOfMonths();
        cameOnItOrBefore();
        belowZeroIsAhead();
        arrearsCantBe();
        worthAtFirst();
        worthOfZeroToThousand();
        worthRefused();
        worthOfTheYearOfItsDay();
        debtToAnother();
        debtOfOneToThousand();
        sixtyDebts();
        debtRefused();
        paidOnItsDayOrLater();
        paidOnce();
        payCantBe();
        owedFromItsDayOn();
        greatestBalance();
        balanceCantBe();
        fewestOfNothing();
        fewestOfRings();
        fewestOfParts();
        fewestOfTwelve();
        fewestByDays();
        fewestCantBe();
        fiveHundredAndTwelveCalls();
        close();
    }

    private static void rationsAtFirst() {
        testing("sacks by his RANK: 4, 5, 6, 7 at first");
        TombLane x = village();
        for (int man = 0; man < 4; man++) {
            due("rank " + man, x.arrears(man, 29), 4 + man);
        }
    }

    private static void rationsOfZeroToHundred() {
        testing("13: Sacks by a RANK (0 .. 100 each RANK)");
        TombLane x = village();
        for (int rank = 0; rank < 4; rank++) {
            due("100", x.ration(rank, 100), true);
            due("rank " + rank, x.arrears(rank, 59), 200);
            due("0", x.ration(rank, 0), true);
            due("rank " + rank, x.arrears(rank, 59), 0);
        }
        due("1", x.ration(2, 1), true);
        due("rank 2", x.arrears(2, 3599), 120);
        due("rank 1 is as it was", x.arrears(1, 3599), 0);
    }

    private static void rationsAsTheyAreNow() {
        testing("as they are now, for all MONTHS");
        TombLane x = village();
        due("at first", x.arrears(0, 89), 12);
        x.later(1000);
        x.ration(0, 10);
        due("for all MONTHS", x.arrears(0, 89), 30);
        due("for the first, too", x.arrears(0, 29), 10);
        x.ration(0, 4);
        due("as before", x.arrears(0, 89), 12);
        due("who comes now is owed from MONTH 0 on", x.man(name("new"), 0, 3), 4);
        due("his", x.arrears(4, 89), 21);
    }

    private static void rationRefused() {
        testing("13: false, doing nothing, if one can't be");
        for (int rank : new int[] {-1, 4, LOW, HIGH}) {
            dueRefused("rank " + rank, v -> v.ration(rank, 1) ? 1 : 0, 0);
        }
        for (int sacks : new int[] {-1, 101, LOW, HIGH}) {
            dueRefused("sacks " + sacks, v -> v.ration(1, sacks) ? 1 : 0, 0);
        }
    }

    private static void sacksOfOneToThousand() {
        testing("comes to a MAN on a day, so many sacks (1 .. 1000)");
        TombLane x = village();
        due("1", x.come(0, 0, 1), 1);
        due("1000", x.come(3, 3599, 1000), 2);
        due("how often", x.about(3), 2);
        due("the 1", x.arrears(0, 0), -1);
        due("the 1000", x.arrears(3, 3599), 7 * 120 - 1000);
        due("on the day ahead", x.arrears(3, 3598), 7 * 119);
    }

    private static void sixtyComings() {
        testing("What COMES, 60 times at most; 14: NONE, doing nothing, if it would be a 61st time");
        TombLane x = village();
        for (int i = 1; i <= 60; i++) {
            due("time " + i, x.come(i % 4, 0, 1000), i);
        }
        due("a 61st", x.come(0, 0, 1), -1);
        due("how often", x.about(3), 60);
        due("nothing came", x.arrears(0, 0), -15000);
        due("a wrong one among 60", x.come(9, 0, 1), -1);
        TombLane one = village();
        for (int i = 1; i <= 60; i++) {
            one.come(0, 0, 1000);
        }
        due("all to one", one.arrears(0, 0), -60000);
    }

    private static void comeRefused() {
        testing("14: NONE, doing nothing, if one can't be");
        for (int man : new int[] {-1, 4, 12, LOW, HIGH}) {
            dueRefused("man " + man, v -> v.come(man, 0, 1), -1);
        }
        for (int day : new int[] {-1, 3600, LOW, HIGH}) {
            dueRefused("day " + day, v -> v.come(0, day, 1), -1);
        }
        for (int sacks : new int[] {-1, 0, 1001, LOW, HIGH}) {
            dueRefused("sacks " + sacks, v -> v.come(0, 0, sacks), -1);
        }
        TombLane x = village();
        x.come(4, 0, 1);
        due("a refused one is no time", x.come(0, 0, 1), 1);
    }

    private static void owedAtTheEndOfMonths() {
        testing("owed in MONTHS that ended on it or before (a MONTH m ends on day 30 * m + 29)");
        TombLane x = village();
        for (int month = 0; month < 120; month++) {
            due("ahead of the end of " + month, x.arrears(0, 30 * month + 28), 4 * month);
            due("on the end of " + month, x.arrears(0, 30 * month + 29), 4 * month + 4);
        }
        due("day 0", x.arrears(0, 0), 0);
        x.ration(3, 100);
        due("the most", x.arrears(3, 3599), 12000);
    }

    private static void cameOnItOrBefore() {
        testing("less what came on it or before");
        TombLane x = village();
        x.come(0, 40, 3);
        x.come(1, 40, 2);
        x.come(0, 50, 1);
        due("day 39", x.arrears(0, 39), 4);
        due("day 40", x.arrears(0, 40), 1);
        due("day 49", x.arrears(0, 49), 1);
        due("day 50", x.arrears(0, 50), 0);
        due("another MAN", x.arrears(1, 40), 3);
        due("what came to others alone", x.arrears(2, 40), 6);
    }

    private static void belowZeroIsAhead() {
        testing("below 0: ahead");
        TombLane x = village();
        x.come(0, 29, 4);
        due("just what is owed", x.arrears(0, 29), 0);
        x.come(0, 29, 1);
        due("one ahead", x.arrears(0, 29), -1);
        due("caught up", x.arrears(0, 59), 3);
        x.come(1, 0, 1000);
        due("far ahead", x.arrears(1, 0), -1000);
    }

    private static void arrearsCantBe() {
        testing("15: -1000000 if one can't be");
        for (int man : new int[] {-1, 4, 12, LOW, HIGH}) {
            dueRefused("man " + man, v -> v.arrears(man, 0), NO_ARREARS);
        }
        for (int day : new int[] {-1, 3600, LOW, HIGH}) {
            dueRefused("day " + day, v -> v.arrears(0, day), NO_ARREARS);
        }
    }

    private static void worthAtFirst() {
        testing("A GOOD has a WORTH (1 at first) in each YEAR (0 .. 9)");
        TombLane x = village();
        for (int good = 0; good < 5; good++) {
            for (int year = 0; year < 10; year++) {
                due("debt", x.debt(0, 1, good, 1, 360 * year), good * 10 + year);
            }
        }
        due("50 at 1", x.balance(1, 3599), 50);
    }

    private static void worthOfZeroToThousand() {
        testing("16: WORTH of a GOOD in a YEAR (0 .. 1000; GOODS 0 .. 4, YEARS 0 .. 9)");
        TombLane x = village();
        x.debt(0, 1, 0, 1, 0);
        x.debt(0, 1, 4, 1, 3599);
        due("1000", x.worth(0, 0, 1000), true);
        due("so", x.balance(1, 0), 1000);
        due("0", x.worth(0, 0, 0), true);
        due("so", x.balance(1, 0), 0);
        due("the last GOOD in the last YEAR", x.worth(4, 9, 1000), true);
        due("so", x.balance(1, 3599), 1000);
        due("0", x.worth(4, 9, 0), true);
        due("so", x.balance(1, 3599), 0);
    }

    private static void worthRefused() {
        testing("16: false, doing nothing, if one can't be");
        for (int good : new int[] {-1, 5, LOW, HIGH}) {
            dueRefused("good " + good, v -> v.worth(good, 0, 3) ? 1 : 0, 0);
        }
        for (int year : new int[] {-1, 10, LOW, HIGH}) {
            // Good 1, so that a year beside the row would be another good's.
            dueRefused("year " + year, v -> v.worth(1, year, 3) ? 1 : 0, 0);
        }
        for (int worth : new int[] {-1, 1001, LOW, HIGH}) {
            dueRefused("worth " + worth, v -> v.worth(2, 0, worth) ? 1 : 0, 0);
        }
    }

    private static void worthOfTheYearOfItsDay() {
        testing("A DEBT counts by the WORTH of the YEAR of its day (a YEAR: 360)");
        TombLane x = village();
        for (int year = 0; year < 10; year++) {
            for (int good = 0; good < 5; good++) {
                x.worth(good, year, 100 * good + year + 1);
            }
        }
        int owed = 0;
        for (int year = 0; year < 10; year++) {
            int good = year % 5;
            x.debt(0, 1, good, 2, 360 * year);
            x.debt(0, 1, good, 3, 360 * year + 359);
            owed += 2 * (100 * good + year + 1);
            due("the first day of year " + year, x.balance(1, 360 * year), owed);
            owed += 3 * (100 * good + year + 1);
            due("the last day of year " + year, x.balance(1, 360 * year + 359), owed);
        }
        // Debts 0, 1, 10 and 11 are those of good 0, in the years 0 and 5.
        x.worth(0, 0, 0);
        due("as the WORTH is now", x.balance(1, 3599), owed - 5);
    }

    private static void debtToAnother() {
        testing("a MAN owes another one");
        for (int man = 0; man < 4; man++) {
            int himself = man;
            dueRefused("himself " + man, v -> v.debt(himself, himself, 0, 1, 0), -1);
        }
        TombLane x = village();
        due("the first to the last", x.debt(0, 3, 0, 1, 0), 0);
        due("the last to the first", x.debt(3, 0, 0, 2, 0), 1);
        due("of the first", x.balance(0, 0), 1);
        due("of the last", x.balance(3, 0), -1);
    }

    private static void debtOfOneToThousand() {
        testing("so many (1 .. 1000) of a GOOD (0 .. 4) from a day on");
        TombLane x = village();
        due("1 of good 0 on day 0", x.debt(0, 1, 0, 1, 0), 0);
        due("1000 of good 4 on day 3599", x.debt(0, 1, 4, 1000, 3599), 1);
        due("on day 3598", x.balance(1, 3598), 1);
        due("on day 3599", x.balance(1, 3599), 1001);
    }

    private static void sixtyDebts() {
        testing("DEBTS, 60 at most; 17: its number; NONE, doing nothing, if there are 60");
        TombLane x = village();
        for (int i = 0; i < 60; i++) {
            due("debt " + i, x.debt(0, 1, 0, 1, 0), i);
        }
        due("a 61st", x.debt(0, 1, 0, 1, 0), -1);
        due("DEBTS", x.about(4), 60);
        due("owed", x.balance(1, 0), 60);
        due("the 60th is PAID", x.pay(59, 0), true);
        due("a 61st is none", x.pay(60, 0), false);
        due("PAID is a DEBT still", x.debt(0, 1, 0, 1, 0), -1);
        due("DEBTS", x.about(4), 60);
        due("owed", x.balance(1, 0), 59);
    }

    private static void debtRefused() {
        testing("17: NONE, doing nothing, if it can't be");
        for (int man : new int[] {-1, 4, 12, LOW, HIGH}) {
            dueRefused("by " + man, v -> v.debt(man, 1, 0, 1, 0), -1);
            dueRefused("to " + man, v -> v.debt(1, man, 0, 1, 0), -1);
            dueRefused("by and to " + man, v -> v.debt(man, man, 0, 1, 0), -1);
        }
        for (int good : new int[] {-1, 5, LOW, HIGH}) {
            dueRefused("good " + good, v -> v.debt(0, 1, good, 1, 0), -1);
        }
        for (int many : new int[] {-1, 0, 1001, LOW, HIGH}) {
            dueRefused("many " + many, v -> v.debt(0, 1, 0, many, 0), -1);
        }
        for (int day : new int[] {-1, 3600, LOW, HIGH}) {
            dueRefused("day " + day, v -> v.debt(0, 1, 0, 1, day), -1);
        }
        TombLane x = village();
        x.debt(0, 0, 0, 1, 0);
        due("a refused one has no number", x.debt(0, 1, 0, 1, 0), 0);
    }

    private static void paidOnItsDayOrLater() {
        testing("PAID on a later day, or the same: then, from that day on, it is none; 18: false: ahead of its own");
        TombLane x = village();
        x.debt(0, 1, 0, 5, 100);
        x.debt(0, 2, 0, 5, 100);
        x.debt(0, 3, 0, 5, 3599);
        due("the day ahead", x.pay(0, 99), false);
        due("day 0", x.pay(0, 0), false);
        due("owed still", x.balance(1, 3599), 5);
        due("the same", x.pay(0, 100), true);
        due("never owed", x.balance(1, 100), 0);
        due("a later one", x.pay(1, 200), true);
        due("on its day", x.balance(2, 100), 5);
        due("the day ahead of it", x.balance(2, 199), 5);
        due("that day", x.balance(2, 200), 0);
        due("on the last", x.balance(2, 3599), 0);
        due("owed on the last day", x.balance(3, 3599), 5);
        due("PAID on the last day", x.pay(2, 3599), true);
        due("none", x.balance(3, 3599), 0);
        due("of him who owed", x.balance(0, 3599), 0);
        due("on day 100", x.balance(0, 100), -5);
    }

    private static void paidOnce() {
        testing("18: false, doing nothing, if it is so already");
        TombLane x = village();
        x.debt(0, 1, 0, 5, 10);
        due("on 20", x.pay(0, 20), true);
        due("on 20 again", x.pay(0, 20), false);
        due("earlier", x.pay(0, 15), false);
        due("later", x.pay(0, 30), false);
        due("owed on 19", x.balance(1, 19), 5);
        due("none on 20", x.balance(1, 20), 0);
        x.debt(0, 1, 0, 5, 3599);
        due("on the last day", x.pay(1, 3599), true);
        due("again", x.pay(1, 3599), false);
        dueRefused("of a busy one", v -> v.pay(1, 20) ? 1 : 0, 0);
    }

    private static void payCantBe() {
        testing("18: false, doing nothing, if one can't be");
        for (int debt : new int[] {-1, 3, 59, 60, LOW, HIGH}) {
            dueRefused("debt " + debt, v -> v.pay(debt, 20) ? 1 : 0, 0);
        }
        for (int day : new int[] {-1, 3600, LOW, HIGH}) {
            dueRefused("day " + day, v -> v.pay(0, day) ? 1 : 0, 0);
        }
        dueRefused("the day ahead of its own", v -> v.pay(0, 9) ? 1 : 0, 0);
    }

    private static void owedFromItsDayOn() {
        testing("BALANCE: what others owe him by DEBTS from that day or before, less what he owes");
        TombLane x = village();
        x.debt(0, 1, 0, 5, 100);
        x.debt(1, 2, 0, 3, 101);
        due("day 99", x.balance(1, 99), 0);
        due("day 100", x.balance(1, 100), 5);
        due("he who owes", x.balance(0, 100), -5);
        due("day 101", x.balance(1, 101), 2);
        due("the third on day 100", x.balance(2, 100), 0);
        due("the third on day 101", x.balance(2, 101), 3);
        due("the fourth", x.balance(3, 3599), 0);
    }

    private static void greatestBalance() {
        testing("BALANCE of 60 DEBTS of 1000, each worth 1000");
        TombLane x = village();
        x.worth(4, 9, 1000);
        for (int i = 0; i < 60; i++) {
            x.debt(2, 3, 4, 1000, 3240);
        }
        due("the most", x.balance(3, 3240), 60000000);
        due("the least", x.balance(2, 3240), -60000000);
        due("the day ahead", x.balance(3, 3239), 0);
        due("one payment", x.fewest(3240), 1);
    }

    private static void balanceCantBe() {
        testing("19: -2000000001 if one can't be");
        for (int man : new int[] {-1, 4, 12, LOW, HIGH}) {
            dueRefused("man " + man, v -> v.balance(man, 0), NO_BALANCE);
        }
        for (int day : new int[] {-1, 3600, LOW, HIGH}) {
            dueRefused("day " + day, v -> v.balance(0, day), NO_BALANCE);
        }
    }

    private static void fewestOfNothing() {
        testing("20: FEWEST where each BALANCE is 0");
        due("no MEN", new TombLane().fewest(0), 0);
        TombLane x = village();
        due("no DEBTS", x.fewest(3599), 0);
        x.debt(0, 1, 0, 1, 0);
        due("the least sum", x.fewest(0), 1);
        x.worth(0, 0, 0);
        due("worth nothing", x.fewest(0), 0);
        x.worth(0, 0, 1);
        x.pay(0, 0);
        due("PAID", x.fewest(0), 0);
    }

    private static void fewestOfRings() {
        testing("20: FEWEST of rings and chains");
        TombLane x = crowd();
        for (int i = 0; i < 11; i++) {
            x.debt(i, i + 1, 0, 7, i);
            due("a chain", x.fewest(i), 1);
        }
        x.debt(11, 0, 0, 7, 11);
        due("a ring of 12", x.fewest(11), 0);
        x.debt(3, 0, 0, 7, 12);
        due("and one", x.fewest(12), 1);
    }

    private static void fewestOfParts() {
        testing("20: FEWEST: parts that settle among themselves");
        TombLane x = crowd();
        // -10 -4 -3 +7 +6 +4: 4 with 4, the rest by three; who pays the greatest first needs five.
        x.debt(0, 3, 0, 7, 0);
        x.debt(0, 4, 0, 3, 0);
        x.debt(1, 4, 0, 3, 0);
        x.debt(1, 5, 0, 1, 0);
        x.debt(2, 5, 0, 3, 0);
        due("2 and 4 MEN", x.fewest(0), 4);
        TombLane y = crowd();
        // -6 -5 +4 +4 +3: no parts, so one less than MEN.
        y.debt(0, 2, 0, 4, 0);
        y.debt(0, 3, 0, 2, 0);
        y.debt(1, 3, 0, 2, 0);
        y.debt(1, 4, 0, 3, 0);
        due("5 MEN in one part", y.fewest(0), 4);
        TombLane z = crowd();
        // -5 -5 +2 +3 +1 +4: two parts of three; the greatest debtor has no creditor of his sum.
        z.debt(0, 2, 0, 2, 0);
        z.debt(0, 5, 0, 3, 0);
        z.debt(1, 3, 0, 3, 0);
        z.debt(1, 4, 0, 1, 0);
        z.debt(1, 5, 0, 1, 0);
        due("3 and 3 MEN", z.fewest(0), 4);
    }

    private static void fewestOfTwelve() {
        testing("20: FEWEST of 12 MEN");
        TombLane star = crowd();
        for (int i = 0; i < 11; i++) {
            star.debt(11, i, 0, 1 + i, 0);
        }
        due("one owes all", star.fewest(0), 11);
        TombLane pairs = crowd();
        for (int i = 0; i < 6; i++) {
            pairs.debt(i, 11 - i, 0, 5, 0);
        }
        due("six pairs of one sum", pairs.fewest(0), 6);
        TombLane triples = crowd();
        for (int i = 0; i < 4; i++) {
            triples.debt(i, 4 + i, 0, 1 << 2 * i, 0);
            triples.debt(i, 8 + i, 0, 2 << 2 * i, 0);
        }
        due("four triples", triples.fewest(0), 8);
        TombLane halves = crowd();
        int[] sums = {1, 2, 4, 8, 15};
        for (int i = 0; i < 5; i++) {
            // What is owed in the first half makes 30, so it can't make up for a part of the second.
            halves.debt(0, 1 + i, 0, sums[i], 0);
            halves.debt(6, 7 + i, 0, 31 * sums[i], 0);
        }
        due("two parts of six", halves.fewest(0), 10);
    }

    private static void fewestByDays() {
        testing("20: FEWEST on a day: by the BALANCES of that day");
        TombLane x = village();
        x.debt(0, 1, 0, 5, 0);
        x.debt(2, 3, 0, 6, 3599);
        x.pay(0, 3000);
        due("day 0", x.fewest(0), 1);
        due("day 2999", x.fewest(2999), 1);
        due("day 3000", x.fewest(3000), 0);
        due("day 3598", x.fewest(3598), 0);
        due("day 3599", x.fewest(3599), 1);
    }

    private static void fewestCantBe() {
        testing("20: NONE if there is no such day");
        for (int day : new int[] {-1, 3600, LOW, HIGH}) {
            dueRefused("day " + day, v -> v.fewest(day), -1);
            due("no MEN, day " + day, new TombLane().fewest(day), -1);
        }
    }

    /** All stores full on one object, and its last call still as due. */
    private static void fiveHundredAndTwelveCalls() {
        testing("An object is used for at most 512 calls");
        TombLane x = crowd();
        int calls = 12;
        for (int i = 0; i < 60; i++) {
            due("come", x.come(i % 12, i, 1), i + 1);
            due("debt", x.debt(i % 11, 11, i % 5, 1, i), i);
            calls += 2;
        }
        for (int i = 0; i < 40; i++) {
            due("feed", feed(x, "day1 left:a ill?;   "), 20);
            due("flake", x.flake(), i);
            due("giveUp", x.giveUp(i), true);
            calls += 3;
        }
        for (int i = 0; i < 15; i++) {
            due("feed", feed(x, "day1 left:a ill?;   "), 20 * i + 20);
            calls++;
        }
        for (int i = 1; i <= 100; i++) {
            due("later", x.later(1000), 1000 * i);
            calls++;
        }
        while (calls < 506) {
            due("fewest", x.fewest(3599), 11);
            calls++;
        }
        due("balance", x.balance(11, 3599), 60);
        due("arrears", x.arrears(11, 3599), 7 * 120 - 5);
        due("day", x.day(0, 1, HIGH), 0);
        due("span", x.span(0, 0, HIGH, true), 30);
        due("full", x.flake(), -2);
        due("the 512th", x.about(5), 300);
    }
}
