import java.util.ArrayList;

/** A scribe's bench for a village of tomb makers: day lists, rations and debts, by the promises of its document. */
public final class TombLane {
    public static final int NONE = -1;

    private static final int MOST_MEN = 12;
    private static final int MOST_BYTES = 300;
    private static final int MOST_LINES = 20;
    private static final int MOST_FLAKES = 40;
    private static final int MOST_COMINGS = 60;
    private static final int MOST_DEBTS = 60;

    private static final int DAYS = 3600;
    private static final int MONTHS = 120;
    private static final int DAYS_OF_MONTH = 30;
    private static final int DAYS_OF_YEAR = 360;
    private static final int YEARS = 10;
    private static final int SIDES = 2;
    private static final int RANKS = 4;
    private static final int GOODS = 5;
    private static final int LAST_DATE = 100000;
    private static final int MOST_AT_ONCE = 1000;

    private static final int FULL = -2;
    private static final int NO_ARREARS = -1000000;
    private static final int NO_BALANCE = -2000000001;

    // What a man's day is; WORKED to DRUNK are also what a line can tell of it.
    private static final int OPEN = 0;
    private static final int WORKED = 1;
    private static final int ILL = 2;
    private static final int FEAST = 3;
    private static final int AWAY = 4;
    private static final int DRUNK = 5;
    private static final int MISSED_FOR_NONE = 6;
    private static final int TORN = 7;
    private static final int STATES = 8;

    private static final int WICKS_UNTOLD = 0;
    private static final int WICKS_QUARREL = 1;
    private static final int WICKS_AGREE = 2;

    // The words of the flakes' own language, as names are given.
    private static final long WORD_DAY = 0x646179L;
    private static final long WORD_LEFT = 0x6c656674L;
    private static final long WORD_RIGHT = 0x7269676874L;
    private static final long WORD_WICKS = 0x7769636b73L;
    private static final long WORD_WORK = 0x776f726bL;
    private static final long WORD_ILL = 0x696c6cL;
    private static final long WORD_FEAST = 0x6665617374L;
    private static final long WORD_AWAY = 0x61776179L;
    private static final long WORD_DRUNK = 0x6472756e6bL;

    private final Men men = new Men();
    private final Tape tape = new Tape();
    private final FlakeReader reader = new FlakeReader(tape, men);
    private final Flakes flakes = new Flakes();
    private final DayBook book = new DayBook(men, flakes);
    private final Rations rations = new Rations(men);
    private final Debts debts = new Debts();
    private final Settling settling = new Settling();
    private int date = 0;

    public TombLane() {
    }

    public int man(long name, int side, int rank) {
        if (!isBelow(side, SIDES) || !isBelow(rank, RANKS)) {
            return NONE;
        }
        return men.add(name, side, rank);
    }

    public int feed(int a, int b, int c, int d, int e) {
        if (!tape.hasRoomFor(20)) {
            return NONE;
        }
        tape.append(a);
        tape.append(b);
        tape.append(c);
        tape.append(d);
        tape.append(e);
        return tape.length;
    }

    public int end(int n) {
        return tape.cut(n) ? n : NONE;
    }

    public int flake() {
        if (flakes.isFull()) {
            return FULL;
        }
        Flake flake = new Flake(date);
        boolean sound = reader.read(flake);
        tape.cut(0);
        return sound ? flakes.keep(flake) : NONE;
    }

    public int fault(int what) {
        if (what == 0) {
            return reader.fault;
        }
        return what == 1 ? reader.place : NONE;
    }

    public boolean giveUp(int flake) {
        return flakes.giveUpOn(flake, date);
    }

    public int later(int days) {
        if (days < 0 || days > MOST_AT_ONCE || date + days > LAST_DATE) {
            return NONE;
        }
        date += days;
        return date;
    }

    public int day(int man, int day, int k) {
        if (!men.has(man) || !isBelow(day, DAYS)) {
            return NONE;
        }
        return book.stateOf(man, day, k);
    }

    public int wicks(int side, int day, int k) {
        if (!isBelow(side, SIDES) || !isBelow(day, DAYS)) {
            return NONE;
        }
        return book.reckon(side, day, k);
    }

    public int span(int man, int month, int k, boolean greatest) {
        if (!men.has(man) || !isBelow(month, MONTHS)) {
            return NONE;
        }
        int[] days = book.daysByState(man, month, k);
        return greatest ? days[WORKED] + days[OPEN] + days[TORN] : days[WORKED];
    }

    public int missed(int man, int month, int reason, int k) {
        if (!men.has(man) || !isBelow(month, MONTHS) || reason < ILL || reason > MISSED_FOR_NONE) {
            return NONE;
        }
        return book.daysByState(man, month, k)[reason];
    }

    public boolean ration(int rank, int sacks) {
        return isBelow(rank, RANKS) && rations.setSacks(rank, sacks);
    }

    public int come(int man, int day, int sacks) {
        if (!men.has(man) || !isBelow(day, DAYS)) {
            return NONE;
        }
        return rations.take(man, day, sacks);
    }

    public int arrears(int man, int day) {
        if (!men.has(man) || !isBelow(day, DAYS)) {
            return NO_ARREARS;
        }
        return rations.owedTo(man, day);
    }

    public boolean worth(int good, int year, int worth) {
        return isBelow(good, GOODS) && isBelow(year, YEARS) && debts.setWorth(good, year, worth);
    }

    public int debt(int by, int to, int good, int many, int day) {
        if (!men.has(by) || !men.has(to) || by == to || !isBelow(good, GOODS) || !isBelow(day, DAYS)) {
            return NONE;
        }
        return debts.add(by, to, good, many, day);
    }

    public boolean pay(int debt, int day) {
        return isBelow(day, DAYS) && debts.setPaid(debt, day);
    }

    public int balance(int man, int day) {
        if (!men.has(man) || !isBelow(day, DAYS)) {
            return NO_BALANCE;
        }
        return debts.balancesOn(day)[man];
    }

    public int fewest(int day) {
        if (!isBelow(day, DAYS)) {
            return NONE;
        }
        return settling.payments(debts.balancesOn(day));
    }

    public int of(int man, int what) {
        if (!men.has(man)) {
            return NONE;
        }
        switch (what) {
            case 0:
                return men.side[man];
            case 1:
                return men.rank[man];
            case 2:
                return lettersOf(men.name[man]);
            default:
                return NONE;
        }
    }

    public int about(int what) {
        switch (what) {
            case 0:
                return men.count;
            case 1:
                return flakes.count();
            case 2:
                return date;
            case 3:
                return rations.count;
            case 4:
                return debts.count;
            case 5:
                return tape.length;
            default:
                return what < 10 ? NONE : flakes.linesOf(what - 10);
        }
    }

    private static boolean isBelow(int number, int bound) {
        return number >= 0 && number < bound;
    }

    private static boolean isLetter(int c) {
        return c >= 'a' && c <= 'z';
    }

    private static boolean isDigit(int c) {
        return c >= '0' && c <= '9';
    }

    /** How many letters the bytes of a name are, 0s ahead left out; 0 if they are not letters alone. */
    private static int lettersOf(long name) {
        int letters = 0;
        for (int shift = 56; shift >= 0; shift -= 8) {
            int c = (int) (name >>> shift) & 255;
            if (c == 0 && letters == 0) {
                continue;
            }
            if (!isLetter(c)) {
                return 0;
            }
            letters++;
        }
        return letters;
    }

    /** What a REASON tells of a day; NONE for another word. */
    private static int reasonOf(long word) {
        if (word == WORD_WORK) {
            return WORKED;
        }
        if (word == WORD_ILL) {
            return ILL;
        }
        if (word == WORD_FEAST) {
            return FEAST;
        }
        if (word == WORD_AWAY) {
            return AWAY;
        }
        return word == WORD_DRUNK ? DRUNK : NONE;
    }

    private static int sideOf(long word) {
        if (word == WORD_LEFT) {
            return 0;
        }
        return word == WORD_RIGHT ? 1 : NONE;
    }

    /** Whether a word is left for names by the flakes' own language. */
    private static boolean isFree(long word) {
        return word != WORD_DAY && word != WORD_WICKS && sideOf(word) == NONE && reasonOf(word) == NONE;
    }

    private static final class Men {
        private final long[] name = new long[MOST_MEN];
        private final int[] side = new int[MOST_MEN];
        private final int[] rank = new int[MOST_MEN];
        private int count = 0;

        private boolean has(int man) {
            return isBelow(man, count);
        }

        private int add(long newName, int newSide, int newRank) {
            boolean isName = lettersOf(newName) > 0 && isFree(newName);
            if (!isName || count >= MOST_MEN || find(newName) != NONE) {
                return NONE;
            }
            name[count] = newName;
            side[count] = newSide;
            rank[count] = newRank;
            count++;
            return count - 1;
        }

        private int find(long wanted) {
            for (int man = 0; man < count; man++) {
                if (name[man] == wanted) {
                    return man;
                }
            }
            return NONE;
        }

        private int findInGang(long wanted, int gang) {
            int man = find(wanted);
            return man != NONE && side[man] == gang ? man : NONE;
        }
    }

    private static final class Tape {
        private final int[] bytes = new int[MOST_BYTES];
        private int length = 0;

        private boolean hasRoomFor(int more) {
            return length + more <= MOST_BYTES;
        }

        private void append(int four) {
            for (int shift = 24; shift >= 0 && length < MOST_BYTES; shift -= 8) {
                bytes[length] = four >>> shift & 255;
                length++;
            }
        }

        private boolean cut(int n) {
            if (n < 0 || n > length) {
                return false;
            }
            length = n;
            return true;
        }

        /** The byte there; NONE behind the last. */
        private int at(int index) {
            return isBelow(index, length) ? bytes[index] : NONE;
        }
    }

    /** The tokens of the tape, one after the other. */
    private static final class Tokens {
        private static final int END = 0;
        private static final int WRONG = 1;
        private static final int WORD = 2;
        private static final int NUMBER = 3;
        private static final int SIGN = 4;

        private static final int LONGEST_WORD = 8;
        private static final int LONGEST_NUMBER = 4;

        private final Tape tape;
        private int next = 0;
        private int kind = END;
        private int place = 0;
        // A word's letters as in names, a number, or a sign's byte.
        private long value = 0;

        private Tokens(Tape tape) {
            this.tape = tape;
        }

        private void restart() {
            next = 0;
        }

        private void advance() {
            skipBlanks();
            place = next;
            value = 0;
            int c = tape.at(next);
            if (c == NONE) {
                kind = END;
            } else if (isLetter(c)) {
                readWord();
            } else if (isDigit(c)) {
                readNumber();
            } else {
                readSign(c);
            }
        }

        private void skipBlanks() {
            while (next < tape.length && (tape.at(next) == ' ' || tape.at(next) == '\n')) {
                next++;
            }
        }

        private void readWord() {
            while (next < tape.length && isLetter(tape.at(next))) {
                value = value << 8 | tape.at(next);
                next++;
            }
            kind = next - place <= LONGEST_WORD ? WORD : WRONG;
        }

        private void readNumber() {
            while (next < tape.length && isDigit(tape.at(next))) {
                value = value * 10 + (tape.at(next) - '0');
                next++;
            }
            boolean sound = next - place <= LONGEST_NUMBER && !isLetter(tape.at(next));
            kind = sound ? NUMBER : WRONG;
        }

        private void readSign(int c) {
            value = c;
            next++;
            kind = c == ':' || c == ';' || c == '?' ? SIGN : WRONG;
        }

        private boolean isSign(char sign) {
            return kind == SIGN && value == sign;
        }

        private boolean isWord(long word) {
            return kind == WORD && value == word;
        }
    }

    /** What one line of a flake says of one day of one gang. */
    private static final class Line {
        private static final int UNNAMED = 0;
        private static final int NAMED_WITH_GAP = -1;

        private final int day;
        private final int side;
        // By men: UNNAMED, NAMED_WITH_GAP, or what the REASON tells.
        private final int[] entries = new int[MOST_MEN];
        private boolean gap = false;
        private int wicksTold = NONE;

        private Line(int day, int side) {
            this.day = day;
            this.side = side;
        }

        private boolean isOf(int wantedSide, int wantedDay) {
            return side == wantedSide && day == wantedDay;
        }

        private boolean names(int man) {
            return entries[man] != UNNAMED;
        }

        /** What it tells of a man of its gang; OPEN for nothing. */
        private int tells(int man) {
            if (entries[man] == NAMED_WITH_GAP) {
                return OPEN;
            }
            if (entries[man] == UNNAMED) {
                return gap ? OPEN : WORKED;
            }
            return entries[man];
        }
    }

    private static final class Flake {
        private final int found;
        private final ArrayList<Line> lines = new ArrayList<>();
        private boolean givenUp = false;
        private int givenUpOn = 0;

        private Flake(int found) {
            this.found = found;
        }

        private boolean counts(int k) {
            return found <= k && !(givenUp && givenUpOn <= k);
        }
    }

    private static final class Flakes {
        private final ArrayList<Flake> kept = new ArrayList<>();

        private int count() {
            return kept.size();
        }

        private boolean isFull() {
            return kept.size() >= MOST_FLAKES;
        }

        private int keep(Flake flake) {
            kept.add(flake);
            return kept.size() - 1;
        }

        private boolean giveUpOn(int number, int date) {
            if (!isBelow(number, kept.size()) || kept.get(number).givenUp) {
                return false;
            }
            kept.get(number).givenUp = true;
            kept.get(number).givenUpOn = date;
            return true;
        }

        private int linesOf(int number) {
            return isBelow(number, kept.size()) ? kept.get(number).lines.size() : NONE;
        }
    }

    /** Reads the tape as a flake; keeps the first fault and its place. */
    private static final class FlakeReader {
        private static final int NO_TOKEN = 1;
        private static final int OUT_OF_PLACE = 2;
        private static final int DAY_TOO_HIGH = 3;
        private static final int UNKNOWN_NAME = 4;
        private static final int NAME_AGAIN = 5;
        private static final int ODD_WICKS = 6;

        // What is to come next.
        private static final int LINE = 0;
        private static final int DAY_NUMBER = 1;
        private static final int GANG = 2;
        private static final int COLON = 3;
        private static final int ENTRY = 4;
        private static final int TOLD_OF_NAME = 5;
        private static final int WICKS_NUMBER = 6;
        private static final int SEMICOLON = 7;

        private final Tokens tokens;
        private final Men men;
        private int fault = 0;
        private int place = NONE;

        private int expected = LINE;
        private int lineDay = 0;
        private Line line = new Line(0, 0);
        private int named = 0;

        private FlakeReader(Tape tape, Men men) {
            this.tokens = new Tokens(tape);
            this.men = men;
        }

        /** Puts the lines of the tape into a new flake; false if there is a fault. */
        private boolean read(Flake flake) {
            fault = 0;
            place = NONE;
            expected = LINE;
            tokens.restart();
            // Each token takes a byte at least, and the end comes behind the last.
            for (int n = 0; n <= MOST_BYTES; n++) {
                tokens.advance();
                if (tokens.kind == Tokens.END && expected == LINE) {
                    return true;
                }
                fault = faultOfToken(flake);
                if (fault != 0) {
                    place = tokens.place;
                    return false;
                }
            }
            return false;
        }

        private int faultOfToken(Flake flake) {
            if (tokens.kind == Tokens.WRONG) {
                return NO_TOKEN;
            }
            if (tokens.kind == Tokens.END) {
                return OUT_OF_PLACE;
            }
            switch (expected) {
                case LINE:
                    return takeLine(flake);
                case DAY_NUMBER:
                    return takeDayNumber();
                case GANG:
                    return takeGang(flake);
                case COLON:
                    return takeSign(':', ENTRY);
                case ENTRY:
                    return takeEntry();
                case TOLD_OF_NAME:
                    return takeToldOfName();
                case WICKS_NUMBER:
                    return takeWicksNumber();
                default:
                    return takeSign(';', LINE);
            }
        }

        private int takeLine(Flake flake) {
            if (!tokens.isWord(WORD_DAY) || flake.lines.size() >= MOST_LINES) {
                return OUT_OF_PLACE;
            }
            return expect(DAY_NUMBER);
        }

        private int takeDayNumber() {
            if (tokens.kind != Tokens.NUMBER) {
                return OUT_OF_PLACE;
            }
            if (tokens.value >= DAYS) {
                return DAY_TOO_HIGH;
            }
            lineDay = (int) tokens.value;
            return expect(GANG);
        }

        private int takeGang(Flake flake) {
            int side = tokens.kind == Tokens.WORD ? sideOf(tokens.value) : NONE;
            if (side == NONE) {
                return OUT_OF_PLACE;
            }
            line = new Line(lineDay, side);
            flake.lines.add(line);
            return expect(COLON);
        }

        private int takeSign(char sign, int then) {
            return tokens.isSign(sign) ? expect(then) : OUT_OF_PLACE;
        }

        private int takeEntry() {
            if (tokens.isSign('?')) {
                line.gap = true;
                return expect(ENTRY);
            }
            if (tokens.isWord(WORD_WICKS)) {
                return expect(WICKS_NUMBER);
            }
            if (tokens.kind == Tokens.WORD && isFree(tokens.value)) {
                return takeName();
            }
            return takeSign(';', LINE);
        }

        private int takeName() {
            named = men.findInGang(tokens.value, line.side);
            if (named == NONE) {
                return UNKNOWN_NAME;
            }
            return line.names(named) ? NAME_AGAIN : expect(TOLD_OF_NAME);
        }

        private int takeToldOfName() {
            if (tokens.isSign('?')) {
                line.entries[named] = Line.NAMED_WITH_GAP;
                return expect(ENTRY);
            }
            int reason = tokens.kind == Tokens.WORD ? reasonOf(tokens.value) : NONE;
            if (reason == NONE) {
                return OUT_OF_PLACE;
            }
            line.entries[named] = reason;
            return expect(ENTRY);
        }

        private int takeWicksNumber() {
            if (tokens.isSign('?')) {
                return expect(SEMICOLON);
            }
            if (tokens.kind != Tokens.NUMBER) {
                return OUT_OF_PLACE;
            }
            if ((tokens.value & 1) == 1) {
                return ODD_WICKS;
            }
            line.wicksTold = (int) tokens.value;
            return expect(SEMICOLON);
        }

        private int expect(int next) {
            expected = next;
            return 0;
        }
    }

    /** What the flakes tell of a gang's day, narrowed by the wicks. */
    private static final class DayBook {
        private final Men men;
        private final Flakes flakes;
        // Of the day reckoned last, for the men of its gang.
        private final int[] states = new int[MOST_MEN];
        private final int[] daysOf = new int[STATES];
        private int wicksTold = NONE;
        private boolean wicksUnlike = false;

        private DayBook(Men men, Flakes flakes) {
            this.men = men;
            this.flakes = flakes;
        }

        private int stateOf(int man, int day, int k) {
            reckon(men.side[man], day, k);
            return states[man];
        }

        /** How many days of a month are what, in a row that the next call fills anew. */
        private int[] daysByState(int man, int month, int k) {
            for (int state = 0; state < STATES; state++) {
                daysOf[state] = 0;
            }
            for (int n = 0; n < DAYS_OF_MONTH; n++) {
                daysOf[stateOf(man, month * DAYS_OF_MONTH + n, k)]++;
            }
            return daysOf;
        }

        /** Fills the states of a gang's men on a day; answers whether its wicks quarrel. */
        private int reckon(int side, int day, int k) {
            for (int man = 0; man < MOST_MEN; man++) {
                states[man] = OPEN;
            }
            wicksTold = NONE;
            wicksUnlike = false;
            for (int n = 0; n < flakes.kept.size(); n++) {
                Flake flake = flakes.kept.get(n);
                if (flake.counts(k)) {
                    hearFlake(flake, side, day);
                }
            }
            return narrow(side);
        }

        private void hearFlake(Flake flake, int side, int day) {
            for (int n = 0; n < flake.lines.size(); n++) {
                Line line = flake.lines.get(n);
                if (line.isOf(side, day)) {
                    hearLine(line);
                }
            }
        }

        private void hearLine(Line line) {
            for (int man = 0; man < men.count; man++) {
                if (men.side[man] == line.side) {
                    states[man] = joined(states[man], line.tells(man));
                }
            }
            if (line.wicksTold != NONE) {
                wicksUnlike = wicksUnlike || wicksTold != NONE && wicksTold != line.wicksTold;
                wicksTold = line.wicksTold;
            }
        }

        private static int joined(int before, int told) {
            if (told == OPEN || before == TORN) {
                return before;
            }
            if (before == OPEN) {
                return told;
            }
            return (before == WORKED) == (told == WORKED) ? before : TORN;
        }

        private int narrow(int side) {
            if (wicksTold == NONE) {
                return WICKS_UNTOLD;
            }
            int open = menThatAre(OPEN, side);
            int wanted = wicksTold / 2 - menThatAre(WORKED, side);
            if (wicksUnlike || menThatAre(TORN, side) > 0 || wanted < 0 || wanted > open) {
                return WICKS_QUARREL;
            }
            if (wanted == open) {
                closeOpen(side, WORKED);
            } else if (wanted == 0) {
                closeOpen(side, MISSED_FOR_NONE);
            }
            return WICKS_AGREE;
        }

        private int menThatAre(int state, int side) {
            int found = 0;
            for (int man = 0; man < men.count; man++) {
                if (men.side[man] == side && states[man] == state) {
                    found++;
                }
            }
            return found;
        }

        private void closeOpen(int side, int state) {
            for (int man = 0; man < men.count; man++) {
                if (men.side[man] == side && states[man] == OPEN) {
                    states[man] = state;
                }
            }
        }
    }

    private static final class Rations {
        private static final int MOST_OWED = 100;

        private final Men men;
        private final int[] sacksByRank = {4, 5, 6, 7};
        private final int[] to = new int[MOST_COMINGS];
        private final int[] on = new int[MOST_COMINGS];
        private final int[] sacks = new int[MOST_COMINGS];
        private int count = 0;

        private Rations(Men men) {
            this.men = men;
        }

        private boolean setSacks(int rank, int many) {
            if (many < 0 || many > MOST_OWED) {
                return false;
            }
            sacksByRank[rank] = many;
            return true;
        }

        private int take(int man, int day, int many) {
            if (many < 1 || many > MOST_AT_ONCE || count >= MOST_COMINGS) {
                return NONE;
            }
            to[count] = man;
            on[count] = day;
            sacks[count] = many;
            count++;
            return count;
        }

        private int owedTo(int man, int day) {
            int monthsEnded = (day + 1) / DAYS_OF_MONTH;
            int owed = monthsEnded * sacksByRank[men.rank[man]];
            for (int n = 0; n < count; n++) {
                if (to[n] == man && on[n] <= day) {
                    owed -= sacks[n];
                }
            }
            return owed;
        }
    }

    private static final class Debts {
        private static final int UNPAID = DAYS;

        private final int[] by = new int[MOST_DEBTS];
        private final int[] to = new int[MOST_DEBTS];
        private final int[] good = new int[MOST_DEBTS];
        private final int[] many = new int[MOST_DEBTS];
        private final int[] from = new int[MOST_DEBTS];
        private final int[] paid = new int[MOST_DEBTS];
        private int count = 0;
        private final int[] worths = new int[GOODS * YEARS];
        private final int[] balances = new int[MOST_MEN];

        private Debts() {
            for (int n = 0; n < worths.length; n++) {
                worths[n] = 1;
            }
        }

        private boolean setWorth(int ofGood, int year, int value) {
            if (value < 0 || value > MOST_AT_ONCE) {
                return false;
            }
            worths[ofGood * YEARS + year] = value;
            return true;
        }

        private int add(int debtor, int creditor, int ofGood, int howMany, int day) {
            if (howMany < 1 || howMany > MOST_AT_ONCE || count >= MOST_DEBTS) {
                return NONE;
            }
            by[count] = debtor;
            to[count] = creditor;
            good[count] = ofGood;
            many[count] = howMany;
            from[count] = day;
            paid[count] = UNPAID;
            count++;
            return count - 1;
        }

        private boolean setPaid(int number, int day) {
            if (!isBelow(number, count) || paid[number] != UNPAID || day < from[number]) {
                return false;
            }
            paid[number] = day;
            return true;
        }

        /** The balances of all men on a day, in a row that the next call fills anew. */
        private int[] balancesOn(int day) {
            for (int man = 0; man < MOST_MEN; man++) {
                balances[man] = 0;
            }
            for (int n = 0; n < count; n++) {
                if (from[n] <= day && day < paid[n]) {
                    int sum = many[n] * worths[good[n] * YEARS + from[n] / DAYS_OF_YEAR];
                    balances[to[n]] += sum;
                    balances[by[n]] -= sum;
                }
            }
            return balances;
        }
    }

    /** The fewest payments: a set of men whose balances make 0 needs one less than it has men. */
    private static final class Settling {
        private final int[] sums = new int[MOST_MEN];
        // By sets of men, as bits: into how many sets of sum 0 it can be parted, a rest left over.
        private final int[] mostSets = new int[1 << MOST_MEN - 1];

        private int payments(int[] balances) {
            int men = 0;
            for (int n = 0; n < balances.length && men < MOST_MEN; n++) {
                if (balances[n] != 0) {
                    sums[men] = balances[n];
                    men++;
                }
            }
            if (men == 0) {
                return 0;
            }
            // All balances make 0, so the last man's set is whatever the others' sets leave.
            return men - 1 - mostSetsAmong(men - 1);
        }

        private int mostSetsAmong(int men) {
            int sets = 1 << men;
            for (int set = 1; set < sets; set++) {
                mostSets[set] = mostSetsWithin(set, men);
            }
            return mostSets[sets - 1];
        }

        private int mostSetsWithin(int set, int men) {
            int sum = 0;
            int most = 0;
            for (int man = 0; man < men; man++) {
                int without = set & ~(1 << man);
                if (without != set) {
                    sum += sums[man];
                    most = Math.max(most, mostSets[without]);
                }
            }
            return sum == 0 ? most + 1 : most;
        }
    }
}
