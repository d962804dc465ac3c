import java.nio.charset.StandardCharsets;
import java.util.ArrayList;
import java.util.HashMap;
import java.util.HashSet;
import java.util.List;
import java.util.Map;
import java.util.Random;
import java.util.Set;
import java.util.TreeSet;
import java.util.regex.Matcher;
import java.util.regex.Pattern;

/** Random runs of 512 calls on TombLane and on a second, slow reading of the document; the seeds are fixed. */
public final class TombLaneModel {
    private static final int RUNS = 400;
    private static final int CALLS = 512;
    private static final String[] NAMES = {"a", "ani", "bek", "kha", "pai", "abcdefgh", "zz", "nefer", "hay", "amun",
        "ken", "paneb", "ipuy", "huy"};
    private static final List<String> REASONS = List.of("work", "ill", "feast", "away", "drunk");
    private static final Set<String> NO_NAMES =
        Set.of("day", "left", "right", "wicks", "work", "ill", "feast", "away", "drunk");

    private record Man(String name, int side, int rank) { }

    /** A line: what it tells by names, "?" among it. */
    private record Told(int day, int side, Map<String, String> entries, boolean gap, Integer wicks) { }

    private static final class Found {
        private final int on;
        private int givenUp = Integer.MAX_VALUE;
        private boolean isGivenUp;
        private final List<Told> lines;

        private Found(int on, List<Told> lines) {
            this.on = on;
            this.lines = lines;
        }

        private boolean counts(int k) {
            return on <= k && (!isGivenUp || givenUp > k);
        }
    }

    private record Coming(int man, int day, int sacks) { }

    private static final class Owed {
        private final int by;
        private final int to;
        private final int good;
        private final int many;
        private final int day;
        private Integer paid;

        private Owed(int by, int to, int good, int many, int day) {
            this.by = by;
            this.to = to;
            this.good = good;
            this.many = many;
            this.day = day;
        }
    }

    private record Token(String text, int place) { }

    private static final class Fault extends Exception {
        private static final long serialVersionUID = 1L;
        private final int kind;
        private final int place;

        private Fault(int kind, int place) {
            this.kind = kind;
            this.place = place;
        }
    }

    /** The second reading. */
    private static final class Model {
        private static final Pattern TOKEN = Pattern.compile("[a-z]+|[0-9]+|[:;?]");
        private final List<Man> men = new ArrayList<>();
        private final List<Found> flakes = new ArrayList<>();
        private final List<Coming> comings = new ArrayList<>();
        private final List<Owed> debts = new ArrayList<>();
        private final int[] rations = {4, 5, 6, 7};
        private final Map<List<Integer>, Integer> worths = new HashMap<>();
        private String tape = "";
        private int date;
        private int fault;
        private int place = -1;
        private int next;

        private boolean has(int man) {
            return 0 <= man && man < men.size();
        }

        private static boolean isDay(int day) {
            return 0 <= day && day <= 3599;
        }

        private int man(long name, int side, int rank) {
            StringBuilder letters = new StringBuilder();
            for (long rest = name; rest != 0; rest >>>= 8) {
                letters.insert(0, (char) (rest & 255));
            }
            String text = letters.toString();
            boolean can = text.matches("[a-z]{1,8}") && !NO_NAMES.contains(text) && (side == 0 || side == 1)
                && rank >= 0 && rank <= 3 && men.size() < 12;
            if (!can || men.stream().anyMatch(m -> m.name.equals(text))) {
                return -1;
            }
            men.add(new Man(text, side, rank));
            return men.size() - 1;
        }

        private int feed(String twenty) {
            if (tape.length() > 280) {
                return -1;
            }
            tape += twenty;
            return tape.length();
        }

        private int end(int n) {
            if (n < 0 || n > tape.length()) {
                return -1;
            }
            tape = tape.substring(0, n);
            return n;
        }

        private int flake() {
            if (flakes.size() == 40) {
                return -2;
            }
            fault = 0;
            place = -1;
            next = 0;
            String text = tape;
            tape = "";
            try {
                List<Told> lines = new ArrayList<>();
                while (peek(text) != null) {
                    if (lines.size() == 20) {
                        throw new Fault(2, peek(text).place);
                    }
                    lines.add(line(text));
                }
                flakes.add(new Found(date, lines));
                return flakes.size() - 1;
            } catch (Fault e) {
                fault = e.kind;
                place = e.place;
                return -1;
            }
        }

        /** The next token; null at the end. */
        private Token peek(String text) throws Fault {
            int from = next;
            while (from < text.length() && " \n".indexOf(text.charAt(from)) >= 0) {
                from++;
            }
            if (from == text.length()) {
                return null;
            }
            Matcher m = TOKEN.matcher(text).region(from, text.length());
            if (!m.lookingAt()) {
                throw new Fault(1, from);
            }
            String t = m.group();
            boolean number = Character.isDigit(t.charAt(0));
            boolean letterBehind = m.end() < text.length() && text.substring(m.end(), m.end() + 1).matches("[a-z]");
            if (t.length() > (number ? 4 : 8) || number && letterBehind) {
                throw new Fault(1, from);
            }
            return new Token(t, from);
        }

        private Token take(String text, String form) throws Fault {
            Token token = peek(text);
            if (token == null) {
                throw new Fault(2, text.length());
            }
            if (!token.text.matches(form)) {
                throw new Fault(2, token.place);
            }
            next = token.place + token.text.length();
            return token;
        }

        private Told line(String text) throws Fault {
            take(text, "day");
            Token number = take(text, "[0-9]+");
            int day = Integer.parseInt(number.text);
            if (day > 3599) {
                throw new Fault(3, number.place);
            }
            int side = take(text, "left|right").text.equals("left") ? 0 : 1;
            take(text, ":");
            Map<String, String> entries = new HashMap<>();
            boolean gap = false;
            Integer wicks = null;
            Token token = take(text, "[a-z?;]+");
            while (!token.text.equals(";") && !token.text.equals("wicks")) {
                if (token.text.equals("?")) {
                    gap = true;
                } else {
                    entry(text, token, side, entries);
                }
                token = take(text, "[a-z?;]+");
            }
            if (token.text.equals("wicks")) {
                Token many = take(text, "[0-9]+|\\?");
                if (!many.text.equals("?")) {
                    wicks = Integer.parseInt(many.text);
                    if (wicks % 2 != 0) {
                        throw new Fault(6, many.place);
                    }
                }
                take(text, ";");
            }
            return new Told(day, side, entries, gap, wicks);
        }

        private void entry(String text, Token name, int side, Map<String, String> entries) throws Fault {
            if (NO_NAMES.contains(name.text)) {
                throw new Fault(2, name.place);
            }
            if (men.stream().noneMatch(m -> m.name.equals(name.text) && m.side == side)) {
                throw new Fault(4, name.place);
            }
            if (entries.containsKey(name.text)) {
                throw new Fault(5, name.place);
            }
            entries.put(name.text, take(text, "work|ill|feast|away|drunk|\\?").text);
        }

        private boolean giveUp(int n) {
            if (n < 0 || n >= flakes.size() || flakes.get(n).isGivenUp) {
                return false;
            }
            flakes.get(n).isGivenUp = true;
            flakes.get(n).givenUp = date;
            return true;
        }

        private int later(int days) {
            if (days < 0 || days > 1000 || date > 100000 - days) {
                return -1;
            }
            date += days;
            return date;
        }

        private List<Told> toldOf(int side, int day, int k) {
            return flakes.stream().filter(f -> f.counts(k)).flatMap(f -> f.lines.stream())
                .filter(l -> l.side == side && l.day == day).toList();
        }

        /** As told alone, without the wicks. */
        private int plainDay(int man, int day, int k) {
            List<Integer> told = new ArrayList<>();
            String name = men.get(man).name;
            for (Told line : toldOf(men.get(man).side, day, k)) {
                String entry = line.entries.getOrDefault(name, line.gap ? "?" : "work");
                if (!entry.equals("?")) {
                    told.add(1 + REASONS.indexOf(entry));
                }
            }
            if (told.isEmpty()) {
                return 0;
            }
            boolean worked = told.contains(1);
            boolean missed = told.stream().anyMatch(t -> t != 1);
            return worked && missed ? 7 : told.get(0);
        }

        private int menThatAre(int state, int side, int day, int k) {
            int n = 0;
            for (int man = 0; man < men.size(); man++) {
                if (men.get(man).side == side && plainDay(man, day, k) == state) {
                    n++;
                }
            }
            return n;
        }

        private int wicks(int side, int day, int k) {
            if (side != 0 && side != 1 || !isDay(day)) {
                return -1;
            }
            Set<Integer> numbers = numbers(side, day, k);
            if (numbers.isEmpty()) {
                return 0;
            }
            int wanted = wanted(side, day, k);
            boolean quarrel = numbers.size() > 1 || menThatAre(7, side, day, k) > 0 || wanted < 0
                || wanted > menThatAre(0, side, day, k);
            return quarrel ? 1 : 2;
        }

        private Set<Integer> numbers(int side, int day, int k) {
            Set<Integer> numbers = new TreeSet<>();
            toldOf(side, day, k).stream().filter(l -> l.wicks != null).forEach(l -> numbers.add(l.wicks));
            return numbers;
        }

        private int wanted(int side, int day, int k) {
            return numbers(side, day, k).iterator().next() / 2 - menThatAre(1, side, day, k);
        }

        private int day(int man, int day, int k) {
            if (!has(man) || !isDay(day)) {
                return -1;
            }
            int side = men.get(man).side;
            int state = plainDay(man, day, k);
            if (state != 0 || wicks(side, day, k) != 2) {
                return state;
            }
            int wanted = wanted(side, day, k);
            if (wanted == menThatAre(0, side, day, k)) {
                return 1;
            }
            return wanted == 0 ? 6 : 0;
        }

        private int daysThatAre(Set<Integer> states, int man, int month, int k) {
            if (!has(man) || month < 0 || month > 119) {
                return -1;
            }
            int n = 0;
            for (int day = 30 * month; day <= 30 * month + 29; day++) {
                n += states.contains(day(man, day, k)) ? 1 : 0;
            }
            return n;
        }

        private int come(int man, int day, int sacks) {
            if (!has(man) || !isDay(day) || sacks < 1 || sacks > 1000 || comings.size() == 60) {
                return -1;
            }
            comings.add(new Coming(man, day, sacks));
            return comings.size();
        }

        private int arrears(int man, int day) {
            if (!has(man) || !isDay(day)) {
                return -1000000;
            }
            int owed = 0;
            for (int month = 0; 30 * month + 29 <= day; month++) {
                owed += rations[men.get(man).rank];
            }
            return owed - comings.stream().filter(c -> c.man == man && c.day <= day).mapToInt(c -> c.sacks).sum();
        }

        private int debt(int by, int to, int good, int many, int day) {
            boolean can = has(by) && has(to) && by != to && good >= 0 && good <= 4 && many >= 1 && many <= 1000
                && isDay(day) && debts.size() < 60;
            if (!can) {
                return -1;
            }
            debts.add(new Owed(by, to, good, many, day));
            return debts.size() - 1;
        }

        private boolean pay(int debt, int day) {
            if (debt < 0 || debt >= debts.size() || !isDay(day)) {
                return false;
            }
            Owed owed = debts.get(debt);
            if (owed.paid != null || day < owed.day) {
                return false;
            }
            owed.paid = day;
            return true;
        }

        private int balance(int man, int day) {
            if (!has(man) || !isDay(day)) {
                return -2000000001;
            }
            int sum = 0;
            for (Owed d : debts) {
                if (d.day <= day && (d.paid == null || d.paid > day)) {
                    int value = d.many * worths.getOrDefault(List.of(d.good, d.day / 360), 1);
                    sum += d.to == man ? value : d.by == man ? -value : 0;
                }
            }
            return sum;
        }

        private int fewest(int day) {
            if (!isDay(day)) {
                return -1;
            }
            List<Integer> sums = new ArrayList<>();
            for (int man = 0; man < men.size(); man++) {
                if (balance(man, day) != 0) {
                    sums.add(balance(man, day));
                }
            }
            return sums.size() - mostParts((1 << sums.size()) - 1, sums, new HashMap<>());
        }

        /** Into how many sets of sum 0 this one can be parted whole, by all sets that its lowest man may be in. */
        private static int mostParts(int all, List<Integer> sums, Map<Integer, Integer> known) {
            if (all == 0) {
                return 0;
            }
            Integer before = known.get(all);
            if (before != null) {
                return before;
            }
            int lowest = all & -all;
            int rest = all ^ lowest;
            int most = Integer.MIN_VALUE / 2;
            for (int with = rest; with >= 0; with = with == 0 ? -1 : with - 1 & rest) {
                int sum = 0;
                for (int i = 0; i < sums.size(); i++) {
                    sum += ((with | lowest) >> i & 1) * sums.get(i);
                }
                if (sum == 0) {
                    most = Math.max(most, 1 + mostParts(rest ^ with, sums, known));
                }
            }
            known.put(all, most);
            return most;
        }

        private int about(int what) {
            if (what >= 10 && what < 10 + flakes.size()) {
                return flakes.get(what - 10).lines.size();
            }
            int[] counts = {men.size(), flakes.size(), date, comings.size(), debts.size(), tape.length()};
            return what >= 0 && what < counts.length ? counts[what] : -1;
        }
    }

    /** One run: both objects, and what to call them with. */
    private static final class Run {
        private final Random random;
        private final TombLane lane = new TombLane();
        private final Model model = new Model();
        private final List<String> log = new ArrayList<>();
        // How often a text is spoilt, over how many days the run goes, and what it fills, differ between runs.
        private final int spoil;
        private final int days;
        private final int filled;

        private Run(int seed) {
            random = new Random(seed);
            spoil = 1 + seed % 5;
            days = seed % 3 == 0 ? 3 : seed % 3 == 1 ? 40 : 3600;
            filled = seed % 7;
        }

        private boolean one(int chance) {
            return random.nextInt(chance) == 0;
        }

        private int odd() {
            int[] odds = {-1, 2, 4, 5, 7, 12, 20, 40, 60, 101, 120, 300, 1001, 3600, Integer.MIN_VALUE,
                Integer.MAX_VALUE, Integer.MIN_VALUE + 10, 0x80000000 + 3600};
            return odds[random.nextInt(odds.length)];
        }

        private int below(int bound) {
            return one(25) ? odd() : random.nextInt(bound);
        }

        private int aDay() {
            return below(days);
        }

        private int aMan() {
            return below(Math.max(1, model.men.size()));
        }

        private int known() {
            return one(10) ? odd() : random.nextInt(model.date + 2);
        }

        private String text() {
            StringBuilder text = new StringBuilder();
            int lines = one(20) ? 22 : random.nextInt(5);
            for (int i = 0; i < lines && text.length() < 280; i++) {
                text.append(lines == 22 ? "day1 left:;" : line());
            }
            if (one(spoil)) {
                spoilText(text);
            }
            text.setLength(Math.min(text.length(), 300));
            return text.toString();
        }

        private String line() {
            int side = random.nextInt(2);
            StringBuilder line = new StringBuilder("day " + random.nextInt(days) + (side == 0 ? " left:" : " right:"));
            Set<String> named = new HashSet<>();
            for (Man man : model.men) {
                if (man.side == side && one(3) && named.add(man.name)) {
                    line.append(' ').append(man.name).append(' ');
                    line.append(one(4) ? "?" : REASONS.get(random.nextInt(5)));
                }
            }
            if (one(2)) {
                line.append(" ?");
            }
            if (one(2)) {
                line.append(" wicks ").append(one(6) ? "?" : "" + 2 * random.nextInt(5));
            }
            return line.append(one(2) ? ";\n" : " ; ").toString();
        }

        private void spoilText(StringBuilder text) {
            String[] bits = {"X", "?", ":", ";", " ", "5", "12345", "x", "abcdefghi", "day", "left", "wicks", "ill",
                "ani", "paneb", "\0", "\u00ff", "7", "9999 "};
            int at = random.nextInt(text.length() + 1);
            int to = Math.min(text.length(), at + random.nextInt(4));
            text.replace(at, to, one(3) ? "" : bits[random.nextInt(bits.length)]);
        }

        private void due(String call, long got, long want) {
            log.add(call + " = " + want);
            if (got != want) {
                log.forEach(System.out::println);
                throw new IllegalStateException("the last call answered " + got);
            }
        }

        private void due(String call, boolean got, boolean want) {
            due(call, got ? 1 : 0, want ? 1 : 0);
        }

        private static int number(byte[] bytes, int from) {
            return (bytes[from] & 255) << 24 | (bytes[from + 1] & 255) << 16 | (bytes[from + 2] & 255) << 8
                | bytes[from + 3] & 255;
        }

        private void feed(String twenty) {
            byte[] b = twenty.getBytes(StandardCharsets.ISO_8859_1);
            int got = lane.feed(number(b, 0), number(b, 4), number(b, 8), number(b, 12), number(b, 16));
            due("feed \"" + twenty + "\"", got, model.feed(twenty));
        }

        private void end(int n) {
            due("end " + n, lane.end(n), model.end(n));
        }

        private void flakeOf(String text) {
            int before = model.tape.length();
            for (int i = 0; i < text.length(); i += 20) {
                feed((text + " ".repeat(20)).substring(i, i + 20));
            }
            end(before + text.length());
            due("flake", lane.flake(), model.flake());
            due("fault 0", lane.fault(0), model.fault);
            due("fault 1", lane.fault(1), model.place);
        }

        private void man() {
            String text = NAMES[random.nextInt(NAMES.length)];
            long name = 0;
            for (char c : text.toCharArray()) {
                name = name << 8 | c;
            }
            if (one(10)) {
                name = random.nextLong();
            }
            int side = below(2);
            int rank = below(4);
            due("man " + name + " " + side + " " + rank, lane.man(name, side, rank), model.man(name, side, rank));
        }

        private void callOfDays() {
            int man = aMan();
            int day = aDay();
            int month = one(2) ? below(120) : random.nextInt(days) / 30;
            int k = known();
            switch (random.nextInt(4)) {
                case 0 -> due("day " + man + " " + day + " " + k, lane.day(man, day, k), model.day(man, day, k));
                case 1 -> {
                    int side = below(2);
                    due("wicks " + side + " " + day + " " + k, lane.wicks(side, day, k), model.wicks(side, day, k));
                }
                case 2 -> {
                    String call = "span " + man + " " + month + " " + k;
                    due(call + " false", lane.span(man, month, k, false),
                        model.daysThatAre(Set.of(1), man, month, k));
                    due(call + " true", lane.span(man, month, k, true),
                        model.daysThatAre(Set.of(0, 1, 7), man, month, k));
                }
                default -> {
                    int reason = 1 + below(7);
                    int want = reason < 2 || reason > 6 ? -1 : model.daysThatAre(Set.of(reason), man, month, k);
                    due("missed " + man + " " + month + " " + reason + " " + k,
                        lane.missed(man, month, reason, k), want);
                }
            }
        }

        private void callOfRations() {
            int man = aMan();
            int day = aDay();
            int sacks = below(200);
            switch (random.nextInt(3)) {
                case 0 -> {
                    int rank = below(4);
                    boolean can = rank >= 0 && rank < 4 && sacks >= 0 && sacks <= 100;
                    if (can) {
                        model.rations[rank] = sacks;
                    }
                    due("ration " + rank + " " + sacks, lane.ration(rank, sacks), can);
                }
                case 1 -> due("come " + man + " " + day + " " + sacks, lane.come(man, day, sacks),
                    model.come(man, day, sacks));
                default -> due("arrears " + man + " " + day, lane.arrears(man, day), model.arrears(man, day));
            }
        }

        private void callOfDebts() {
            int man = aMan();
            int other = aMan();
            int day = aDay();
            int good = below(5);
            switch (random.nextInt(6)) {
                case 0 -> {
                    int year = below(10);
                    int worth = one(2) ? below(4) : below(1001);
                    boolean can = good >= 0 && good < 5 && year >= 0 && year < 10 && worth >= 0 && worth <= 1000;
                    if (can) {
                        model.worths.put(List.of(good, year), worth);
                    }
                    due("worth " + good + " " + year + " " + worth, lane.worth(good, year, worth), can);
                }
                case 1, 2 -> {
                    int many = below(6);
                    due("debt " + man + " " + other + " " + good + " " + many + " " + day,
                        lane.debt(man, other, good, many, day), model.debt(man, other, good, many, day));
                }
                case 3 -> {
                    int debt = below(Math.max(1, model.debts.size()));
                    due("pay " + debt + " " + day, lane.pay(debt, day), model.pay(debt, day));
                }
                case 4 -> due("balance " + man + " " + day, lane.balance(man, day), model.balance(man, day));
                default -> due("fewest " + day, lane.fewest(day), model.fewest(day));
            }
        }

        private void otherCall() {
            switch (random.nextInt(6)) {
                case 0 -> {
                    int flake = below(Math.max(1, model.flakes.size()));
                    due("giveUp " + flake, lane.giveUp(flake), model.giveUp(flake));
                }
                case 1 -> {
                    int days = below(3);
                    due("later " + days, lane.later(days), model.later(days));
                }
                case 2 -> {
                    int what = below(60);
                    due("about " + what, lane.about(what), model.about(what));
                }
                case 3 -> {
                    int man = aMan();
                    int what = below(3);
                    int want = -1;
                    if (model.has(man) && what >= 0 && what <= 2) {
                        Man of = model.men.get(man);
                        want = what == 0 ? of.side : what == 1 ? of.rank : of.name.length();
                    }
                    due("of " + man + " " + what, lane.of(man, what), want);
                }
                case 4 -> end(one(2) ? odd() : random.nextInt(model.tape.length() + 2));
                default -> {
                    if (one(4)) {
                        feed("day 1 left: ani ill;");
                    }
                }
            }
        }

        /** One call more of what this run is to fill; the runs of kind 6 fill nothing. */
        private void fill() {
            switch (filled) {
                case 0 -> man();
                case 1 -> flakeOf("");
                case 2 -> {
                    int man = aMan();
                    int sacks = 1 + below(1000);
                    due("come " + man + " 5 " + sacks, lane.come(man, 5, sacks), model.come(man, 5, sacks));
                }
                case 3 -> {
                    int by = aMan();
                    int to = aMan();
                    due("debt " + by + " " + to + " 0 1 5", lane.debt(by, to, 0, 1, 5), model.debt(by, to, 0, 1, 5));
                }
                case 4 -> due("later 1000", lane.later(1000), model.later(1000));
                case 5 -> feed(" ".repeat(20));
                default -> { }
            }
        }

        private void go() {
            for (int i = 0; i < 6; i++) {
                man();
            }
            // A round is at most 23 calls: 4 that fill, and a flake with 15 feeds, an end and two faults.
            while (log.size() <= CALLS - 23) {
                if (one(2)) {
                    fill();
                }
                switch (random.nextInt(10)) {
                    case 0, 1 -> flakeOf(text());
                    case 2 -> man();
                    case 3, 4, 5 -> callOfDays();
                    case 6 -> callOfRations();
                    case 7, 8 -> callOfDebts();
                    default -> otherCall();
                }
            }
        }

        /** Which limits the run has come to, as bits; feeds have passed the last one if one was refused. */
        private int limitsMet() {
            int met = model.men.size() == 12 ? 1 : 0;
            met |= model.flakes.size() == 40 ? 2 : 0;
            met |= model.comings.size() == 60 ? 4 : 0;
            met |= model.debts.size() == 60 ? 8 : 0;
            met |= model.date > 99000 ? 16 : 0;
            return met | (log.stream().anyMatch(call -> call.matches("(?s)feed.* = -1")) ? 32 : 0);
        }
    }

    public static void main(String[] args) {
        int limitsMet = 0;
        for (int seed = 0; seed < RUNS; seed++) {
            try {
                Run run = new Run(seed);
                run.go();
                limitsMet |= run.limitsMet();
            } catch (RuntimeException e) {
                e.printStackTrace(System.out);
                System.out.println("seed " + seed);
                System.exit(1);
            }
        }
        if (limitsMet != 63) {
            System.out.println("the runs came to the limits " + limitsMet + " alone, of 63");
            System.exit(1);
        }
        System.out.println("all answers are as due in " + RUNS + " runs");
    }
}
