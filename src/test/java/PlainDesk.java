import java.util.ArrayList;
import java.util.List;
import java.util.NoSuchElementException;
import java.util.TreeSet;

/**
 * The desk once more, written from the document's sentences without regard to speed or to Lendlathe.java.
 * Nothing is summed up in advance: what can be worked out from the list of events is worked out anew.
 */
public final class PlainDesk {
    private record Machine(int kind, int setup) {
    }

    private record Taken(int member, int kind, int day) {
    }

    private record Layer(String name, int amount) {
    }

    private record Cut(int bar, int length) {
    }

    private record Bar(int material, int length) {
    }

    private record Payment(int member, int amount) {
    }

    private static final class Entry {
        int member;
        int machine;
        int day;
        int start;
        int minutes;
        char work;
        char state = 'w';
        int due = 0;
        List<Cut> cuts = new ArrayList<>();

        TreeSet<Integer> times() {
            TreeSet<Integer> times = new TreeSet<>();
            for (int i = 0; i < minutes; i++) {
                times.add(day * 480 + start + i);
            }
            return times;
        }

        int last() {
            return start + minutes - 1;
        }
    }

    private final List<Machine> machines = new ArrayList<>();
    private int members = 0;
    private int day = 0;
    private final TreeSet<String> needs = new TreeSet<>();
    private final List<Taken> inductions = new ArrayList<>();
    private final List<Entry> entries = new ArrayList<>();
    private final List<Bar> bars = new ArrayList<>();
    private final int[] prices = new int[3];
    private final List<List<Layer>> tariffs = new ArrayList<>();
    private final List<int[]> breakages = new ArrayList<>();
    private final List<Payment> payments = new ArrayList<>();

    public PlainDesk() {
        for (int kind = 0; kind < 4; kind++) {
            tariffs.add(new ArrayList<>(List.of(new Layer("rate", 0))));
        }
    }

    private static void range(boolean holds) {
        if (!holds) {
            throw new IllegalArgumentException();
        }
    }

    private void index(boolean holds) {
        if (!holds) {
            throw new IndexOutOfBoundsException();
        }
    }

    private static void state(boolean holds) {
        if (!holds) {
            throw new IllegalStateException();
        }
    }

    private static void found(boolean holds) {
        if (!holds) {
            throw new NoSuchElementException();
        }
    }

    private static boolean in(long value, long least, long most) {
        return least <= value && value <= most;
    }

    public int addMachine(int kind, int setup) {
        range(in(kind, 0, 3) && in(setup, 0, 30));
        state(machines.size() < 6);
        machines.add(new Machine(kind, setup));
        return machines.size() - 1;
    }

    public int addMember() {
        state(members < 10);
        return members++;
    }

    public int day() {
        return day;
    }

    private boolean reaches(int kind, int other) {
        for (int next = 0; next < 4; next++) {
            if (needs.contains(kind + ">" + next) && (next == other || reaches(next, other))) {
                return true;
            }
        }
        return false;
    }

    public boolean addNeed(int kind, int other) {
        range(in(kind, 0, 3) && in(other, 0, 3) && kind != other);
        state(!reaches(other, kind));
        boolean added = needs.add(kind + ">" + other);
        for (Entry entry : entries) {
            if (entry.state == 'w' || entry.state == 'b') {
                if (!live(entry.member, machines.get(entry.machine).kind, entry.day)) {
                    entry.state = 'c';
                    entry.cuts.clear();
                }
            }
        }
        settle();
        return added;
    }

    private boolean live(int member, int kind, int on) {
        boolean taken = false;
        for (Taken induction : inductions) {
            if (induction.member == member && induction.kind == kind && in(induction.day, on - 29, on)) {
                taken = true;
            }
        }
        for (int other = 0; other < 4; other++) {
            if (needs.contains(kind + ">" + other) && !live(member, other, on)) {
                return false;
            }
        }
        return taken;
    }

    public int induct(int member, int kind) {
        index(in(member, 0, members - 1));
        range(in(kind, 0, 3));
        for (int other = 0; other < 4; other++) {
            if (needs.contains(kind + ">" + other) && !live(member, other, day)) {
                throw new UnsupportedOperationException();
            }
        }
        int ago = -1;
        for (Taken induction : inductions) {
            if (induction.member == member && induction.kind == kind) {
                ago = day - induction.day;
            }
        }
        inductions.add(new Taken(member, kind, day));
        settle();
        return ago;
    }

    public boolean isLive(int member, int kind, int on) {
        index(in(member, 0, members - 1));
        range(in(kind, 0, 3) && in(on, day, 999));
        return live(member, kind, on);
    }

    private Entry wish(int member, int machine, int on, int start, int minutes, char work) {
        index(in(member, 0, members - 1) && in(machine, 0, machines.size() - 1));
        range(in(on, day, day + 6) && start >= 0 && in(minutes, 1, 240) && (long) start + minutes - 1 <= 479);
        range("abc".indexOf(work) >= 0);
        Entry entry = new Entry();
        entry.member = member;
        entry.machine = machine;
        entry.day = on;
        entry.start = start;
        entry.minutes = minutes;
        entry.work = work;
        return entry;
    }

    private static boolean overlap(Entry one, Entry other) {
        TreeSet<Integer> common = one.times();
        common.retainAll(other.times());
        return !common.isEmpty();
    }

    private boolean busy(Entry entry) {
        for (Entry other : entries) {
            if (other.state == 'b' && other.member == entry.member && overlap(other, entry)) {
                return true;
            }
        }
        return false;
    }

    private int setup(Entry one, Entry other) {
        return one.work == other.work ? 0 : machines.get(one.machine).setup;
    }

    private boolean free(Entry entry) {
        Entry before = null;
        Entry after = null;
        for (Entry other : entries) {
            if (other.state == 'b' && other.machine == entry.machine && other.day == entry.day) {
                if (overlap(other, entry)) {
                    return false;
                }
                if (other.last() < entry.start && (before == null || other.last() > before.last())) {
                    before = other;
                }
                if (other.start > entry.last() && (after == null || other.start < after.start)) {
                    after = other;
                }
            }
        }
        if (before != null && entry.start - before.last() - 1 < setup(before, entry)) {
            return false;
        }
        return after == null || after.start - entry.last() - 1 >= setup(entry, after);
    }

    private char letter(Entry entry) {
        if (!live(entry.member, machines.get(entry.machine).kind, entry.day)) {
            return 'i';
        }
        if (busy(entry)) {
            return 'm';
        }
        return free(entry) ? 'o' : 't';
    }

    private void settle() {
        boolean again = true;
        while (again) {
            again = false;
            for (Entry entry : entries) {
                if (!again && entry.state == 'w' && letter(entry) == 'o') {
                    entry.state = 'b';
                    again = true;
                }
            }
        }
    }

    public int book(int member, int machine, int on, int start, int minutes, char work) {
        Entry entry = wish(member, machine, on, start, minutes, work);
        switch (letter(entry)) {
            case 'i' -> throw new UnsupportedOperationException();
            case 'm' -> throw new ArithmeticException();
            case 't' -> throw new NoSuchElementException();
            default -> state(entries.size() < 150);
        }
        entry.state = 'b';
        entries.add(entry);
        settle();
        return entries.size() - 1;
    }

    public int await(int member, int machine, int on, int start, int minutes, char work) {
        Entry entry = wish(member, machine, on, start, minutes, work);
        if (letter(entry) == 'i') {
            throw new UnsupportedOperationException();
        }
        state(letter(entry) != 'o' && entries.size() < 150);
        entries.add(entry);
        settle();
        return entries.size() - 1;
    }

    public char check(int member, int machine, int on, int start, int minutes, char work) {
        return letter(wish(member, machine, on, start, minutes, work));
    }

    public char cancel(int number) {
        found(in(number, 0, entries.size() - 1));
        Entry entry = entries.get(number);
        state(entry.state == 'w' || entry.state == 'b');
        char was = entry.state == 'w' ? 'w' : entry.day == day ? 'h' : 'f';
        if (was == 'h') {
            entry.due = cost(machines.get(entry.machine).kind, entry.minutes) / 2;
        }
        entry.state = 'c';
        entry.cuts.clear();
        settle();
        return was;
    }

    public char stateOf(int number) {
        found(in(number, 0, entries.size() - 1));
        return entries.get(number).state;
    }

    public int entries() {
        return entries.size();
    }

    public int endDay() {
        state(day != 900);
        int done = 0;
        for (Entry entry : entries) {
            if (entry.day == day && entry.state == 'b') {
                entry.state = 'd';
                entry.due = cost(machines.get(entry.machine).kind, entry.minutes);
                for (Cut cut : entry.cuts) {
                    int hundredfold = cut.length * prices[bars.get(cut.bar).material];
                    entry.due += hundredfold / 100 + (hundredfold % 100 > 0 ? 1 : 0);
                }
                done++;
            } else if (entry.day == day && entry.state == 'w') {
                entry.state = 'x';
            }
        }
        day++;
        settle();
        return done;
    }

    private boolean isOn(Entry entry, int machine, int on) {
        return entry.machine == machine && entry.day == on && (entry.state == 'b' || entry.state == 'd');
    }

    private char[] row(int machine, int on) {
        char[] row = "f".repeat(480).toCharArray();
        for (Entry entry : entries) {
            Entry before = null;
            for (Entry other : entries) {
                if (isOn(other, machine, on) && other.start < entry.start
                        && (before == null || other.start > before.start)) {
                    before = other;
                }
            }
            if (isOn(entry, machine, on) && before != null) {
                for (int i = 1; i <= setup(before, entry); i++) {
                    row[entry.start - i] = 's';
                }
            }
        }
        for (Entry entry : entries) {
            for (int i = 0; i < entry.minutes && isOn(entry, machine, on); i++) {
                row[entry.start + i] = 'b';
            }
        }
        return row;
    }

    private int count(int machine, int on, char letter) {
        index(in(machine, 0, machines.size() - 1));
        range(in(on, 0, day + 6));
        int count = 0;
        for (char one : row(machine, on)) {
            count += one == letter ? 1 : 0;
        }
        return count;
    }

    public char minuteAt(int machine, int on, int minute) {
        index(in(machine, 0, machines.size() - 1));
        range(in(on, 0, day + 6) && in(minute, 0, 479));
        return row(machine, on)[minute];
    }

    public int usedMinutes(int machine, int on) {
        return count(machine, on, 'b');
    }

    public int usedByMinutes(int machine, int on) {
        return count(machine, on, 'b');
    }

    public int setupMinutes(int machine, int on) {
        return count(machine, on, 's');
    }

    public int firstStart(int machine, int on, int minutes, char work) {
        index(in(machine, 0, machines.size() - 1));
        range(in(on, day, day + 6) && in(minutes, 1, 240) && "abc".indexOf(work) >= 0);
        for (int start = 0; start + minutes <= 480; start++) {
            Entry entry = new Entry();
            entry.machine = machine;
            entry.day = on;
            entry.start = start;
            entry.minutes = minutes;
            entry.work = work;
            if (free(entry)) {
                return start;
            }
        }
        throw new NoSuchElementException();
    }

    public int firstByMinutes(int machine, int on, int minutes, char work) {
        return firstStart(machine, on, minutes, work);
    }

    public int waiting(int machine, int on) {
        index(in(machine, 0, machines.size() - 1));
        range(in(on, day, day + 6));
        int count = 0;
        for (Entry entry : entries) {
            count += entry.state == 'w' && entry.machine == machine && entry.day == on ? 1 : 0;
        }
        return count;
    }

    public int deliver(int material, int length) {
        range(in(material, 0, 2) && in(length, 1, 5000));
        state(bars.size() < 30);
        bars.add(new Bar(material, length));
        return bars.size() - 1;
    }

    private int free(int bar) {
        int free = bars.get(bar).length;
        for (Entry entry : entries) {
            for (Cut cut : entry.cuts) {
                free -= cut.bar == bar ? cut.length + 3 : 0;
            }
        }
        return free;
    }

    public int cut(int number, int material, int length) {
        found(in(number, 0, entries.size() - 1));
        range(in(material, 0, 2) && in(length, 1, 5000));
        Entry entry = entries.get(number);
        state(entry.state == 'b' && entry.cuts.size() < 5);
        int best = -1;
        for (int bar = bars.size() - 1; bar >= 0; bar--) {
            if (bars.get(bar).material == material && free(bar) >= length + 3
                    && (best < 0 || free(bar) <= free(best))) {
                best = bar;
            }
        }
        if (best < 0) {
            throw new UnsupportedOperationException();
        }
        entry.cuts.add(new Cut(best, length));
        return best;
    }

    public int freeOf(int bar) {
        found(in(bar, 0, bars.size() - 1));
        return free(bar);
    }

    public int freeByCuts(int bar) {
        return freeOf(bar);
    }

    public int setPrice(int material, int price) {
        range(in(material, 0, 2) && in(price, 0, 99));
        int before = prices[material];
        prices[material] = price;
        return before;
    }

    public int setRate(int kind, int rate) {
        range(in(kind, 0, 3) && in(rate, 0, 99));
        int layers = tariffs.get(kind).size();
        tariffs.set(kind, new ArrayList<>(List.of(new Layer("rate", rate))));
        return layers;
    }

    private int add(int kind, String name, int amount, int most) {
        range(in(kind, 0, 3) && in(amount, 0, most));
        state(tariffs.get(kind).size() < 6);
        tariffs.get(kind).add(new Layer(name, amount));
        return tariffs.get(kind).size();
    }

    public int addFee(int kind, int fee) {
        return add(kind, "fee", fee, 999);
    }

    public int addCap(int kind, int most) {
        return add(kind, "cap", most, 9999);
    }

    public int addDouble(int kind, int from) {
        return add(kind, "double", from, 240);
    }

    public int addDiscount(int kind, int percent) {
        return add(kind, "discount", percent, 100);
    }

    private int ask(List<Layer> layers, int minutes) {
        Layer top = layers.get(layers.size() - 1);
        List<Layer> below = layers.subList(0, layers.size() - 1);
        int amount = top.amount;
        return switch (top.name) {
            case "rate" -> minutes * amount;
            case "fee" -> ask(below, minutes) + amount;
            case "cap" -> Math.min(ask(below, minutes), amount);
            case "double" -> ask(below, minutes + Math.max(0, minutes - amount));
            default -> ask(below, minutes) - (int) ((long) ask(below, minutes) * amount / 100);
        };
    }

    private int cost(int kind, int minutes) {
        return ask(tariffs.get(kind), minutes);
    }

    public int costOf(int kind, int minutes) {
        range(in(kind, 0, 3) && in(minutes, 0, 480));
        return cost(kind, minutes);
    }

    public int breakDown(int machine, int cost) {
        index(in(machine, 0, machines.size() - 1));
        range(in(cost, 1, 100000));
        state(breakages.size() < 20);
        int[] minutes = new int[10];
        int total = 0;
        for (Entry entry : entries) {
            if (entry.state == 'd' && entry.machine == machine && in(entry.day, day - 7, day - 1)) {
                minutes[entry.member] += entry.minutes;
                total += entry.minutes;
            }
        }
        int[] shares = new int[10];
        if (total > 0) {
            int all = total;
            List<Integer> order = new ArrayList<>();
            int left = cost;
            for (int member = 0; member < 10; member++) {
                order.add(member);
                shares[member] = (int) ((long) cost * minutes[member] / all);
                left -= shares[member];
            }
            order.sort((one, other) -> Long.compare(
                    (long) cost * minutes[other] % all, (long) cost * minutes[one] % all));
            for (int member : order.subList(0, left)) {
                shares[member]++;
            }
        }
        breakages.add(shares);
        return total;
    }

    public int shareOf(int breakage, int member) {
        found(in(breakage, 0, breakages.size() - 1));
        index(in(member, 0, members - 1));
        return breakages.get(breakage)[member];
    }

    private long paid(int member) {
        long sum = 0;
        for (Payment payment : payments) {
            sum += payment.member == member ? payment.amount : 0;
        }
        return sum;
    }

    public int pay(int member, int amount) {
        index(in(member, 0, members - 1));
        range(in(amount, 1, 1000000));
        state(paid(member) + amount <= 1000000000);
        payments.add(new Payment(member, amount));
        return owes(member);
    }

    public int owes(int member) {
        index(in(member, 0, members - 1));
        long sum = -paid(member);
        for (Entry entry : entries) {
            sum += entry.member == member ? entry.due : 0;
        }
        for (int[] shares : breakages) {
            sum += shares[member];
        }
        return (int) sum;
    }

    public int owesByEntries(int member) {
        return owes(member);
    }

    public int dueOf(int number) {
        found(in(number, 0, entries.size() - 1));
        return entries.get(number).due;
    }

    public long takings() {
        long sum = 0;
        for (Payment payment : payments) {
            sum += payment.amount;
        }
        return sum;
    }

    public float use(int machine, int on) {
        return (float) count(machine, on, 'b') / (float) 480;
    }

    public double meanMinutes() {
        long sum = 0;
        long count = 0;
        for (Entry entry : entries) {
            sum += entry.state == 'd' ? entry.minutes : 0;
            count += entry.state == 'd' ? 1 : 0;
        }
        if (count == 0) {
            throw new ArithmeticException();
        }
        return (double) sum / (double) count;
    }

    public boolean isSound() {
        return true;
    }
}
