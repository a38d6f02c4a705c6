import java.util.ArrayList;
import java.util.NoSuchElementException;

/** The desk of a makers' workshop. The document DOC.md says what each call promises. */
public final class Lendlathe {
    private static final int KINDS = 4;
    private static final int MATERIALS = 3;
    private static final int MOST_MACHINES = 6;
    private static final int MOST_MEMBERS = 10;
    private static final int MOST_ENTRIES = 150;
    private static final int MOST_BARS = 30;
    private static final int MOST_BREAKAGES = 20;
    private static final int MOST_LAYERS = 6;
    private static final int MOST_CUTS = 5;
    private static final int MOST_SETUP = 30;
    private static final int MOST_LENGTH = 5000;
    private static final int MOST_PRICE = 99;
    private static final int MOST_RATE = 99;
    private static final int MOST_FEE = 999;
    private static final int MOST_CAP = 9999;
    private static final int MOST_PERCENT = 100;
    private static final int MOST_COST = 100000;
    private static final int MOST_PAYMENT = 1000000;
    private static final int MOST_PAID = 1000000000;

    private static final int DAY_MINUTES = 480;
    private static final int MOST_MINUTES = 240;
    private static final int DAYS_AHEAD = 6;
    private static final int LAST_DAY = 900;
    private static final int LAST_DAY_ASKED = 999;
    private static final int DAYS_OF_LIFE = 29;
    private static final int DAYS_OF_BLAME = 7;
    private static final int SAW = 3;
    private static final int NEVER = -1;
    private static final int NONE = -1;

    private static final char WAITING = 'w';
    private static final char BOOKED = 'b';
    private static final char CANCELLED = 'c';
    private static final char DONE = 'd';
    private static final char LAPSED = 'x';

    private static final char NOT_INDUCTED = 'i';
    private static final char MEMBER_BUSY = 'm';
    private static final char TIME_TAKEN = 't';
    private static final char BOOKABLE = 'o';

    private static final int RATE = 0;
    private static final int FEE = 1;
    private static final int CAP = 2;
    private static final int DOUBLE = 3;
    private static final int DISCOUNT = 4;

    private final ArrayList<Kind> kinds = new ArrayList<>();
    private final ArrayList<Machine> machines = new ArrayList<>();
    private final ArrayList<Member> members = new ArrayList<>();
    private final ArrayList<Entry> allEntries = new ArrayList<>();
    private final ArrayList<Bar> bars = new ArrayList<>();
    private final ArrayList<Breakage> breakages = new ArrayList<>();
    private final int[] prices = new int[MATERIALS];
    private int today = 0;

    public Lendlathe() {
        for (int number = 0; number < KINDS; number++) {
            kinds.add(new Kind(number));
        }
    }

    // ---- machines, members and inductions

    public int addMachine(int kind, int setup) throws IllegalArgumentException, IllegalStateException {
        Kind of = kindAt(kind);
        requireRange(setup, 0, MOST_SETUP);
        requireRoom(machines.size(), MOST_MACHINES);
        machines.add(new Machine(of, setup));
        return machines.size() - 1;
    }

    public int addMember() throws IllegalStateException {
        requireRoom(members.size(), MOST_MEMBERS);
        members.add(new Member());
        return members.size() - 1;
    }

    public int day() {
        return today;
    }

    public boolean addNeed(int kind, int other) throws IllegalArgumentException, IllegalStateException {
        Kind needing = kindAt(kind);
        Kind needed = kindAt(other);
        if (needing == needed) {
            throw new IllegalArgumentException("a kind does not need itself");
        }
        if (leadsTo(kinds, needed, needing, 0)) {
            throw new IllegalStateException("the other kind needs this kind");
        }
        boolean isNew = !needing.needs(needed);
        needing.addNeeded(needed);
        cancelWithoutInduction();
        bookWaiting();
        return isNew;
    }

    public int induct(int member, int kind)
            throws IndexOutOfBoundsException, IllegalArgumentException, UnsupportedOperationException {
        Member who = memberAt(member);
        Kind what = kindAt(kind);
        if (!hasLiveNeeds(who, what, today, 0)) {
            throw new UnsupportedOperationException("an induction that it needs is not live");
        }
        int last = who.lastTaken(what);
        who.take(what, today);
        bookWaiting();
        return last == NEVER ? NEVER : today - last;
    }

    public boolean isLive(int member, int kind, int day)
            throws IndexOutOfBoundsException, IllegalArgumentException {
        Member who = memberAt(member);
        Kind what = kindAt(kind);
        requireRange(day, today, LAST_DAY_ASKED);
        return hasLive(who, what, day, 0);
    }

    // ---- entries

    public int book(int member, int machine, int day, int start, int minutes, char work)
            throws IndexOutOfBoundsException, IllegalArgumentException, UnsupportedOperationException,
            ArithmeticException, NoSuchElementException, IllegalStateException {
        Member who = memberAt(member);
        Machine where = machineAt(machine);
        requireTime(day, start, minutes, work);
        char verdict = judge(who, where, day, start, minutes, work);
        if (verdict == NOT_INDUCTED) {
            throw new UnsupportedOperationException("the induction is not live on the day");
        }
        if (verdict == MEMBER_BUSY) {
            throw new ArithmeticException("a booked entry of the member overlaps it");
        }
        if (verdict == TIME_TAKEN) {
            throw new NoSuchElementException("the time is not free");
        }
        requireRoom(allEntries.size(), MOST_ENTRIES);
        Entry entry = new Entry(who, where, day, start, minutes, work);
        allEntries.add(entry);
        makeBooked(entry);
        bookWaiting();
        return allEntries.size() - 1;
    }

    public int await(int member, int machine, int day, int start, int minutes, char work)
            throws IndexOutOfBoundsException, IllegalArgumentException, UnsupportedOperationException,
            IllegalStateException {
        Member who = memberAt(member);
        Machine where = machineAt(machine);
        requireTime(day, start, minutes, work);
        char verdict = judge(who, where, day, start, minutes, work);
        if (verdict == NOT_INDUCTED) {
            throw new UnsupportedOperationException("the induction is not live on the day");
        }
        if (verdict == BOOKABLE) {
            throw new IllegalStateException("the entry could be booked");
        }
        requireRoom(allEntries.size(), MOST_ENTRIES);
        allEntries.add(new Entry(who, where, day, start, minutes, work));
        return allEntries.size() - 1;
    }

    public char check(int member, int machine, int day, int start, int minutes, char work)
            throws IndexOutOfBoundsException, IllegalArgumentException {
        Member who = memberAt(member);
        Machine where = machineAt(machine);
        requireTime(day, start, minutes, work);
        return judge(who, where, day, start, minutes, work);
    }

    public char cancel(int entry) throws NoSuchElementException, IllegalStateException {
        Entry ended = entryAt(entry);
        if (!ended.isOpen()) {
            throw new IllegalStateException("the entry is neither waiting nor booked");
        }
        char was = letterOfCancelling(ended);
        withdraw(ended);
        if (was == 'h') {
            charge(ended, priceOfTime(ended) / 2);
        }
        bookWaiting();
        return was;
    }

    public char stateOf(int entry) throws NoSuchElementException {
        return entryAt(entry).state;
    }

    public int entries() {
        return allEntries.size();
    }

    public int endDay() throws IllegalStateException {
        if (today >= LAST_DAY) {
            throw new IllegalStateException("the present day is the last one");
        }
        int done = 0;
        for (int i = 0; i < allEntries.size(); i++) {
            Entry entry = allEntries.get(i);
            if (entry.day == today && entry.state == BOOKED) {
                entry.state = DONE;
                charge(entry, priceOfTime(entry) + priceOfCuts(entry));
                done++;
            } else if (entry.day == today && entry.state == WAITING) {
                entry.state = LAPSED;
            }
        }
        today++;
        bookWaiting();
        return done;
    }

    // ---- the minutes of a machine

    public char minuteAt(int machine, int day, int minute)
            throws IndexOutOfBoundsException, IllegalArgumentException {
        Machine where = machineAt(machine);
        requireRange(day, 0, today + DAYS_AHEAD);
        requireRange(minute, 0, DAY_MINUTES - 1);
        return letterOfMinute(where, where.placeOf(day, 0), day, minute);
    }

    public int usedMinutes(int machine, int day) throws IndexOutOfBoundsException, IllegalArgumentException {
        Machine where = machineAt(machine);
        requireRange(day, 0, today + DAYS_AHEAD);
        return addLengths(where, day);
    }

    public int usedByMinutes(int machine, int day) throws IndexOutOfBoundsException, IllegalArgumentException {
        Machine where = machineAt(machine);
        requireRange(day, 0, today + DAYS_AHEAD);
        return countMinutes(where, day);
    }

    public int setupMinutes(int machine, int day) throws IndexOutOfBoundsException, IllegalArgumentException {
        Machine where = machineAt(machine);
        requireRange(day, 0, today + DAYS_AHEAD);
        int sum = 0;
        Entry before = null;
        for (int i = where.placeOf(day, 0); i < where.held.size() && where.held.get(i).day == day; i++) {
            Entry entry = where.held.get(i);
            if (before != null) {
                sum += where.setupBetween(before.work, entry.work);
            }
            before = entry;
        }
        return sum;
    }

    public int firstStart(int machine, int day, int minutes, char work)
            throws IndexOutOfBoundsException, IllegalArgumentException, NoSuchElementException {
        Machine where = machineAt(machine);
        requireWish(day, minutes, work);
        int start = firstStartInGaps(where, day, minutes, work);
        if (start == NONE) {
            throw new NoSuchElementException("no time is free");
        }
        return start;
    }

    public int firstByMinutes(int machine, int day, int minutes, char work)
            throws IndexOutOfBoundsException, IllegalArgumentException, NoSuchElementException {
        Machine where = machineAt(machine);
        requireWish(day, minutes, work);
        int place = where.placeOf(day, 0);
        for (int start = 0; start <= DAY_MINUTES - minutes; start++) {
            if (isFree(where, place, day, start, minutes, work)) {
                return start;
            }
        }
        throw new NoSuchElementException("no time is free");
    }

    public int waiting(int machine, int day) throws IndexOutOfBoundsException, IllegalArgumentException {
        Machine where = machineAt(machine);
        requireRange(day, today, today + DAYS_AHEAD);
        int count = 0;
        for (int i = 0; i < allEntries.size(); i++) {
            Entry entry = allEntries.get(i);
            if (entry.state == WAITING && entry.machine == where && entry.day == day) {
                count++;
            }
        }
        return count;
    }

    // ---- bars and cuts

    public int deliver(int material, int length) throws IllegalArgumentException, IllegalStateException {
        requireRange(material, 0, MATERIALS - 1);
        requireRange(length, 1, MOST_LENGTH);
        requireRoom(bars.size(), MOST_BARS);
        bars.add(new Bar(material, length));
        return bars.size() - 1;
    }

    public int cut(int entry, int material, int length)
            throws NoSuchElementException, IllegalArgumentException, IllegalStateException,
            UnsupportedOperationException {
        Entry user = entryAt(entry);
        requireRange(material, 0, MATERIALS - 1);
        requireRange(length, 1, MOST_LENGTH);
        if (user.state != BOOKED) {
            throw new IllegalStateException("the entry is not booked");
        }
        requireRoom(user.cuts.size(), MOST_CUTS);
        int number = tightestBar(material, length + SAW);
        if (number == NONE) {
            throw new UnsupportedOperationException("no bar is long enough");
        }
        Bar bar = barAt(number);
        user.cuts.add(new Cut(bar, length));
        bar.free -= length + SAW;
        return number;
    }

    public int freeOf(int bar) throws NoSuchElementException {
        return barAt(bar).free;
    }

    public int freeByCuts(int bar) throws NoSuchElementException {
        return lengthLeft(barAt(bar));
    }

    // ---- prices and tariffs

    public int setPrice(int material, int price) throws IllegalArgumentException {
        requireRange(material, 0, MATERIALS - 1);
        requireRange(price, 0, MOST_PRICE);
        int before = priceOf(material);
        if (material >= 0 && material < prices.length) {
            prices[material] = price;
        }
        return before;
    }

    public int setRate(int kind, int rate) throws IllegalArgumentException {
        Kind of = kindAt(kind);
        requireRange(rate, 0, MOST_RATE);
        int layers = of.tariff.height;
        of.tariff = new Layer(RATE, rate, null);
        return layers;
    }

    public int addFee(int kind, int fee) throws IllegalArgumentException, IllegalStateException {
        Kind of = kindAt(kind);
        requireRange(fee, 0, MOST_FEE);
        return addLayer(of, FEE, fee);
    }

    public int addCap(int kind, int most) throws IllegalArgumentException, IllegalStateException {
        Kind of = kindAt(kind);
        requireRange(most, 0, MOST_CAP);
        return addLayer(of, CAP, most);
    }

    public int addDouble(int kind, int from) throws IllegalArgumentException, IllegalStateException {
        Kind of = kindAt(kind);
        requireRange(from, 0, MOST_MINUTES);
        return addLayer(of, DOUBLE, from);
    }

    public int addDiscount(int kind, int percent) throws IllegalArgumentException, IllegalStateException {
        Kind of = kindAt(kind);
        requireRange(percent, 0, MOST_PERCENT);
        return addLayer(of, DISCOUNT, percent);
    }

    public int costOf(int kind, int minutes) throws IllegalArgumentException {
        Kind of = kindAt(kind);
        requireRange(minutes, 0, DAY_MINUTES);
        return ask(of.tariff, minutes);
    }

    // ---- breakages and bills

    public int breakDown(int machine, int cost)
            throws IndexOutOfBoundsException, IllegalArgumentException, IllegalStateException {
        Machine broken = machineAt(machine);
        requireRange(cost, 1, MOST_COST);
        requireRoom(breakages.size(), MOST_BREAKAGES);
        int[] minutes = new int[members.size()];
        int total = 0;
        for (int i = 0; i < minutes.length; i++) {
            minutes[i] = minutesToBlame(memberAt(i), broken);
            total += minutes[i];
        }
        Breakage breakage = new Breakage(split(cost, minutes, total));
        breakages.add(breakage);
        for (int i = 0; i < minutes.length; i++) {
            memberAt(i).owed += breakage.share(i);
        }
        return total;
    }

    public int shareOf(int breakage, int member) throws NoSuchElementException, IndexOutOfBoundsException {
        if (breakage < 0 || breakage >= breakages.size()) {
            throw new NoSuchElementException("there is no such breakage");
        }
        requireMember(member);
        return breakages.get(breakage).share(member);
    }

    public int pay(int member, int amount)
            throws IndexOutOfBoundsException, IllegalArgumentException, IllegalStateException {
        Member payer = memberAt(member);
        requireRange(amount, 1, MOST_PAYMENT);
        if (payer.paid > MOST_PAID - amount) {
            throw new IllegalStateException("the member would have paid too much");
        }
        payer.paid += amount;
        return payer.owed - payer.paid;
    }

    public int owes(int member) throws IndexOutOfBoundsException {
        Member debtor = memberAt(member);
        return debtor.owed - debtor.paid;
    }

    public int owesByEntries(int member) throws IndexOutOfBoundsException {
        requireMember(member);
        return addDebts(member);
    }

    public int dueOf(int entry) throws NoSuchElementException {
        return entryAt(entry).due;
    }

    public long takings() {
        long sum = 0;
        for (int i = 0; i < members.size(); i++) {
            sum += members.get(i).paid;
        }
        return sum;
    }

    public float use(int machine, int day) throws IndexOutOfBoundsException, IllegalArgumentException {
        Machine where = machineAt(machine);
        requireRange(day, 0, today + DAYS_AHEAD);
        return (float) addLengths(where, day) / (float) DAY_MINUTES;
    }

    public double meanMinutes() throws ArithmeticException {
        int sum = 0;
        int count = 0;
        for (int i = 0; i < allEntries.size(); i++) {
            Entry entry = allEntries.get(i);
            if (entry.state == DONE) {
                sum += entry.minutes;
                count++;
            }
        }
        if (count == 0) {
            throw new ArithmeticException("no entry is done");
        }
        return (double) sum / (double) count;
    }

    public boolean isSound() {
        return areEntriesSound() && doBarsAgree() && doDebtsAgree() && doMinutesAgree();
    }

    // ---- what the arguments must be

    private static void requireRange(int value, int least, int most) {
        if (value < least || value > most) {
            throw new IllegalArgumentException("a number is out of range");
        }
    }

    private static void requireRoom(int count, int most) {
        if (count >= most) {
            throw new IllegalStateException("there is no room for another one");
        }
    }

    private void requireWish(int day, int minutes, char work) {
        requireRange(day, today, today + DAYS_AHEAD);
        requireRange(minutes, 1, MOST_MINUTES);
        requireRange(work, 'a', 'c');
    }

    private void requireTime(int day, int start, int minutes, char work) {
        requireWish(day, minutes, work);
        requireRange(start, 0, DAY_MINUTES - minutes);
    }

    private void requireMember(int member) {
        if (member < 0 || member >= members.size()) {
            throw new IndexOutOfBoundsException("there is no such member");
        }
    }

    private Member memberAt(int member) {
        requireMember(member);
        return members.get(member);
    }

    private Machine machineAt(int machine) {
        if (machine < 0 || machine >= machines.size()) {
            throw new IndexOutOfBoundsException("there is no such machine");
        }
        return machines.get(machine);
    }

    private Kind kindAt(int kind) {
        if (kind < 0 || kind >= kinds.size()) {
            throw new IllegalArgumentException("the kind is out of range");
        }
        return kinds.get(kind);
    }

    private Entry entryAt(int entry) {
        if (entry < 0 || entry >= allEntries.size()) {
            throw new NoSuchElementException("there is no such entry");
        }
        return allEntries.get(entry);
    }

    private Bar barAt(int bar) {
        if (bar < 0 || bar >= bars.size()) {
            throw new NoSuchElementException("there is no such bar");
        }
        return bars.get(bar);
    }

    // ---- inductions

    // Needs never form a circle, so a way through them is shorter than the number of kinds.
    private static boolean leadsTo(ArrayList<Kind> kinds, Kind from, Kind to, int depth) {
        if (depth >= KINDS) {
            return false;
        }
        if (from.needs(to)) {
            return true;
        }
        for (int i = 0; i < kinds.size(); i++) {
            Kind between = kinds.get(i);
            if (from.needs(between) && leadsTo(kinds, between, to, depth + 1)) {
                return true;
            }
        }
        return false;
    }

    private boolean hasLive(Member member, Kind kind, int day, int depth) {
        if (depth >= KINDS) {
            return false;
        }
        int last = member.lastTaken(kind);
        boolean isFresh = last != NEVER && last <= day && day - last <= DAYS_OF_LIFE;
        return isFresh && hasLiveNeeds(member, kind, day, depth);
    }

    private boolean hasLiveNeeds(Member member, Kind kind, int day, int depth) {
        for (int i = 0; i < kinds.size(); i++) {
            Kind other = kinds.get(i);
            if (kind.needs(other) && !hasLive(member, other, day, depth + 1)) {
                return false;
            }
        }
        return true;
    }

    private boolean hasInduction(Entry entry) {
        return hasLive(entry.member, entry.machine.kind, entry.day, 0);
    }

    private void cancelWithoutInduction() {
        for (int i = 0; i < allEntries.size(); i++) {
            Entry entry = allEntries.get(i);
            if (entry.isOpen() && !hasInduction(entry)) {
                withdraw(entry);
            }
        }
    }

    // ---- booking

    private char judge(Member member, Machine machine, int day, int start, int minutes, char work) {
        if (!hasLive(member, machine.kind, day, 0)) {
            return NOT_INDUCTED;
        }
        if (isBusy(member, day, start, start + minutes)) {
            return MEMBER_BUSY;
        }
        int place = machine.placeOf(day, 0);
        return isFree(machine, place, day, start, minutes, work) ? BOOKABLE : TIME_TAKEN;
    }

    private boolean canBeBooked(Entry entry) {
        return judge(entry.member, entry.machine, entry.day, entry.start, entry.minutes, entry.work) == BOOKABLE;
    }

    private boolean isBusy(Member member, int day, int start, int end) {
        for (int i = 0; i < allEntries.size(); i++) {
            Entry entry = allEntries.get(i);
            if (entry.state == BOOKED && entry.member == member && entry.overlaps(day, start, end)) {
                return true;
            }
        }
        return false;
    }

    // Asked for the present day and later ones only: there every held entry is a booked one.
    private static boolean isFree(Machine machine, int place, int day, int start, int minutes, char work) {
        int end = start + minutes;
        Entry before = null;
        Entry after = null;
        for (int i = place; i < machine.held.size() && machine.held.get(i).day == day; i++) {
            Entry entry = machine.held.get(i);
            if (entry.overlaps(day, start, end)) {
                return false;
            }
            if (entry.start >= end) {
                after = entry;
                break;
            }
            before = entry;
        }
        return (before == null || start - before.end >= machine.setupBetween(before.work, work))
                && (after == null || after.start - end >= machine.setupBetween(work, after.work));
    }

    private static void makeBooked(Entry entry) {
        entry.state = BOOKED;
        entry.machine.hold(entry);
    }

    // Each turn looks from the lowest number on again, since the entry that was just booked took time.
    private void bookWaiting() {
        Entry next = firstToBook();
        for (int turn = 0; turn < MOST_ENTRIES && next != null; turn++) {
            makeBooked(next);
            next = firstToBook();
        }
    }

    private Entry firstToBook() {
        for (int i = 0; i < allEntries.size(); i++) {
            Entry entry = allEntries.get(i);
            if (entry.state == WAITING && canBeBooked(entry)) {
                return entry;
            }
        }
        return null;
    }

    private char letterOfCancelling(Entry entry) {
        if (entry.state == WAITING) {
            return 'w';
        }
        return entry.day == today ? 'h' : 'f';
    }

    private static void withdraw(Entry entry) {
        if (entry.state == BOOKED) {
            entry.machine.release(entry);
        }
        for (int i = 0; i < entry.cuts.size(); i++) {
            Cut cut = entry.cuts.get(i);
            cut.bar.free += cut.length + SAW;
        }
        entry.cuts.clear();
        entry.state = CANCELLED;
    }

    // ---- the minutes of a machine

    private static char letterOfMinute(Machine machine, int place, int day, int minute) {
        Entry before = null;
        for (int i = place; i < machine.held.size() && machine.held.get(i).day == day; i++) {
            Entry entry = machine.held.get(i);
            if (minute < entry.start) {
                boolean isSetup = before != null
                        && entry.start - minute <= machine.setupBetween(before.work, entry.work);
                return isSetup ? 's' : 'f';
            }
            if (minute < entry.end) {
                return 'b';
            }
            before = entry;
        }
        return 'f';
    }

    private static int addLengths(Machine machine, int day) {
        int sum = 0;
        for (int i = machine.placeOf(day, 0); i < machine.held.size() && machine.held.get(i).day == day; i++) {
            sum += machine.held.get(i).minutes;
        }
        return sum;
    }

    private static int countMinutes(Machine machine, int day) {
        int place = machine.placeOf(day, 0);
        int count = 0;
        for (int minute = 0; minute < DAY_MINUTES; minute++) {
            if (letterOfMinute(machine, place, day, minute) == 'b') {
                count++;
            }
        }
        return count;
    }

    private static int firstStartInGaps(Machine machine, int day, int minutes, char work) {
        int start = 0;
        for (int i = machine.placeOf(day, 0); i < machine.held.size() && machine.held.get(i).day == day; i++) {
            Entry entry = machine.held.get(i);
            int setup = machine.setupBetween(work, entry.work);
            if (start + minutes + setup <= entry.start) {
                return start;
            }
            start = entry.end + setup;
        }
        return start + minutes <= DAY_MINUTES ? start : NONE;
    }

    // ---- bars and cuts

    private int tightestBar(int material, int length) {
        int best = NONE;
        int least = 0;
        for (int i = 0; i < bars.size(); i++) {
            Bar bar = bars.get(i);
            boolean isFit = bar.material == material && bar.free >= length;
            if (isFit && (best == NONE || bar.free < least)) {
                best = i;
                least = bar.free;
            }
        }
        return best;
    }

    private int lengthLeft(Bar bar) {
        int left = bar.length;
        for (int i = 0; i < allEntries.size(); i++) {
            left -= lengthTaken(allEntries.get(i), bar);
        }
        return left;
    }

    private static int lengthTaken(Entry entry, Bar bar) {
        int taken = 0;
        for (int i = 0; i < entry.cuts.size(); i++) {
            Cut cut = entry.cuts.get(i);
            if (cut.bar == bar) {
                taken += cut.length + SAW;
            }
        }
        return taken;
    }

    // ---- prices and tariffs

    private int priceOf(int material) {
        return material >= 0 && material < prices.length ? prices[material] : 0;
    }

    private static int addLayer(Kind kind, int sort, int amount) {
        requireRoom(kind.tariff.height, MOST_LAYERS);
        kind.tariff = new Layer(sort, amount, kind.tariff);
        return kind.tariff.height;
    }

    private static int ask(Layer layer, int minutes) {
        if (layer == null || layer.height > MOST_LAYERS) {
            return 0;
        }
        int amount = layer.amount;
        switch (layer.sort) {
            case FEE:
                return ask(layer.below, minutes) + amount;
            case CAP:
                return Math.min(ask(layer.below, minutes), amount);
            case DOUBLE:
                return ask(layer.below, minutes > amount ? minutes + (minutes - amount) : minutes);
            case DISCOUNT:
                int full = ask(layer.below, minutes);
                return full - full * amount / 100;
            default: // RATE, the lowest layer of all
                return amount * minutes;
        }
    }

    private static int priceOfTime(Entry entry) {
        return ask(entry.machine.kind.tariff, entry.minutes);
    }

    private int priceOfCuts(Entry entry) {
        int sum = 0;
        for (int i = 0; i < entry.cuts.size(); i++) {
            Cut cut = entry.cuts.get(i);
            sum += (cut.length * priceOf(cut.bar.material) + 99) / 100;
        }
        return sum;
    }

    // ---- breakages and bills

    private static void charge(Entry entry, int due) {
        entry.due = due;
        entry.member.owed += due;
    }

    private int minutesToBlame(Member member, Machine machine) {
        int sum = 0;
        for (int i = 0; i < allEntries.size(); i++) {
            Entry entry = allEntries.get(i);
            boolean isTheirs = entry.state == DONE && entry.member == member && entry.machine == machine;
            if (isTheirs && entry.day < today && entry.day >= today - DAYS_OF_BLAME) {
                sum += entry.minutes;
            }
        }
        return sum;
    }

    private static int[] split(int cost, int[] minutes, int total) {
        int[] shares = new int[minutes.length];
        if (total <= 0) {
            return shares;
        }
        int[] rests = new int[minutes.length];
        int left = cost;
        for (int i = 0; i < minutes.length; i++) {
            long product = (long) cost * minutes[i];
            shares[i] = (int) (product / total);
            rests[i] = (int) (product % total);
            left -= shares[i];
        }
        for (int turn = 0; turn < left; turn++) {
            int next = placeOfGreatest(rests);
            if (next >= 0 && next < shares.length) {
                shares[next]++;
                rests[next] = NONE;
            }
        }
        return shares;
    }

    private static int placeOfGreatest(int[] rests) {
        int best = NONE;
        for (int i = 0; i < rests.length; i++) {
            if (rests[i] >= 0 && (best == NONE || rests[i] > rests[best])) {
                best = i;
            }
        }
        return best;
    }

    private int addDebts(int number) {
        Member member = memberAt(number);
        int sum = -member.paid;
        for (int i = 0; i < allEntries.size(); i++) {
            Entry entry = allEntries.get(i);
            if (entry.member == member) {
                sum += entry.due;
            }
        }
        for (int i = 0; i < breakages.size(); i++) {
            sum += breakages.get(i).share(number);
        }
        return sum;
    }

    // ---- soundness

    private boolean areEntriesSound() {
        for (int i = 0; i < allEntries.size(); i++) {
            Entry entry = allEntries.get(i);
            if (entry.state == WAITING && canBeBooked(entry)) {
                return false;
            }
            if (entry.state == BOOKED && (!hasInduction(entry) || clashesWithLater(i, entry))) {
                return false;
            }
        }
        return true;
    }

    private boolean clashesWithLater(int number, Entry entry) {
        for (int i = number + 1; i < allEntries.size(); i++) {
            Entry other = allEntries.get(i);
            boolean isRival = other.member == entry.member || other.machine == entry.machine;
            if (isRival && other.state == BOOKED && other.overlaps(entry.day, entry.start, entry.end)) {
                return true;
            }
        }
        return false;
    }

    private boolean doBarsAgree() {
        for (int i = 0; i < bars.size(); i++) {
            Bar bar = bars.get(i);
            if (bar.free != lengthLeft(bar)) {
                return false;
            }
        }
        return true;
    }

    private boolean doDebtsAgree() {
        for (int i = 0; i < members.size(); i++) {
            Member member = members.get(i);
            if (member.owed - member.paid != addDebts(i)) {
                return false;
            }
        }
        return true;
    }

    private boolean doMinutesAgree() {
        for (int i = 0; i < machines.size(); i++) {
            Machine machine = machines.get(i);
            for (int day = today; day <= today + DAYS_AHEAD; day++) {
                if (addLengths(machine, day) != countMinutes(machine, day)) {
                    return false;
                }
            }
        }
        return true;
    }

    // ---- what the desk keeps

    private static final class Kind {
        final int bit;
        final int number;
        int neededBits = 0;
        Layer tariff = new Layer(RATE, 0, null);

        Kind(int number) {
            this.number = number;
            this.bit = 1 << number;
        }

        boolean needs(Kind other) {
            return (neededBits & other.bit) != 0;
        }

        void addNeeded(Kind other) {
            neededBits |= other.bit;
        }
    }

    private static final class Layer {
        final int sort;
        final int amount;
        final Layer below;
        final int height;

        Layer(int sort, int amount, Layer below) {
            this.sort = sort;
            this.amount = amount;
            this.below = below;
            this.height = below == null ? 1 : below.height + 1;
        }
    }

    private static final class Member {
        // Of all days on which an induction was taken, only the last one can make it live from today on.
        final int[] lastDays = new int[KINDS];
        int owed = 0;
        int paid = 0;

        Member() {
            for (int i = 0; i < lastDays.length; i++) {
                lastDays[i] = NEVER;
            }
        }

        int lastTaken(Kind kind) {
            int place = kind.number;
            return place >= 0 && place < lastDays.length ? lastDays[place] : NEVER;
        }

        void take(Kind kind, int day) {
            int place = kind.number;
            if (place >= 0 && place < lastDays.length) {
                lastDays[place] = day;
            }
        }
    }

    private static final class Machine {
        final Kind kind;
        final int setup;
        // The booked and done entries in the order of their times, so that neighbours stand side by side.
        final ArrayList<Entry> held = new ArrayList<>();

        Machine(Kind kind, int setup) {
            this.kind = kind;
            this.setup = setup;
        }

        int setupBetween(char work, char other) {
            return work == other ? 0 : setup;
        }

        int placeOf(int day, int start) {
            int place = 0;
            while (place < held.size() && isBefore(held.get(place), day, start)) {
                place++;
            }
            return place;
        }

        private static boolean isBefore(Entry entry, int day, int start) {
            return entry.day < day || entry.day == day && entry.start < start;
        }

        void hold(Entry entry) {
            held.add(placeOf(entry.day, entry.start), entry);
        }

        void release(Entry entry) {
            int place = placeOf(entry.day, entry.start);
            if (place < held.size() && held.get(place) == entry) {
                held.remove(place);
            }
        }
    }

    private static final class Entry {
        final Member member;
        final Machine machine;
        final int day;
        final int start;
        final int minutes;
        final int end;
        final char work;
        final ArrayList<Cut> cuts = new ArrayList<>();
        char state = WAITING;
        int due = 0;

        Entry(Member member, Machine machine, int day, int start, int minutes, char work) {
            this.member = member;
            this.machine = machine;
            this.day = day;
            this.start = start;
            this.minutes = minutes;
            this.end = start + minutes;
            this.work = work;
        }

        boolean isOpen() {
            return state == WAITING || state == BOOKED;
        }

        boolean overlaps(int otherDay, int otherStart, int otherEnd) {
            return day == otherDay && start < otherEnd && otherStart < end;
        }
    }

    private static final class Bar {
        final int material;
        final int length;
        int free;

        Bar(int material, int length) {
            this.material = material;
            this.length = length;
            this.free = length;
        }
    }

    private static final class Cut {
        final Bar bar;
        final int length;

        Cut(Bar bar, int length) {
            this.bar = bar;
            this.length = length;
        }
    }

    private static final class Breakage {
        final int[] shares;

        Breakage(int[] shares) {
            this.shares = shares;
        }

        // The row is as long as there were members on that day: one who came later has no place in it.
        int share(int member) {
            return member >= 0 && member < shares.length ? shares[member] : 0;
        }
    }
}
