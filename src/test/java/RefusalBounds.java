import java.util.ArrayList;
import java.util.List;
import java.util.function.Supplier;

/** The two sentences of the paragraph "Exceptions", for each method and each exception that it can throw. */
final class RefusalBounds extends Bounds {
    private record Refused(String name, Class<? extends RuntimeException> due, Call call) {
    }

    private RefusalBounds() {
    }

    static void run() {
        sentence(Sentences.TERMS, "A method that throws an exception changes nothing.");
        List<Refused> onBusy = new ArrayList<>();
        inductionsOnBusy(onBusy);
        entriesOnBusy(onBusy);
        minutesOnBusy(onBusy);
        barsOnBusy(onBusy);
        billsOnBusy(onBusy);
        changeNothing(Desks::busy, onBusy);
        changeNothing(RefusalBounds::full, onFull());
        changeNothing(Lendlathe::new, List.of(new Refused("meanMinutes", ARITHMETIC, Lendlathe::meanMinutes)));

        sentence(Sentences.TERMS, "If several exceptions apply, the one that is listed first is thrown.");
        orderOfInductions();
        orderOfBook();
        orderOfBookWhenFull();
        orderOfAwait();
        orderOfQuestions();
        orderOfBars();
        orderOfTariffs();
        orderOfBills();
    }

    /** Each call by itself, and then all of them on the same desk. */
    private static void changeNothing(Supplier<Lendlathe> maker, List<Refused> calls) {
        for (Refused refused : calls) {
            refuses(maker, refused.name, refused.due, refused.call);
        }
        Lendlathe desk = maker.get();
        for (int turn = 0; turn < 2; turn++) {
            for (Refused refused : calls) {
                Expect.raises(refused.name + " once more", refused.due, () -> refused.call.on(desk));
            }
        }
        Expect.equal("the desk after all of them", Answers.of(maker.get()), Answers.of(desk));
    }

    // ---- refused calls on the busy desk: machines 0 to 2, members 0 to 2, entries 0 to 5, bars 0 to 2, day 1

    private static void inductionsOnBusy(List<Refused> calls) {
        calls.add(new Refused("addMachine", RANGE, desk -> desk.addMachine(4, 0)));
        calls.add(new Refused("addNeed", RANGE, desk -> desk.addNeed(1, 1)));
        calls.add(new Refused("addNeed", STATE, desk -> desk.addNeed(3, 2)));
        calls.add(new Refused("induct", INDEX, desk -> desk.induct(3, 0)));
        calls.add(new Refused("induct", RANGE, desk -> desk.induct(0, 4)));
        calls.add(new Refused("induct", SUPPORT, desk -> desk.induct(0, 2)));
        calls.add(new Refused("isLive", INDEX, desk -> desk.isLive(3, 0, 1)));
        calls.add(new Refused("isLive", RANGE, desk -> desk.isLive(0, 0, 0)));
    }

    private static void entriesOnBusy(List<Refused> calls) {
        calls.add(new Refused("book", INDEX, desk -> desk.book(3, 0, 1, 300, 10, 'a')));
        calls.add(new Refused("book", RANGE, desk -> desk.book(0, 0, 1, 300, 0, 'a')));
        calls.add(new Refused("book", SUPPORT, desk -> desk.book(0, 1, 1, 300, 10, 'a')));
        calls.add(new Refused("book", ARITHMETIC, desk -> desk.book(0, 2, 1, 0, 10, 'a')));
        calls.add(new Refused("book", ELEMENT, desk -> desk.book(1, 0, 1, 0, 10, 'a')));
        calls.add(new Refused("await", INDEX, desk -> desk.await(3, 0, 1, 0, 10, 'a')));
        calls.add(new Refused("await", RANGE, desk -> desk.await(0, 0, 1, 0, 10, 'd')));
        calls.add(new Refused("await", SUPPORT, desk -> desk.await(0, 1, 1, 0, 10, 'a')));
        calls.add(new Refused("await", STATE, desk -> desk.await(0, 0, 1, 300, 10, 'a')));
        calls.add(new Refused("check", INDEX, desk -> desk.check(3, 0, 1, 0, 10, 'a')));
        calls.add(new Refused("check", RANGE, desk -> desk.check(0, 0, 0, 0, 10, 'a')));
        calls.add(new Refused("cancel", ELEMENT, desk -> desk.cancel(6)));
        calls.add(new Refused("cancel", STATE, desk -> desk.cancel(0)));
        calls.add(new Refused("stateOf", ELEMENT, desk -> desk.stateOf(6)));
        calls.add(new Refused("dueOf", ELEMENT, desk -> desk.dueOf(6)));
    }

    private static void minutesOnBusy(List<Refused> calls) {
        calls.add(new Refused("minuteAt", INDEX, desk -> desk.minuteAt(3, 1, 0)));
        calls.add(new Refused("minuteAt", RANGE, desk -> desk.minuteAt(0, 1, 480)));
        calls.add(new Refused("usedMinutes", INDEX, desk -> desk.usedMinutes(3, 1)));
        calls.add(new Refused("usedMinutes", RANGE, desk -> desk.usedMinutes(0, 8)));
        calls.add(new Refused("usedByMinutes", INDEX, desk -> desk.usedByMinutes(3, 1)));
        calls.add(new Refused("usedByMinutes", RANGE, desk -> desk.usedByMinutes(0, 8)));
        calls.add(new Refused("setupMinutes", INDEX, desk -> desk.setupMinutes(3, 1)));
        calls.add(new Refused("setupMinutes", RANGE, desk -> desk.setupMinutes(0, 8)));
        calls.add(new Refused("use", INDEX, desk -> desk.use(3, 1)));
        calls.add(new Refused("use", RANGE, desk -> desk.use(0, 8)));
        calls.add(new Refused("waiting", INDEX, desk -> desk.waiting(3, 1)));
        calls.add(new Refused("waiting", RANGE, desk -> desk.waiting(0, 0)));
        calls.add(new Refused("firstStart", INDEX, desk -> desk.firstStart(3, 1, 1, 'a')));
        calls.add(new Refused("firstStart", RANGE, desk -> desk.firstStart(0, 1, 0, 'a')));
        calls.add(new Refused("firstStart", ELEMENT, desk -> desk.firstStart(1, 2, 240, 'a')));
        calls.add(new Refused("firstByMinutes", INDEX, desk -> desk.firstByMinutes(3, 1, 1, 'a')));
        calls.add(new Refused("firstByMinutes", RANGE, desk -> desk.firstByMinutes(0, 1, 0, 'a')));
        calls.add(new Refused("firstByMinutes", ELEMENT, desk -> desk.firstByMinutes(1, 2, 240, 'a')));
    }

    private static void barsOnBusy(List<Refused> calls) {
        calls.add(new Refused("deliver", RANGE, desk -> desk.deliver(3, 1)));
        calls.add(new Refused("cut", ELEMENT, desk -> desk.cut(6, 0, 1)));
        calls.add(new Refused("cut", RANGE, desk -> desk.cut(2, 3, 1)));
        calls.add(new Refused("cut", STATE, desk -> desk.cut(3, 0, 1)));
        calls.add(new Refused("cut", SUPPORT, desk -> desk.cut(2, 2, 1)));
        calls.add(new Refused("freeOf", ELEMENT, desk -> desk.freeOf(3)));
        calls.add(new Refused("freeByCuts", ELEMENT, desk -> desk.freeByCuts(3)));
        calls.add(new Refused("setPrice", RANGE, desk -> desk.setPrice(0, 100)));
        calls.add(new Refused("setRate", RANGE, desk -> desk.setRate(0, 100)));
        calls.add(new Refused("addFee", RANGE, desk -> desk.addFee(0, 1000)));
        calls.add(new Refused("addCap", RANGE, desk -> desk.addCap(0, 10000)));
        calls.add(new Refused("addDouble", RANGE, desk -> desk.addDouble(0, 241)));
        calls.add(new Refused("addDiscount", RANGE, desk -> desk.addDiscount(0, 101)));
        calls.add(new Refused("costOf", RANGE, desk -> desk.costOf(0, 481)));
    }

    private static void billsOnBusy(List<Refused> calls) {
        calls.add(new Refused("breakDown", INDEX, desk -> desk.breakDown(3, 1)));
        calls.add(new Refused("breakDown", RANGE, desk -> desk.breakDown(0, 0)));
        calls.add(new Refused("shareOf", ELEMENT, desk -> desk.shareOf(1, 0)));
        calls.add(new Refused("shareOf", INDEX, desk -> desk.shareOf(0, 3)));
        calls.add(new Refused("pay", INDEX, desk -> desk.pay(3, 1)));
        calls.add(new Refused("pay", RANGE, desk -> desk.pay(0, 0)));
        calls.add(new Refused("owes", INDEX, desk -> desk.owes(3)));
        calls.add(new Refused("owesByEntries", INDEX, desk -> desk.owesByEntries(3)));
    }

    // ---- refused calls on a desk that holds as much as it can, on its last day

    private static Lendlathe full() {
        Lendlathe desk = Desks.with(6, 0, 10);
        Desks.endDays(desk, 900);
        desk.induct(0, 0);
        desk.induct(1, 0);
        for (int i = 0; i < 75; i++) {
            desk.book(0, 0, 900, i, 1, 'a');
            desk.book(1, 1, 900, i, 1, 'a');
        }
        for (int bar = 0; bar < 30; bar++) {
            desk.deliver(0, 100);
        }
        for (int i = 0; i < 5; i++) {
            desk.cut(0, 0, 10);
            desk.addFee(0, 10);
        }
        for (int i = 0; i < 20; i++) {
            desk.breakDown(0, 100);
        }
        for (int i = 0; i < 1000; i++) {
            desk.pay(0, 1000000);
        }
        return desk;
    }

    private static List<Refused> onFull() {
        List<Refused> calls = new ArrayList<>();
        calls.add(new Refused("addMachine", STATE, desk -> desk.addMachine(0, 0)));
        calls.add(new Refused("addMember", STATE, Lendlathe::addMember));
        calls.add(new Refused("book", STATE, desk -> desk.book(0, 0, 900, 200, 1, 'a')));
        calls.add(new Refused("await", STATE, desk -> desk.await(0, 0, 900, 0, 1, 'a')));
        calls.add(new Refused("endDay", STATE, Lendlathe::endDay));
        calls.add(new Refused("deliver", STATE, desk -> desk.deliver(0, 1)));
        calls.add(new Refused("cut", STATE, desk -> desk.cut(0, 0, 1)));
        calls.add(new Refused("addFee", STATE, desk -> desk.addFee(0, 1)));
        calls.add(new Refused("addCap", STATE, desk -> desk.addCap(0, 1)));
        calls.add(new Refused("addDouble", STATE, desk -> desk.addDouble(0, 1)));
        calls.add(new Refused("addDiscount", STATE, desk -> desk.addDiscount(0, 1)));
        calls.add(new Refused("breakDown", STATE, desk -> desk.breakDown(0, 1)));
        calls.add(new Refused("pay", STATE, desk -> desk.pay(0, 1)));
        return calls;
    }

    // ---- several exceptions: the labels tell which ones apply

    private static void orderOfInductions() {
        refuses(() -> Desks.with(6, 0, 0), "addMachine: kind, full", RANGE, desk -> desk.addMachine(4, 0));
        refuses(() -> Desks.with(6, 0, 0), "addMachine: setup, full", RANGE, desk -> desk.addMachine(0, 31));
        refuses(Desks::busy, "induct: member, kind", INDEX, desk -> desk.induct(3, 4));
        refuses(Desks::busy, "isLive: member, kind", INDEX, desk -> desk.isLive(3, 4, 1));
        refuses(Desks::busy, "isLive: member, day", INDEX, desk -> desk.isLive(-1, 0, 1000));
        refuses(Desks::busy, "isLive: member, kind, day", INDEX, desk -> desk.isLive(-1, -1, 0));
    }

    /** Member 0 lacks the induction for machine 1 and is busy from 0 to 59, as machine 0 and 1 are, and from 200 on. */
    private static Lendlathe mixed(int entries) {
        Lendlathe desk = Desks.with(1, 0, 3);
        desk.addMachine(1, 0);
        desk.addMachine(0, 0);
        desk.induct(1, 1);
        desk.book(0, 0, 0, 0, 60, 'a');
        desk.book(1, 1, 0, 0, 60, 'a');
        desk.book(0, 2, 0, 200, 60, 'a');
        desk.await(2, 0, 0, 0, 60, 'a');
        desk.book(0, 2, 1, 0, 240, 'a');
        desk.book(0, 2, 1, 240, 240, 'a');
        for (int i = desk.entries(); i < entries; i++) {
            desk.book(2, 0, 2, i, 1, 'a');
        }
        return desk;
    }

    private static Lendlathe mixed() {
        return mixed(6);
    }

    private static Lendlathe mixedFull() {
        return mixed(150);
    }

    private static void orderOfBook() {
        refuses(RefusalBounds::mixed, "member, day", INDEX, desk -> desk.book(3, 0, 7, 0, 1, 'a'));
        refuses(RefusalBounds::mixed, "member, start", INDEX, desk -> desk.book(3, 0, 0, -1, 1, 'a'));
        refuses(RefusalBounds::mixed, "machine, minutes", INDEX, desk -> desk.book(0, 3, 0, 0, 0, 'a'));
        refuses(RefusalBounds::mixed, "machine, work", INDEX, desk -> desk.book(0, -1, 0, 0, 1, 'd'));
        refuses(RefusalBounds::mixed, "work, induction", RANGE, desk -> desk.book(0, 1, 0, 100, 10, 'd'));
        refuses(RefusalBounds::mixed, "minutes, induction", RANGE, desk -> desk.book(0, 1, 0, 100, 0, 'a'));
        refuses(RefusalBounds::mixed, "day, induction", RANGE, desk -> desk.book(0, 1, -1, 100, 10, 'a'));
        refuses(RefusalBounds::mixed, "work, member busy", RANGE, desk -> desk.book(0, 2, 0, 0, 60, 'd'));
        refuses(RefusalBounds::mixed, "start, member busy", RANGE, desk -> desk.book(0, 2, 0, -1, 60, 'a'));
        refuses(RefusalBounds::mixed, "work, time taken", RANGE, desk -> desk.book(2, 0, 0, 0, 60, 'd'));
        refuses(RefusalBounds::mixed, "minutes, time taken", RANGE, desk -> desk.book(2, 0, 0, 0, 241, 'a'));
        refuses(RefusalBounds::mixed, "induction, member busy", SUPPORT, desk -> desk.book(0, 1, 0, 200, 60, 'a'));
        refuses(RefusalBounds::mixed, "induction, time taken", SUPPORT, desk -> desk.book(2, 1, 0, 0, 60, 'a'));
        refuses(RefusalBounds::mixed, "induction, busy, taken", SUPPORT, desk -> desk.book(0, 1, 0, 0, 60, 'a'));
        refuses(RefusalBounds::mixed, "member busy, time taken", ARITHMETIC, desk -> desk.book(0, 0, 0, 0, 60, 'a'));
        refuses(RefusalBounds::mixed, "busy here, taken there", ARITHMETIC,
                desk -> desk.book(1, 0, 0, 59, 60, 'a'));
    }

    private static void orderOfBookWhenFull() {
        refuses(RefusalBounds::mixedFull, "full alone", STATE, desk -> desk.book(2, 2, 0, 100, 10, 'a'));
        refuses(RefusalBounds::mixedFull, "member, full", INDEX, desk -> desk.book(3, 2, 0, 100, 10, 'a'));
        refuses(RefusalBounds::mixedFull, "machine, full", INDEX, desk -> desk.book(2, 3, 0, 100, 10, 'a'));
        refuses(RefusalBounds::mixedFull, "day, full", RANGE, desk -> desk.book(2, 2, 7, 100, 10, 'a'));
        refuses(RefusalBounds::mixedFull, "work, full", RANGE, desk -> desk.book(2, 2, 0, 100, 10, 'd'));
        refuses(RefusalBounds::mixedFull, "induction, full", SUPPORT, desk -> desk.book(2, 1, 0, 100, 10, 'a'));
        refuses(RefusalBounds::mixedFull, "member busy, full", ARITHMETIC, desk -> desk.book(0, 2, 0, 0, 60, 'a'));
        refuses(RefusalBounds::mixedFull, "time taken, full", ELEMENT, desk -> desk.book(2, 0, 0, 0, 60, 'a'));
        refuses(RefusalBounds::mixedFull, "all but the numbers", RANGE, desk -> desk.book(0, 1, 0, 0, 60, 'd'));
        refuses(RefusalBounds::mixedFull, "all", INDEX, desk -> desk.book(0, 3, 0, 0, 60, 'd'));
    }

    private static void orderOfAwait() {
        refuses(RefusalBounds::mixed, "member, day", INDEX, desk -> desk.await(3, 0, 7, 0, 1, 'a'));
        refuses(RefusalBounds::mixed, "machine, work", INDEX, desk -> desk.await(0, 3, 0, 0, 1, 'd'));
        refuses(RefusalBounds::mixed, "work, induction", RANGE, desk -> desk.await(0, 1, 0, 0, 60, 'd'));
        refuses(RefusalBounds::mixed, "work, bookable", RANGE, desk -> desk.await(2, 2, 0, 100, 10, 'd'));
        refuses(RefusalBounds::mixed, "minutes, bookable", RANGE, desk -> desk.await(2, 2, 0, 100, 0, 'a'));
        refuses(RefusalBounds::mixedFull, "full alone", STATE, desk -> desk.await(2, 0, 0, 0, 60, 'a'));
        refuses(RefusalBounds::mixedFull, "member, full", INDEX, desk -> desk.await(3, 0, 0, 0, 60, 'a'));
        refuses(RefusalBounds::mixedFull, "work, full", RANGE, desk -> desk.await(2, 0, 0, 0, 60, 'd'));
        refuses(RefusalBounds::mixedFull, "induction, full", SUPPORT, desk -> desk.await(2, 1, 0, 0, 60, 'a'));
        refuses(RefusalBounds::mixedFull, "bookable, full", STATE, desk -> desk.await(2, 2, 0, 100, 10, 'a'));
    }

    private static void inTwoOrders(String name, Question question) {
        refuses(RefusalBounds::mixed, name + ": machine, day", INDEX, desk -> question.on(desk, 3, 7));
        refuses(RefusalBounds::mixed, name + ": machine, day", INDEX, desk -> question.on(desk, -1, -1));
    }

    private static void orderOfQuestions() {
        refuses(RefusalBounds::mixed, "check: member, day", INDEX, desk -> desk.check(3, 0, 7, 0, 1, 'a'));
        refuses(RefusalBounds::mixed, "check: machine, work", INDEX, desk -> desk.check(0, 3, 0, 0, 1, 'd'));
        inTwoOrders("minuteAt", (desk, machine, day) -> desk.minuteAt(machine, day, 0));
        refuses(RefusalBounds::mixed, "minuteAt: machine, minute", INDEX, desk -> desk.minuteAt(3, 0, 480));
        inTwoOrders("usedMinutes", Lendlathe::usedMinutes);
        inTwoOrders("usedByMinutes", Lendlathe::usedByMinutes);
        inTwoOrders("setupMinutes", Lendlathe::setupMinutes);
        inTwoOrders("use", Lendlathe::use);
        inTwoOrders("waiting", Lendlathe::waiting);
        inTwoOrders("firstStart", (desk, machine, day) -> desk.firstStart(machine, day, 1, 'a'));
        inTwoOrders("firstByMinutes", (desk, machine, day) -> desk.firstByMinutes(machine, day, 1, 'a'));
        refuses(RefusalBounds::mixed, "machine, minutes", INDEX, desk -> desk.firstStart(3, 0, 0, 'a'));
        refuses(RefusalBounds::mixed, "machine, minutes", INDEX, desk -> desk.firstByMinutes(3, 0, 0, 'a'));
        refuses(RefusalBounds::mixed, "none alone", ELEMENT, desk -> desk.firstStart(2, 1, 1, 'a'));
        refuses(RefusalBounds::mixed, "work, none", RANGE, desk -> desk.firstStart(2, 1, 1, 'd'));
        refuses(RefusalBounds::mixed, "minutes, none", RANGE, desk -> desk.firstStart(2, 1, 241, 'a'));
        refuses(RefusalBounds::mixed, "work, none", RANGE, desk -> desk.firstByMinutes(2, 1, 1, 'd'));
        refuses(RefusalBounds::mixed, "minutes, none", RANGE, desk -> desk.firstByMinutes(2, 1, 241, 'a'));
    }

    /** Entry 0 is booked and has 5 cuts, entry 1 is booked, entry 2 waits; there is a bar of material 0, now of 50. */
    private static Lendlathe withFiveCuts() {
        Lendlathe desk = Desks.with(1, 0, 1);
        desk.book(0, 0, 0, 0, 60, 'a');
        desk.book(0, 0, 0, 60, 60, 'a');
        desk.await(0, 0, 0, 0, 60, 'a');
        desk.deliver(0, 70);
        for (int i = 0; i < 5; i++) {
            desk.cut(0, 0, 1);
        }
        return desk;
    }

    private static void orderOfBars() {
        refuses(RefusalBounds::full, "deliver: material, full", RANGE, desk -> desk.deliver(3, 1));
        refuses(RefusalBounds::full, "deliver: length, full", RANGE, desk -> desk.deliver(0, 0));
        refuses(RefusalBounds::withFiveCuts, "entry, material", ELEMENT, desk -> desk.cut(3, 3, 1));
        refuses(RefusalBounds::withFiveCuts, "entry, length", ELEMENT, desk -> desk.cut(-1, 0, 0));
        refuses(RefusalBounds::withFiveCuts, "entry, no bar", ELEMENT, desk -> desk.cut(3, 1, 1));
        refuses(RefusalBounds::withFiveCuts, "material, waiting", RANGE, desk -> desk.cut(2, 3, 1));
        refuses(RefusalBounds::withFiveCuts, "length, waiting", RANGE, desk -> desk.cut(2, 0, 0));
        refuses(RefusalBounds::withFiveCuts, "material, 5 cuts", RANGE, desk -> desk.cut(0, -1, 1));
        refuses(RefusalBounds::withFiveCuts, "length, 5 cuts", RANGE, desk -> desk.cut(0, 0, 5001));
        refuses(RefusalBounds::withFiveCuts, "length, no bar", RANGE, desk -> desk.cut(1, 1, 0));
        refuses(RefusalBounds::withFiveCuts, "length, bar too short", RANGE, desk -> desk.cut(1, 0, 5001));
        refuses(RefusalBounds::withFiveCuts, "waiting, no bar", STATE, desk -> desk.cut(2, 1, 1));
        refuses(RefusalBounds::withFiveCuts, "5 cuts, no bar", STATE, desk -> desk.cut(0, 1, 1));
        refuses(RefusalBounds::withFiveCuts, "5 cuts, bar too short", STATE, desk -> desk.cut(0, 0, 48));
        refuses(RefusalBounds::withFiveCuts, "bar too short alone", SUPPORT, desk -> desk.cut(1, 0, 48));
        takes(RefusalBounds::withFiveCuts, "none of them", 0, desk -> desk.cut(1, 0, 47));
    }

    private static void orderOfTariffs() {
        refuses(RefusalBounds::full, "addFee: fee, full", RANGE, desk -> desk.addFee(0, 1000));
        refuses(RefusalBounds::full, "addCap: most, full", RANGE, desk -> desk.addCap(0, -1));
        refuses(RefusalBounds::full, "addDouble: from, full", RANGE, desk -> desk.addDouble(0, 241));
        refuses(RefusalBounds::full, "addDiscount: percent, full", RANGE, desk -> desk.addDiscount(0, -1));
        refuses(RefusalBounds::full, "addFee: kind", RANGE, desk -> desk.addFee(4, 1));
    }

    private static void orderOfBills() {
        refuses(Desks::busy, "breakDown: machine, cost", INDEX, desk -> desk.breakDown(3, 0));
        refuses(RefusalBounds::full, "breakDown: machine, full", INDEX, desk -> desk.breakDown(6, 1));
        refuses(RefusalBounds::full, "breakDown: cost, full", RANGE, desk -> desk.breakDown(0, 0));
        refuses(RefusalBounds::full, "breakDown: cost, full", RANGE, desk -> desk.breakDown(0, 100001));
        refuses(Desks::busy, "shareOf: breakage, member", ELEMENT, desk -> desk.shareOf(1, 3));
        refuses(Desks::busy, "shareOf: breakage, member", ELEMENT, desk -> desk.shareOf(-1, -1));
        refuses(Desks::busy, "pay: member, amount", INDEX, desk -> desk.pay(3, 0));
        refuses(RefusalBounds::full, "pay: amount 0, all is paid", RANGE, desk -> desk.pay(0, 0));
        refuses(RefusalBounds::full, "pay: amount, all is paid", RANGE, desk -> desk.pay(0, 1000001));
        refuses(RefusalBounds::full, "pay: greatest amount, all is paid", RANGE, desk -> desk.pay(0, GREATEST));
    }
}
