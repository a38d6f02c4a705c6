/** Promises 1 to 7: a new object, machines, members, days and inductions. */
public final class InductionTest {
    public static void main(String[] args) {
        newObject();
        addMachine();
        addMember();
        day();
        addNeed();
        addNeedOfCircles();
        addNeedCancels();
        addNeedFreesTime();
        induct();
        inductWithNeeds();
        isLive();
        isLiveWithNeeds();
        Expect.end();
    }

    private static void newObject() {
        Lendlathe desk = new Lendlathe();
        Expect.equal("day()", 0, desk.day());
        Expect.equal("entries()", 0, desk.entries());
        Expect.equal("takings()", 0L, desk.takings());
        Expect.equal("isSound()", true, desk.isSound());
        for (int material = 0; material < 3; material++) {
            Expect.equal("the first price", 0, desk.setPrice(material, 7));
        }
        for (int kind = 0; kind < 4; kind++) {
            Expect.equal("the first tariff", 0, desk.costOf(kind, 480));
        }
        Expect.raises("usedMinutes(0, 0)", IndexOutOfBoundsException.class, () -> desk.usedMinutes(0, 0));
        Expect.raises("owes(0)", IndexOutOfBoundsException.class, () -> desk.owes(0));
        Expect.raises("stateOf(0)", java.util.NoSuchElementException.class, () -> desk.stateOf(0));
        Expect.raises("freeOf(0)", java.util.NoSuchElementException.class, () -> desk.freeOf(0));
        Expect.equal("addMachine(0, 0)", 0, desk.addMachine(0, 0));
        Expect.equal("another desk has its own machines", 0, new Lendlathe().addMachine(0, 0));
    }

    private static void addMachine() {
        Lendlathe desk = new Lendlathe();
        Expect.raises("kind -1", IllegalArgumentException.class, () -> desk.addMachine(-1, 0));
        Expect.raises("kind 4", IllegalArgumentException.class, () -> desk.addMachine(4, 0));
        Expect.raises("setup -1", IllegalArgumentException.class, () -> desk.addMachine(0, -1));
        Expect.raises("setup 31", IllegalArgumentException.class, () -> desk.addMachine(0, 31));
        Expect.equal("addMachine(0, 0)", 0, desk.addMachine(0, 0));
        Expect.equal("addMachine(3, 30)", 1, desk.addMachine(3, 30));
        for (int number = 2; number < 6; number++) {
            Expect.equal("addMachine(1, 5)", number, desk.addMachine(1, 5));
        }
        Expect.raises("a seventh machine", IllegalStateException.class, () -> desk.addMachine(0, 0));
        Expect.raises("the range comes first", IllegalArgumentException.class, () -> desk.addMachine(4, 0));
        Expect.equal("machine 5", 0, desk.usedMinutes(5, 0));
        Expect.raises("machine 6", IndexOutOfBoundsException.class, () -> desk.usedMinutes(6, 0));
    }

    private static void addMember() {
        Lendlathe desk = new Lendlathe();
        for (int number = 0; number < 10; number++) {
            Expect.equal("addMember()", number, desk.addMember());
            Expect.equal("owes", 0, desk.owes(number));
            Expect.equal("isLive", false, desk.isLive(number, 0, 0));
            Expect.equal("induct", -1, desk.induct(number, number % 4));
        }
        Expect.raises("an eleventh member", IllegalStateException.class, () -> desk.addMember());
        Expect.equal("member 9", 0, desk.owes(9));
        Expect.raises("member 10", IndexOutOfBoundsException.class, () -> desk.owes(10));
    }

    private static void day() {
        Lendlathe desk = new Lendlathe();
        for (int day = 0; day < 5; day++) {
            Expect.equal("day()", day, desk.day());
            desk.endDay();
        }
    }

    private static void addNeed() {
        Lendlathe desk = new Lendlathe();
        Expect.raises("kind -1", IllegalArgumentException.class, () -> desk.addNeed(-1, 0));
        Expect.raises("kind 4", IllegalArgumentException.class, () -> desk.addNeed(4, 0));
        Expect.raises("other -1", IllegalArgumentException.class, () -> desk.addNeed(0, -1));
        Expect.raises("other 4", IllegalArgumentException.class, () -> desk.addNeed(0, 4));
        Expect.raises("both the same", IllegalArgumentException.class, () -> desk.addNeed(2, 2));
        Expect.equal("addNeed(0, 1)", true, desk.addNeed(0, 1));
        Expect.equal("addNeed(0, 1) again", false, desk.addNeed(0, 1));
        Expect.raises("the way back", IllegalStateException.class, () -> desk.addNeed(1, 0));
        Expect.equal("addNeed(1, 2)", true, desk.addNeed(1, 2));
        Expect.equal("addNeed(2, 3)", true, desk.addNeed(2, 3));
        Expect.raises("the way back of two", IllegalStateException.class, () -> desk.addNeed(2, 0));
        Expect.raises("the way back of three", IllegalStateException.class, () -> desk.addNeed(3, 0));
        Expect.equal("needed by others only, not itself", true, desk.addNeed(0, 3));
        Expect.equal("addNeed(0, 3) again", false, desk.addNeed(0, 3));
        desk.addMember();
        Expect.equal("what threw changed nothing", -1, desk.induct(0, 3));
    }

    /** Every way round through all four kinds, in every order of them. */
    private static void addNeedOfCircles() {
        for (int code = 0; code < 256; code++) {
            int[] kinds = {code & 3, code >> 2 & 3, code >> 4 & 3, code >> 6 & 3};
            int seen = 1 << kinds[0] | 1 << kinds[1] | 1 << kinds[2] | 1 << kinds[3];
            if (seen == 15) {
                Lendlathe desk = new Lendlathe();
                for (int i = 1; i < 4; i++) {
                    Expect.equal("a step", true, desk.addNeed(kinds[i - 1], kinds[i]));
                    int last = kinds[i];
                    Expect.raises("back to the first", IllegalStateException.class,
                            () -> desk.addNeed(last, kinds[0]));
                }
                Expect.equal("the first may need the last", true, desk.addNeed(kinds[0], kinds[3]));
            }
        }
    }

    private static void addNeedCancels() {
        Lendlathe desk = Desks.with(1, 0, 2);
        desk.induct(0, 1);
        desk.addMachine(1, 0);
        desk.setRate(0, 10);
        desk.deliver(0, 100);
        desk.book(0, 0, 0, 0, 10, 'a');
        desk.book(1, 0, 0, 10, 10, 'a');
        desk.book(1, 0, 6, 10, 10, 'a');
        desk.await(1, 0, 0, 5, 10, 'a');
        desk.book(0, 1, 0, 20, 10, 'a');
        desk.cut(1, 0, 50);
        desk.addNeed(0, 1);
        Expect.equal("the induction for 1 is live", 'b', desk.stateOf(0));
        Expect.equal("a booked entry", 'c', desk.stateOf(1));
        Expect.equal("a booked entry for a later day", 'c', desk.stateOf(2));
        Expect.equal("a waiting entry", 'c', desk.stateOf(3));
        Expect.equal("an entry for another kind", 'b', desk.stateOf(4));
        Expect.equal("nobody owes for that", 0, desk.owes(1));
        Expect.equal("nor for the entry", 0, desk.dueOf(1));
        Expect.equal("its cuts end", 100, desk.freeOf(0));
        Expect.equal("its cuts end", 100, desk.freeByCuts(0));
        Expect.equal("isSound()", true, desk.isSound());
    }

    private static void addNeedFreesTime() {
        Lendlathe desk = Desks.with(1, 0, 2);
        desk.induct(1, 1);
        desk.book(0, 0, 1, 0, 60, 'a');
        desk.await(1, 0, 1, 30, 60, 'a');
        desk.addNeed(0, 1);
        Expect.equal("the entry without induction", 'c', desk.stateOf(0));
        Expect.equal("the one that waited", 'b', desk.stateOf(1));

        Lendlathe later = Desks.with(1, 0, 1);
        later.induct(0, 1);
        Desks.endDays(later, 2);
        later.induct(0, 0);
        Desks.endDays(later, 24);
        later.book(0, 0, 29, 0, 10, 'a');
        later.book(0, 0, 30, 0, 10, 'a');
        later.addNeed(0, 1);
        Expect.equal("the needed one lives on day 29", 'b', later.stateOf(0));
        Expect.equal("the needed one is over on day 30", 'c', later.stateOf(1));
    }

    private static void induct() {
        Lendlathe desk = Desks.with(0, 0, 0);
        Expect.raises("no member", IndexOutOfBoundsException.class, () -> desk.induct(0, 0));
        Expect.raises("no member, no kind", IndexOutOfBoundsException.class, () -> desk.induct(0, 4));
        desk.addMember();
        Expect.raises("member -1", IndexOutOfBoundsException.class, () -> desk.induct(-1, 0));
        Expect.raises("kind -1", IllegalArgumentException.class, () -> desk.induct(0, -1));
        Expect.raises("kind 4", IllegalArgumentException.class, () -> desk.induct(0, 4));
        Expect.equal("never before", -1, desk.induct(0, 3));
        Expect.equal("on the same day", 0, desk.induct(0, 3));
        desk.endDay();
        Expect.equal("the day before", 1, desk.induct(0, 3));
        Desks.endDays(desk, 40);
        Expect.equal("long before", 40, desk.induct(0, 3));
        Expect.equal("another kind", -1, desk.induct(0, 2));
    }

    private static void inductWithNeeds() {
        Lendlathe desk = new Lendlathe();
        desk.addMember();
        desk.addMember();
        desk.addNeed(0, 1);
        desk.addNeed(1, 2);
        desk.addNeed(0, 3);
        Expect.raises("nothing taken", UnsupportedOperationException.class, () -> desk.induct(0, 0));
        desk.induct(0, 2);
        Desks.endDays(desk, 15);
        desk.induct(0, 1);
        Expect.raises("one of two needs", UnsupportedOperationException.class, () -> desk.induct(0, 0));
        Expect.raises("another member's inductions", UnsupportedOperationException.class, () -> desk.induct(1, 1));
        desk.induct(0, 3);
        Expect.equal("both needs", -1, desk.induct(0, 0));
        Desks.endDays(desk, 14);
        Expect.equal("the last day of the need of a need", 14, desk.induct(0, 0));
        desk.endDay();
        Expect.raises("the need of the need is over", UnsupportedOperationException.class, () -> desk.induct(0, 0));
        Expect.raises("the need is over", UnsupportedOperationException.class, () -> desk.induct(0, 1));
        desk.induct(0, 2);
        Expect.equal("what threw changed nothing", 1, desk.induct(0, 0));
        Expect.equal("what threw changed nothing", 15, desk.induct(0, 1));
    }

    private static void isLive() {
        Lendlathe desk = new Lendlathe();
        Expect.raises("no member", IndexOutOfBoundsException.class, () -> desk.isLive(0, 4, 0));
        desk.addMember();
        Expect.raises("member -1", IndexOutOfBoundsException.class, () -> desk.isLive(-1, 0, 0));
        Expect.raises("kind -1", IllegalArgumentException.class, () -> desk.isLive(0, -1, 0));
        Expect.raises("kind 4", IllegalArgumentException.class, () -> desk.isLive(0, 4, 0));
        Expect.raises("day -1", IllegalArgumentException.class, () -> desk.isLive(0, 0, -1));
        Expect.raises("day 1000", IllegalArgumentException.class, () -> desk.isLive(0, 0, 1000));
        Expect.equal("never taken", false, desk.isLive(0, 0, 999));
        desk.endDay();
        Expect.raises("a day that has ended", IllegalArgumentException.class, () -> desk.isLive(0, 0, 0));
        desk.induct(0, 0);
        Expect.equal("the day itself", true, desk.isLive(0, 0, 1));
        Expect.equal("29 days later", true, desk.isLive(0, 0, 30));
        Expect.equal("30 days later", false, desk.isLive(0, 0, 31));
        Expect.equal("day 999", false, desk.isLive(0, 0, 999));
        Desks.endDays(desk, 10);
        desk.induct(0, 0);
        Expect.equal("taken again", true, desk.isLive(0, 0, 40));
        Expect.equal("taken again", false, desk.isLive(0, 0, 41));
    }

    private static void isLiveWithNeeds() {
        Lendlathe desk = new Lendlathe();
        desk.addMember();
        desk.induct(0, 0);
        desk.endDay();
        desk.induct(0, 1);
        desk.endDay();
        desk.induct(0, 2);
        Expect.equal("without needs", true, desk.isLive(0, 2, 31));
        desk.addNeed(2, 1);
        Expect.equal("a need that lives to day 30", true, desk.isLive(0, 2, 30));
        Expect.equal("a need that lives to day 30", false, desk.isLive(0, 2, 31));
        desk.addNeed(1, 0);
        Expect.equal("its need lives to day 29", true, desk.isLive(0, 2, 29));
        Expect.equal("its need lives to day 29", false, desk.isLive(0, 2, 30));
        desk.addNeed(0, 3);
        Expect.equal("the last need was never taken", false, desk.isLive(0, 2, 2));
    }
}
