import java.lang.reflect.Field;
import java.util.List;

/**
 * Promise 42: isSound. No calls make a desk unsound, so these tests reach into it, spoil one thing
 * at a time, and look whether isSound() sees it.
 */
public final class SoundTest {
    public static void main(String[] args) throws ReflectiveOperationException {
        spoilEachThing();
        Expect.end();
    }

    static void spoilEachThing() throws ReflectiveOperationException {
        soundAtFirst();
        lostInduction();
        lostNeed();
        membersOverlap();
        machinesOverlap();
        onlyBookedEntriesOverlap();
        forgottenWaiting();
        wrongBar();
        wrongDebt();
        wrongMinutes();
        wrongMinutesOfPastDays();
        wrongBarOfEach();
        wrongDebtOfEachMember();
        wrongMinutesOfEachMachine();
    }

    /** Entry 0 and 1 are booked, 2 waits, 3 is done; there is a bar with a cut, a breakage and a payment. */
    private static Lendlathe busyDesk() {
        Lendlathe desk = Desks.with(2, 10, 2);
        desk.setRate(0, 3);
        desk.book(0, 0, 1, 0, 60, 'a');
        desk.book(1, 1, 1, 70, 60, 'b');
        desk.await(1, 0, 1, 30, 60, 'b');
        desk.book(1, 0, 0, 30, 60, 'b');
        desk.deliver(0, 1000);
        desk.cut(0, 0, 100);
        desk.endDay();
        desk.breakDown(0, 100);
        desk.pay(0, 10);
        return desk;
    }

    private static void soundAtFirst() {
        Expect.equal("a new desk", true, new Lendlathe().isSound());
        Lendlathe desk = busyDesk();
        Expect.equal("a busy desk", true, desk.isSound());
        desk.cancel(0);
        Expect.equal("the one that waited", 'w', desk.stateOf(2));
        desk.cancel(1);
        Expect.equal("the one that waited", 'b', desk.stateOf(2));
        Expect.equal("after cancelling", true, desk.isSound());
    }

    private static void lostInduction() throws ReflectiveOperationException {
        Lendlathe desk = busyDesk();
        int[] days = (int[]) get(item(desk, "members", 0), "lastDays");
        days[0] = -1;
        Expect.equal("a booked entry without induction", false, desk.isSound());
    }

    private static void lostNeed() throws ReflectiveOperationException {
        Lendlathe desk = Desks.with(1, 0, 1);
        desk.induct(0, 1);
        desk.addNeed(0, 1);
        desk.book(0, 0, 5, 0, 60, 'a');
        int[] days = (int[]) get(item(desk, "members", 0), "lastDays");
        Desks.endDays(desk, 4);
        Expect.equal("with both inductions", true, desk.isSound());
        days[1] = -1;
        Expect.equal("a booked entry without the induction that its own one needs", false, desk.isSound());
        desk.cancel(0);
        Expect.equal("a cancelled entry needs none", true, desk.isSound());
    }

    private static void membersOverlap() throws ReflectiveOperationException {
        Lendlathe desk = busyDesk();
        set(item(desk, "allEntries", 1), "member", item(desk, "members", 0));
        Expect.equal("entries of a member that do not overlap", true, desk.isSound());
        set(item(desk, "allEntries", 1), "start", 59);
        set(item(desk, "allEntries", 1), "end", 119);
        Expect.equal("entries of a member that overlap", false, desk.isSound());
    }

    private static void machinesOverlap() throws ReflectiveOperationException {
        Lendlathe desk = busyDesk();
        set(item(desk, "allEntries", 1), "start", 59);
        set(item(desk, "allEntries", 1), "end", 119);
        Expect.equal("entries of two machines", true, desk.isSound());
        set(item(desk, "allEntries", 1), "machine", item(desk, "machines", 0));
        Expect.equal("entries of a machine", false, desk.isSound());
    }

    /** The booked entries of machine 0 are for 0 to 59 of day 1; entry 1 is moved beside entry 0, and over it. */
    private static void onlyBookedEntriesOverlap() throws ReflectiveOperationException {
        Lendlathe desk = busyDesk();
        Object entry = item(desk, "allEntries", 1);
        set(entry, "machine", item(desk, "machines", 0));
        set(entry, "start", 60);
        set(entry, "end", 120);
        Expect.equal("entries that touch", true, desk.isSound());
        set(entry, "start", 0);
        set(entry, "end", 60);
        Expect.equal("entries with the same minutes", false, desk.isSound());
        set(entry, "day", 2);
        Expect.equal("the same minutes of another day", true, desk.isSound());
        set(entry, "day", 1);
        set(entry, "state", 'c');
        Expect.equal("a cancelled entry", true, desk.isSound());
    }

    private static void forgottenWaiting() throws ReflectiveOperationException {
        Lendlathe desk = busyDesk();
        set(item(desk, "allEntries", 2), "start", 200);
        Expect.equal("a waiting entry that can be booked", false, desk.isSound());
    }

    private static void wrongBar() throws ReflectiveOperationException {
        Lendlathe desk = busyDesk();
        set(item(desk, "bars", 0), "free", 896);
        Expect.equal("freeOf", 896, desk.freeOf(0));
        Expect.equal("freeByCuts", 897, desk.freeByCuts(0));
        Expect.equal("they differ", false, desk.isSound());
    }

    private static void wrongDebt() throws ReflectiveOperationException {
        Lendlathe desk = busyDesk();
        Expect.equal("owes", 280, desk.owes(1));
        set(item(desk, "members", 1), "owed", 281);
        Expect.equal("owes", 281, desk.owes(1));
        Expect.equal("owesByEntries", 280, desk.owesByEntries(1));
        Expect.equal("they differ", false, desk.isSound());
    }

    private static void wrongDebtOfEachMember() throws ReflectiveOperationException {
        for (int member = 0; member < 10; member++) {
            Lendlathe desk = Desks.with(0, 0, 10);
            set(item(desk, "members", member), "owed", 1);
            Expect.equal("owes of member " + member, false, desk.isSound());
        }
    }

    private static void wrongMinutesOfEachMachine() throws ReflectiveOperationException {
        for (int machine = 0; machine < 6; machine++) {
            for (int day = 0; day < 7; day++) {
                Lendlathe desk = Desks.with(6, 0, 1);
                desk.book(0, machine, day, 0, 10, 'a');
                set(item(desk, "allEntries", 0), "minutes", 11);
                Expect.equal("minutes of machine " + machine + " on day " + day, false, desk.isSound());
            }
        }
    }

    private static void wrongBarOfEach() throws ReflectiveOperationException {
        for (int bar = 0; bar < 30; bar++) {
            Lendlathe desk = new Lendlathe();
            for (int i = 0; i < 30; i++) {
                desk.deliver(0, 10);
            }
            set(item(desk, "bars", bar), "free", 9);
            Expect.equal("bar " + bar, false, desk.isSound());
        }
    }

    private static void wrongMinutes() throws ReflectiveOperationException {
        Lendlathe desk = busyDesk();
        set(item(desk, "allEntries", 1), "minutes", 61);
        Expect.equal("usedMinutes", 61, desk.usedMinutes(1, 1));
        Expect.equal("usedByMinutes", 60, desk.usedByMinutes(1, 1));
        Expect.equal("they differ", false, desk.isSound());
        Lendlathe last = busyDesk();
        last.book(0, 1, 7, 0, 10, 'a');
        set(item(last, "allEntries", 4), "minutes", 11);
        Expect.equal("6 days later", false, last.isSound());
    }

    /** Only the days from the present one to 6 days later are compared. */
    private static void wrongMinutesOfPastDays() throws ReflectiveOperationException {
        Lendlathe desk = busyDesk();
        set(item(desk, "allEntries", 3), "minutes", 61);
        Expect.equal("usedMinutes", 61, desk.usedMinutes(0, 0));
        Expect.equal("usedByMinutes", 60, desk.usedByMinutes(0, 0));
        Expect.equal("they differ on a past day", true, desk.isSound());
    }

    private static Object item(Lendlathe desk, String list, int number) throws ReflectiveOperationException {
        return ((List<?>) get(desk, list)).get(number);
    }

    private static Object get(Object owner, String name) throws ReflectiveOperationException {
        return open(owner, name).get(owner);
    }

    private static void set(Object owner, String name, Object value) throws ReflectiveOperationException {
        open(owner, name).set(owner, value);
    }

    private static Field open(Object owner, String name) throws ReflectiveOperationException {
        Field field = owner.getClass().getDeclaredField(name);
        field.setAccessible(true);
        return field;
    }
}
