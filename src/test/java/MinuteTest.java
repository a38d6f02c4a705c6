import java.util.NoSuchElementException;

/** Promises 15 to 21: the minutes of a machine. */
public final class MinuteTest {
    public static void main(String[] args) {
        ranges();
        minuteAt();
        minuteAtOfPastDays();
        usedMinutes();
        setupMinutes();
        wishRanges();
        firstStart();
        firstStartWithSetup();
        waiting();
        Expect.end();
    }

    private interface Question {
        Object of(int machine, int day);
    }

    private static void wrongDays(String name, int firstDay, Lendlathe desk, Question question) {
        Expect.raises(name + " machine -1", IndexOutOfBoundsException.class, () -> question.of(-1, 1));
        Expect.raises(name + " machine 1", IndexOutOfBoundsException.class, () -> question.of(1, 1));
        Expect.raises(name + " machine before day", IndexOutOfBoundsException.class, () -> question.of(1, -1));
        Expect.raises(name + " day " + (firstDay - 1), IllegalArgumentException.class,
                () -> question.of(0, firstDay - 1));
        Expect.raises(name + " day 8 on day 1", IllegalArgumentException.class, () -> question.of(0, 8));
        Expect.raises(name + " day greatest", IllegalArgumentException.class,
                () -> question.of(0, Integer.MAX_VALUE));
        question.of(0, firstDay);
        question.of(0, 7);
        Expect.equal("day()", 1, desk.day());
    }

    private static void ranges() {
        Lendlathe desk = Desks.with(1, 0, 0);
        desk.endDay();
        wrongDays("minuteAt", 0, desk, (machine, day) -> desk.minuteAt(machine, day, 0));
        wrongDays("usedMinutes", 0, desk, desk::usedMinutes);
        wrongDays("usedByMinutes", 0, desk, desk::usedByMinutes);
        wrongDays("setupMinutes", 0, desk, desk::setupMinutes);
        wrongDays("use", 0, desk, desk::use);
        wrongDays("waiting", 1, desk, desk::waiting);
        wrongDays("firstStart", 1, desk, (machine, day) -> desk.firstStart(machine, day, 1, 'a'));
        wrongDays("firstByMinutes", 1, desk, (machine, day) -> desk.firstByMinutes(machine, day, 1, 'a'));
        Expect.raises("minute -1", IllegalArgumentException.class, () -> desk.minuteAt(0, 0, -1));
        Expect.raises("minute 480", IllegalArgumentException.class, () -> desk.minuteAt(0, 0, 480));
        Expect.equal("minute 479", 'f', desk.minuteAt(0, 0, 479));
    }

    private static void minuteAt() {
        Lendlathe desk = Desks.with(2, 10, 1);
        desk.book(0, 0, 0, 200, 20, 'b');
        Expect.equal("no setup before the first", "200f 20b 260f", Desks.minutes(desk, 0, 0));
        desk.book(0, 0, 0, 100, 20, 'a');
        Expect.equal("setup before the second", "100f 20b 70f 10s 20b 260f", Desks.minutes(desk, 0, 0));
        desk.book(0, 0, 0, 150, 20, 'b');
        Expect.equal("one between them", "100f 20b 20f 10s 20b 30f 20b 260f", Desks.minutes(desk, 0, 0));
    }

    private static void minuteAtOfPastDays() {
        Lendlathe desk = Desks.with(2, 30, 2);
        desk.book(0, 0, 0, 0, 10, 'a');
        desk.book(1, 0, 0, 40, 10, 'c');
        desk.book(1, 0, 0, 50, 10, 'c');
        desk.book(0, 0, 0, 470, 10, 'a');
        desk.book(0, 0, 1, 470, 10, 'b');
        desk.book(1, 1, 0, 100, 10, 'b');
        desk.await(1, 0, 0, 100, 10, 'b');
        String row = "10b 30s 20b 380f 30s 10b";
        Expect.equal("today", row, Desks.minutes(desk, 0, 0));
        Expect.equal("tomorrow", "470f 10b", Desks.minutes(desk, 0, 1));
        Expect.equal("the other machine", "100f 10b 370f", Desks.minutes(desk, 1, 0));
        desk.endDay();
        Expect.equal("yesterday", row, Desks.minutes(desk, 0, 0));
        desk.cancel(4);
        Expect.equal("cancelled", "480f", Desks.minutes(desk, 0, 1));
    }

    private static void usedMinutes() {
        Lendlathe desk = Desks.with(2, 10, 1);
        Expect.equal("nothing", 0, desk.usedMinutes(0, 0));
        Expect.equal("nothing", 0, desk.usedByMinutes(0, 0));
        desk.book(0, 0, 0, 0, 240, 'a');
        desk.book(0, 0, 0, 240, 240, 'a');
        desk.book(0, 0, 6, 100, 7, 'a');
        desk.book(0, 0, 6, 200, 8, 'b');
        desk.await(0, 0, 6, 0, 240, 'a');
        Expect.equal("all", 480, desk.usedMinutes(0, 0));
        Expect.equal("all", 480, desk.usedByMinutes(0, 0));
        Expect.equal("two, without setup", 15, desk.usedMinutes(0, 6));
        Expect.equal("two, without setup", 15, desk.usedByMinutes(0, 6));
        Expect.equal("the other machine", 0, desk.usedMinutes(1, 0));
        Expect.equal("the other machine", 0, desk.usedByMinutes(1, 0));
        desk.cancel(0);
        desk.endDay();
        Expect.equal("done", 240, desk.usedMinutes(0, 0));
        Expect.equal("done", 240, desk.usedByMinutes(0, 0));
    }

    private static void setupMinutes() {
        Lendlathe desk = Desks.with(2, 7, 1);
        desk.book(0, 0, 0, 10, 10, 'a');
        Expect.equal("one entry", 0, desk.setupMinutes(0, 0));
        desk.book(0, 0, 0, 100, 10, 'b');
        Expect.equal("two entries", 7, desk.setupMinutes(0, 0));
        desk.book(0, 0, 0, 50, 10, 'c');
        Expect.equal("three entries", 14, desk.setupMinutes(0, 0));
        desk.book(0, 0, 0, 60, 10, 'c');
        Expect.equal("the same work", 14, desk.setupMinutes(0, 0));
        desk.book(0, 0, 1, 0, 10, 'a');
        Expect.equal("the next day", 0, desk.setupMinutes(0, 1));
        desk.book(0, 0, 1, 17, 10, 'b');
        Expect.equal("after an entry from minute 0 on", 7, desk.setupMinutes(0, 1));
        Expect.equal("the other machine", 0, desk.setupMinutes(1, 0));
        desk.cancel(2);
        desk.cancel(3);
        Expect.equal("after cancelling", 7, desk.setupMinutes(0, 0));
        desk.endDay();
        Expect.equal("a past day", 7, desk.setupMinutes(0, 0));
    }

    private static void wishRanges() {
        Lendlathe desk = Desks.with(1, 0, 1);
        for (int minutes : new int[] {Integer.MIN_VALUE, -1, 0, 241, Integer.MAX_VALUE}) {
            Expect.raises("firstStart", IllegalArgumentException.class, () -> desk.firstStart(0, 0, minutes, 'a'));
            Expect.raises("firstByMinutes", IllegalArgumentException.class,
                    () -> desk.firstByMinutes(0, 0, minutes, 'a'));
        }
        for (char work : new char[] {0, '`', 'd', 'A', 65535}) {
            Expect.raises("firstStart", IllegalArgumentException.class, () -> desk.firstStart(0, 0, 1, work));
            Expect.raises("firstByMinutes", IllegalArgumentException.class,
                    () -> desk.firstByMinutes(0, 0, 1, work));
        }
    }

    private static void bothFirst(Lendlathe desk, int due, int day, int minutes, char work) {
        Expect.equal("firstStart", due, desk.firstStart(0, day, minutes, work));
        Expect.equal("firstByMinutes", due, desk.firstByMinutes(0, day, minutes, work));
    }

    private static void noFirst(Lendlathe desk, int day, int minutes, char work) {
        Expect.raises("firstStart", NoSuchElementException.class, () -> desk.firstStart(0, day, minutes, work));
        Expect.raises("firstByMinutes", NoSuchElementException.class,
                () -> desk.firstByMinutes(0, day, minutes, work));
    }

    private static void firstStart() {
        Lendlathe desk = Desks.with(1, 0, 2);
        bothFirst(desk, 0, 0, 240, 'a');
        desk.book(0, 0, 0, 10, 100, 'a');
        bothFirst(desk, 0, 0, 10, 'a');
        bothFirst(desk, 110, 0, 11, 'a');
        bothFirst(desk, 0, 1, 11, 'a');
        desk.book(0, 0, 0, 120, 200, 'a');
        bothFirst(desk, 0, 0, 10, 'b');
        bothFirst(desk, 320, 0, 160, 'b');
        noFirst(desk, 0, 161, 'b');
        desk.book(1, 0, 0, 479, 1, 'a');
        bothFirst(desk, 320, 0, 159, 'b');
        noFirst(desk, 0, 160, 'b');
        desk.await(1, 0, 0, 0, 160, 'a');
        bothFirst(desk, 0, 0, 1, 'b');
    }

    private static void firstStartWithSetup() {
        Lendlathe desk = Desks.with(1, 20, 1);
        desk.book(0, 0, 0, 30, 10, 'a');
        bothFirst(desk, 0, 0, 30, 'a');
        bothFirst(desk, 0, 0, 10, 'b');
        bothFirst(desk, 60, 0, 11, 'b');
        bothFirst(desk, 40, 0, 31, 'a');
        desk.book(0, 0, 0, 100, 10, 'b');
        bothFirst(desk, 40, 0, 40, 'a');
        bothFirst(desk, 60, 0, 40, 'b');
        bothFirst(desk, 60, 0, 20, 'c');
        bothFirst(desk, 130, 0, 21, 'c');
        desk.book(0, 0, 0, 240, 240, 'a');
        bothFirst(desk, 130, 0, 90, 'c');
        desk.book(0, 0, 1, 0, 10, 'a');
        bothFirst(desk, 10, 1, 240, 'a');
        bothFirst(desk, 30, 1, 240, 'b');
        noFirst(desk, 0, 91, 'c');
        bothFirst(desk, 110, 0, 110, 'b');
        noFirst(desk, 0, 111, 'b');
    }

    private static void waiting() {
        Lendlathe desk = Desks.with(2, 0, 2);
        Expect.equal("none", 0, desk.waiting(0, 0));
        for (int machine = 0; machine < 2; machine++) {
            desk.book(machine, machine, 0, 0, 60, 'a');
            desk.book(machine, machine, 1, 0, 60, 'a');
        }
        desk.await(1, 0, 0, 0, 60, 'a');
        desk.await(1, 0, 0, 0, 60, 'a');
        desk.await(1, 0, 1, 0, 60, 'a');
        Expect.equal("two", 2, desk.waiting(0, 0));
        Expect.equal("one tomorrow", 1, desk.waiting(0, 1));
        Expect.equal("the other machine", 0, desk.waiting(1, 0));
        desk.cancel(4);
        Expect.equal("one is cancelled", 1, desk.waiting(0, 0));
        desk.endDay();
        Expect.equal("one for the second day", 1, desk.waiting(0, 1));
        desk.cancel(1);
        Expect.equal("it waits for its member", 1, desk.waiting(0, 1));
        desk.cancel(3);
        Expect.equal("it is booked", 0, desk.waiting(0, 1));
    }
}
