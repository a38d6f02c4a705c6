import java.util.NoSuchElementException;

/** Promises 8 to 14: entries that are booked, wait, are cancelled, and the end of a day. */
public final class EntryTest {
    public static void main(String[] args) {
        bookRanges();
        bookOrder();
        bookOverlap();
        bookSetup();
        bookFull();
        await();
        awaitOrder();
        check();
        cancel();
        cancelFillsTime();
        cancelFillsInOrder();
        cancelCharges();
        stateOf();
        entries();
        endDay();
        lastDay();
        Expect.end();
    }

    private static void wrongTimes(String name, Wish wish) {
        Class<IndexOutOfBoundsException> index = IndexOutOfBoundsException.class;
        Class<IllegalArgumentException> range = IllegalArgumentException.class;
        Expect.raises(name + " member -1", index, () -> wish.of(-1, 0, 0, 0, 1, 'a'));
        Expect.raises(name + " member 1", index, () -> wish.of(1, 0, 0, 0, 1, 'a'));
        Expect.raises(name + " machine -1", index, () -> wish.of(0, -1, 0, 0, 1, 'a'));
        Expect.raises(name + " machine 1", index, () -> wish.of(0, 1, 0, 0, 1, 'a'));
        Expect.raises(name + " machine before day", index, () -> wish.of(0, 1, -1, 0, 1, 'a'));
        Expect.raises(name + " day -1", range, () -> wish.of(0, 0, -1, 0, 1, 'a'));
        Expect.raises(name + " day 7", range, () -> wish.of(0, 0, 7, 0, 1, 'a'));
        Expect.raises(name + " day greatest", range, () -> wish.of(0, 0, Integer.MAX_VALUE, 0, 1, 'a'));
        Expect.raises(name + " start -1", range, () -> wish.of(0, 0, 0, -1, 1, 'a'));
        Expect.raises(name + " start 480", range, () -> wish.of(0, 0, 0, 480, 1, 'a'));
        Expect.raises(name + " start greatest", range, () -> wish.of(0, 0, 0, Integer.MAX_VALUE, 1, 'a'));
        Expect.raises(name + " minutes 0", range, () -> wish.of(0, 0, 0, 0, 0, 'a'));
        Expect.raises(name + " minutes 241", range, () -> wish.of(0, 0, 0, 0, 241, 'a'));
        Expect.raises(name + " minutes least", range, () -> wish.of(0, 0, 0, 0, Integer.MIN_VALUE, 'a'));
        Expect.raises(name + " last minute 480", range, () -> wish.of(0, 0, 0, 241, 240, 'a'));
        Expect.raises(name + " work `", range, () -> wish.of(0, 0, 0, 0, 1, '`'));
        Expect.raises(name + " work d", range, () -> wish.of(0, 0, 0, 0, 1, 'd'));
    }

    private interface Wish {
        Object of(int member, int machine, int day, int start, int minutes, char work);
    }

    private static void bookRanges() {
        Lendlathe desk = Desks.with(1, 0, 1);
        wrongTimes("book", desk::book);
        Expect.equal("no entry came of it", 0, desk.entries());
        Expect.equal("the first minutes", 0, desk.book(0, 0, 0, 0, 240, 'a'));
        Expect.equal("the last minutes", 1, desk.book(0, 0, 0, 240, 240, 'b'));
        Expect.equal("the last day", 2, desk.book(0, 0, 6, 479, 1, 'c'));
        Expect.equal("state", 'b', desk.stateOf(2));
        desk.endDay();
        Expect.raises("the day before", IllegalArgumentException.class, () -> desk.book(0, 0, 0, 0, 1, 'a'));
        Expect.equal("day 7 on day 1", 3, desk.book(0, 0, 7, 0, 1, 'a'));
    }

    private static void bookOrder() {
        Lendlathe desk = Desks.with(2, 0, 2);
        desk.addMember();
        desk.book(0, 0, 0, 0, 60, 'a');
        Expect.raises("no induction, time taken", UnsupportedOperationException.class,
                () -> desk.book(2, 0, 0, 0, 60, 'a'));
        Expect.raises("member busy, time taken", ArithmeticException.class, () -> desk.book(0, 0, 0, 30, 60, 'a'));
        Expect.raises("member busy elsewhere", ArithmeticException.class, () -> desk.book(0, 1, 0, 59, 1, 'a'));
        Expect.raises("time taken", NoSuchElementException.class, () -> desk.book(1, 0, 0, 59, 1, 'a'));
        Expect.equal("another machine", 1, desk.book(1, 1, 0, 0, 60, 'a'));
        Expect.equal("another day", 2, desk.book(0, 0, 1, 0, 60, 'a'));
        Expect.equal("what threw changed nothing", 3, desk.entries());
        Expect.raises("the range before the induction", IllegalArgumentException.class,
                () -> desk.book(2, 0, 0, 0, 60, 'd'));
        Desks.endDays(desk, 24);
        Expect.equal("the induction's last day", 3, desk.book(0, 0, 29, 0, 60, 'a'));
        Expect.raises("the day after it", UnsupportedOperationException.class,
                () -> desk.book(0, 0, 30, 0, 60, 'a'));
    }

    private static void bookOverlap() {
        Lendlathe desk = Desks.with(1, 0, 2);
        desk.book(0, 0, 0, 100, 50, 'a');
        Expect.raises("one minute at its start", NoSuchElementException.class,
                () -> desk.book(1, 0, 0, 51, 50, 'a'));
        Expect.raises("one minute at its end", NoSuchElementException.class,
                () -> desk.book(1, 0, 0, 149, 50, 'a'));
        Expect.raises("inside", NoSuchElementException.class, () -> desk.book(1, 0, 0, 110, 5, 'a'));
        Expect.raises("around", NoSuchElementException.class, () -> desk.book(1, 0, 0, 50, 150, 'a'));
        Expect.equal("directly before", 1, desk.book(1, 0, 0, 50, 50, 'a'));
        Expect.equal("directly after", 2, desk.book(1, 0, 0, 150, 50, 'a'));
        Expect.equal("a member's own entries may touch", 3, desk.book(1, 0, 0, 200, 50, 'b'));
    }

    private static void bookSetup() {
        Lendlathe desk = Desks.with(1, 10, 1);
        desk.book(0, 0, 0, 100, 50, 'a');
        desk.book(0, 0, 0, 300, 50, 'b');
        Expect.raises("9 minutes after other work", NoSuchElementException.class,
                () -> desk.book(0, 0, 0, 159, 5, 'c'));
        Expect.raises("9 minutes before other work", NoSuchElementException.class,
                () -> desk.book(0, 0, 0, 286, 5, 'c'));
        Expect.equal("10 minutes after", 2, desk.book(0, 0, 0, 160, 5, 'c'));
        Expect.equal("10 minutes before", 3, desk.book(0, 0, 0, 285, 5, 'c'));
        Expect.equal("no setup to the same work", 4, desk.book(0, 0, 0, 350, 5, 'b'));
        Expect.equal("only the last one before counts", 5, desk.book(0, 0, 0, 355, 5, 'b'));
        Expect.equal("another day has no setup to this one", 6, desk.book(0, 0, 1, 0, 5, 'c'));
        Expect.equal("the day's start needs no setup", 7, desk.book(0, 0, 0, 0, 5, 'c'));
        desk.cancel(2);
        Expect.raises("a and c, to the entry before", NoSuchElementException.class,
                () -> desk.book(0, 0, 0, 150, 5, 'c'));
        Expect.equal("a cancelled entry counts no more", 8, desk.book(0, 0, 0, 160, 5, 'b'));
    }

    private static void bookFull() {
        Lendlathe desk = Desks.with(1, 0, 1);
        for (int i = 0; i < 150; i++) {
            Expect.equal("book", i, desk.book(0, 0, 0, i, 1, 'a'));
        }
        Expect.raises("a 151st entry", IllegalStateException.class, () -> desk.book(0, 0, 0, 150, 1, 'a'));
        Expect.raises("a 151st entry to wait", IllegalStateException.class, () -> desk.await(0, 0, 0, 0, 1, 'a'));
        Expect.raises("busy comes before full", ArithmeticException.class, () -> desk.book(0, 0, 0, 0, 1, 'a'));
        Expect.equal("check when full", 'o', desk.check(0, 0, 0, 150, 1, 'a'));
        desk.cancel(0);
        Expect.raises("a cancelled one counts", IllegalStateException.class, () -> desk.book(0, 0, 0, 0, 1, 'a'));
        Expect.equal("entries()", 150, desk.entries());
    }

    private static void await() {
        Lendlathe desk = Desks.with(1, 0, 1);
        wrongTimes("await", desk::await);
        desk.book(0, 0, 0, 0, 240, 'a');
        Expect.equal("a waiting entry", 1, desk.await(0, 0, 0, 0, 240, 'a'));
        Expect.equal("waits", 'w', desk.stateOf(1));
        Expect.equal("another one for the same time", 2, desk.await(0, 0, 0, 0, 240, 'a'));
        Expect.raises("it could be booked", IllegalStateException.class, () -> desk.await(0, 0, 0, 240, 1, 'a'));
        Expect.equal("entries()", 3, desk.entries());
    }

    private static void awaitOrder() {
        Lendlathe desk = Desks.with(2, 5, 2);
        desk.addMember();
        desk.book(0, 0, 0, 0, 60, 'a');
        Expect.raises("no induction", UnsupportedOperationException.class, () -> desk.await(2, 0, 0, 0, 1, 'a'));
        Expect.equal("the member is busy", 1, desk.await(0, 1, 0, 0, 60, 'a'));
        Expect.equal("the time is taken", 2, desk.await(1, 0, 0, 0, 60, 'a'));
        Expect.equal("the setup is too short", 3, desk.await(1, 0, 0, 64, 10, 'b'));
        Expect.raises("the setup is long enough", IllegalStateException.class,
                () -> desk.await(1, 0, 0, 65, 10, 'b'));
        Expect.equal("waiting entries take no time", 4, desk.book(1, 1, 0, 0, 60, 'a'));
    }

    private static void check() {
        Lendlathe desk = Desks.with(1, 10, 2);
        wrongTimesOfTwo(desk);
        desk.addMember();
        desk.book(0, 0, 0, 0, 60, 'a');
        Expect.equal("not inducted", 'i', desk.check(2, 0, 0, 0, 60, 'a'));
        Expect.equal("busy", 'm', desk.check(0, 0, 0, 59, 60, 'a'));
        Expect.equal("taken", 't', desk.check(1, 0, 0, 59, 60, 'a'));
        Expect.equal("no setup", 't', desk.check(1, 0, 0, 69, 60, 'c'));
        Expect.equal("bookable", 'o', desk.check(1, 0, 0, 70, 60, 'c'));
        Expect.equal("the same work", 'o', desk.check(1, 0, 0, 60, 60, 'a'));
        Expect.equal("no entry is added", 1, desk.entries());
        desk.await(1, 0, 0, 0, 60, 'a');
        Expect.equal("a waiting entry makes nobody busy", 'o', desk.check(1, 0, 0, 60, 60, 'a'));
    }

    private static void wrongTimesOfTwo(Lendlathe two) {
        Lendlathe desk = Desks.with(1, 0, 1);
        wrongTimes("check", desk::check);
        Expect.raises("check member 2", IndexOutOfBoundsException.class, () -> two.check(2, 0, 0, 0, 1, 'a'));
    }

    private static void cancel() {
        Lendlathe desk = Desks.with(1, 0, 1);
        Expect.raises("entry -1", NoSuchElementException.class, () -> desk.cancel(-1));
        Expect.raises("entry 0", NoSuchElementException.class, () -> desk.cancel(0));
        desk.book(0, 0, 0, 0, 60, 'a');
        desk.book(0, 0, 1, 0, 60, 'a');
        desk.await(0, 0, 0, 0, 60, 'a');
        desk.await(0, 0, 1, 0, 60, 'a');
        Expect.equal("one that waits for today", 'w', desk.cancel(2));
        Expect.equal("one that waits for tomorrow", 'w', desk.cancel(3));
        Expect.equal("one for today", 'h', desk.cancel(0));
        Expect.equal("one for tomorrow", 'f', desk.cancel(1));
        for (int i = 0; i < 4; i++) {
            int entry = i;
            Expect.equal("state", 'c', desk.stateOf(i));
            Expect.raises("a cancelled one", IllegalStateException.class, () -> desk.cancel(entry));
        }
        desk.book(0, 0, 0, 0, 60, 'a');
        desk.await(0, 0, 0, 0, 60, 'a');
        desk.endDay();
        Expect.raises("a done one", IllegalStateException.class, () -> desk.cancel(4));
        Expect.raises("a lapsed one", IllegalStateException.class, () -> desk.cancel(5));
        desk.book(0, 0, 1, 0, 60, 'a');
        Expect.equal("today is day 1", 'h', desk.cancel(6));
    }

    private static void cancelFillsTime() {
        Lendlathe desk = Desks.with(2, 10, 3);
        desk.book(0, 0, 0, 100, 60, 'a');
        desk.await(1, 0, 0, 155, 10, 'b');
        desk.await(2, 0, 0, 100, 20, 'c');
        desk.await(2, 0, 0, 160, 5, 'b');
        desk.await(0, 1, 0, 100, 60, 'a');
        desk.cancel(0);
        Expect.equal("the lowest-numbered one", 'b', desk.stateOf(1));
        Expect.equal("another one that fits, too", 'b', desk.stateOf(2));
        Expect.equal("one whose time was taken by it", 'w', desk.stateOf(3));
        Expect.equal("the member is free again", 'b', desk.stateOf(4));
        Expect.equal("isSound()", true, desk.isSound());
        desk.cancel(1);
        Expect.equal("and then it comes", 'b', desk.stateOf(3));
    }

    private static void cancelFillsInOrder() {
        Lendlathe desk = Desks.with(1, 0, 2);
        desk.book(0, 0, 0, 0, 60, 'a');
        desk.await(1, 0, 0, 0, 30, 'a');
        desk.await(0, 0, 0, 0, 30, 'a');
        desk.cancel(0);
        Expect.equal("the first that waited", 'b', desk.stateOf(1));
        Expect.equal("the second that waited", 'w', desk.stateOf(2));
        desk.cancel(2);
        desk.cancel(1);
        Expect.equal("a cancelled one comes no more", 'c', desk.stateOf(2));
    }

    private static void cancelCharges() {
        Lendlathe desk = Desks.with(1, 0, 1);
        desk.setRate(0, 3);
        desk.setPrice(0, 99);
        desk.deliver(0, 1000);
        desk.book(0, 0, 0, 0, 61, 'a');
        desk.book(0, 0, 1, 0, 61, 'a');
        desk.await(0, 0, 0, 0, 61, 'b');
        desk.cut(0, 0, 500);
        desk.cut(1, 0, 300);
        desk.cancel(2);
        Expect.equal("one that waited costs nothing", 0, desk.owes(0));
        desk.cancel(1);
        Expect.equal("one for tomorrow costs nothing", 0, desk.owes(0));
        Expect.equal("its cuts end", 497, desk.freeOf(0));
        desk.cancel(0);
        Expect.equal("half of 183, rounded down, and no cuts", 91, desk.owes(0));
        Expect.equal("its due", 91, desk.dueOf(0));
        Expect.equal("its cuts end", 1000, desk.freeOf(0));
        Expect.equal("its cuts end", 1000, desk.freeByCuts(0));
        desk.setRate(0, 50);
        Expect.equal("a later tariff does not matter", 91, desk.owes(0));
    }

    private static void stateOf() {
        Lendlathe desk = Desks.with(1, 0, 1);
        Expect.raises("entry -1", NoSuchElementException.class, () -> desk.stateOf(-1));
        Expect.raises("entry 0", NoSuchElementException.class, () -> desk.stateOf(0));
        desk.book(0, 0, 0, 0, 60, 'a');
        desk.await(0, 0, 0, 0, 60, 'a');
        desk.cancel(desk.book(0, 0, 0, 60, 60, 'a'));
        Expect.equal("booked", 'b', desk.stateOf(0));
        Expect.equal("waiting", 'w', desk.stateOf(1));
        Expect.equal("cancelled", 'c', desk.stateOf(2));
        desk.endDay();
        Expect.equal("done", 'd', desk.stateOf(0));
        Expect.equal("lapsed", 'x', desk.stateOf(1));
        Expect.equal("still cancelled", 'c', desk.stateOf(2));
        Expect.raises("entry 3", NoSuchElementException.class, () -> desk.stateOf(3));
    }

    private static void entries() {
        Lendlathe desk = Desks.with(1, 0, 1);
        Expect.equal("entries()", 0, desk.entries());
        desk.book(0, 0, 0, 0, 60, 'a');
        desk.await(0, 0, 0, 0, 60, 'a');
        Expect.equal("booked and waiting ones", 2, desk.entries());
        desk.cancel(desk.book(0, 0, 0, 60, 60, 'a'));
        desk.endDay();
        Expect.equal("ones in all states", 3, desk.entries());
    }

    private static void endDay() {
        Lendlathe desk = Desks.with(2, 0, 2);
        desk.setRate(0, 2);
        desk.book(0, 0, 0, 0, 60, 'a');
        desk.book(1, 1, 0, 0, 30, 'a');
        desk.book(0, 0, 1, 0, 60, 'a');
        desk.await(1, 0, 0, 0, 60, 'a');
        desk.await(1, 0, 1, 0, 60, 'a');
        Expect.equal("done entries", 2, desk.endDay());
        Expect.equal("the next day", 1, desk.day());
        Expect.equal("done", 'd', desk.stateOf(1));
        Expect.equal("tomorrow's entry", 'b', desk.stateOf(2));
        Expect.equal("lapsed", 'x', desk.stateOf(3));
        Expect.equal("one that waits for tomorrow", 'w', desk.stateOf(4));
        Expect.equal("the due of the first", 120, desk.dueOf(0));
        Expect.equal("the due of the second", 60, desk.owes(1));
        Expect.equal("done entries of the second day", 1, desk.endDay());
        Expect.equal("done entries of a day without any", 0, desk.endDay());
    }

    // 900 days are more than the calls for which an object is promised; the bound is kept all the same.
    private static void lastDay() {
        Lendlathe desk = new Lendlathe();
        Desks.endDays(desk, 900);
        Expect.equal("day()", 900, desk.day());
        Expect.raises("the end of day 900", IllegalStateException.class, () -> desk.endDay());
        Expect.equal("day()", 900, desk.day());
    }
}
