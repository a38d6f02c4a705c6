import java.util.NoSuchElementException;

/** Promises 33 to 41: breakages, dues, payments and sums. */
public final class BillTest {
    public static void main(String[] args) {
        breakDownRanges();
        breakDownDays();
        breakDownOwnMachineOnly();
        sharesWithRests();
        sharesOfEqualRests();
        shareOfOneMinute();
        sharesOfGreatCosts();
        shareOf();
        pay();
        owes();
        dueOf();
        dueOfCuts();
        duesOfThatDay();
        takings();
        use();
        meanMinutes();
        Expect.end();
    }

    private static void breakDownRanges() {
        Lendlathe desk = Desks.with(1, 0, 1);
        Expect.raises("machine -1", IndexOutOfBoundsException.class, () -> desk.breakDown(-1, 1));
        Expect.raises("machine 1", IndexOutOfBoundsException.class, () -> desk.breakDown(1, 1));
        Expect.raises("machine before cost", IndexOutOfBoundsException.class, () -> desk.breakDown(1, 0));
        Expect.raises("cost 0", IllegalArgumentException.class, () -> desk.breakDown(0, 0));
        Expect.raises("cost 100001", IllegalArgumentException.class, () -> desk.breakDown(0, 100001));
        for (int i = 0; i < 20; i++) {
            Expect.equal("nobody used it", 0, desk.breakDown(0, 100000));
            Expect.equal("nobody owes", 0, desk.shareOf(i, 0));
        }
        Expect.raises("a 21st breakage", IllegalStateException.class, () -> desk.breakDown(0, 1));
        Expect.raises("the range comes first", IllegalArgumentException.class, () -> desk.breakDown(0, 0));
        Expect.equal("owes", 0, desk.owes(0));
    }

    private static void breakDownDays() {
        Lendlathe desk = Desks.with(1, 0, 2);
        desk.book(0, 0, 0, 0, 30, 'a');
        desk.book(1, 0, 1, 0, 60, 'a');
        desk.book(1, 0, 1, 100, 1, 'a');
        desk.cancel(2);
        Expect.equal("today's entries do not count", 0, desk.breakDown(0, 100));
        desk.endDay();
        Expect.equal("yesterday", 30, desk.breakDown(0, 100));
        Desks.endDays(desk, 6);
        Expect.equal("7 days ago and 6 days ago", 90, desk.breakDown(0, 100));
        desk.endDay();
        Expect.equal("8 days ago no more", 60, desk.breakDown(0, 100));
        desk.endDay();
        Expect.equal("nor 8 days ago", 0, desk.breakDown(0, 100));
        Expect.equal("the first breakage", 0, desk.shareOf(0, 0));
        Expect.equal("the second breakage", 100, desk.shareOf(1, 0));
        Expect.equal("the third breakage", 33, desk.shareOf(2, 0));
        Expect.equal("the third breakage", 67, desk.shareOf(2, 1));
        Expect.equal("the fourth breakage", 100, desk.shareOf(3, 1));
        Expect.equal("all", 133, desk.owes(0));
        Expect.equal("all", 167, desk.owes(1));
    }

    private static void breakDownOwnMachineOnly() {
        Lendlathe desk = Desks.with(2, 0, 2);
        desk.book(0, 0, 0, 0, 30, 'a');
        desk.book(1, 1, 0, 0, 60, 'a');
        desk.book(0, 1, 0, 60, 60, 'a');
        desk.await(1, 0, 0, 0, 30, 'a');
        desk.endDay();
        Expect.equal("machine 1", 120, desk.breakDown(1, 11));
        Expect.equal("the lower number", 6, desk.shareOf(0, 0));
        Expect.equal("the higher number", 5, desk.shareOf(0, 1));
        Expect.equal("machine 0", 30, desk.breakDown(0, 11));
        Expect.equal("its user", 11, desk.shareOf(1, 0));
        Expect.equal("a lapsed entry does not count", 0, desk.shareOf(1, 1));
    }

    private static void sharesWithRests() {
        Lendlathe desk = Desks.with(1, 0, 4);
        desk.book(0, 0, 0, 0, 10, 'a');
        desk.book(2, 0, 0, 10, 20, 'a');
        desk.book(3, 0, 0, 30, 40, 'a');
        desk.book(0, 0, 0, 70, 7, 'a');
        desk.endDay();
        Expect.equal("the total", 77, desk.breakDown(0, 10));
        Expect.equal("170 / 77 leaves 16", 2, desk.shareOf(0, 0));
        Expect.equal("no minutes", 0, desk.shareOf(0, 1));
        Expect.equal("200 / 77 leaves 46 and is given 1", 3, desk.shareOf(0, 2));
        Expect.equal("400 / 77 leaves 15", 5, desk.shareOf(0, 3));
    }

    private static void sharesOfEqualRests() {
        Lendlathe desk = Desks.with(1, 0, 4);
        for (int member = 0; member < 4; member++) {
            desk.book(member, 0, 0, member * 10, 10, 'a');
        }
        desk.endDay();
        for (int cost = 1; cost <= 5; cost++) {
            desk.breakDown(0, cost);
            int sum = 0;
            for (int member = 0; member < 4; member++) {
                int share = desk.shareOf(cost - 1, member);
                Expect.equal("the lowest numbers first", cost / 4 + (member < cost % 4 ? 1 : 0), share);
                sum += share;
            }
            Expect.equal("the whole cost", cost, sum);
        }
    }

    private static void shareOfOneMinute() {
        Lendlathe desk = Desks.with(1, 0, 2);
        desk.book(1, 0, 0, 479, 1, 'a');
        desk.endDay();
        Expect.equal("one minute", 1, desk.breakDown(0, 100000));
        Expect.equal("all of it", 100000, desk.shareOf(0, 1));
        Expect.equal("none of it", 0, desk.shareOf(0, 0));
    }

    private static void sharesOfGreatCosts() {
        Lendlathe desk = Desks.with(1, 0, 2);
        for (int day = 0; day < 7; day++) {
            desk.book(0, 0, day, 0, 240, 'a');
            desk.book(0, 0, day, 240, 239, 'a');
            desk.book(1, 0, day, 479, 1, 'a');
        }
        Desks.endDays(desk, 7);
        Expect.equal("seven whole days", 3360, desk.breakDown(0, 100000));
        Expect.equal("nearly all of it", 99792, desk.shareOf(0, 0));
        Expect.equal("700000 / 3360, rounded down", 208, desk.shareOf(0, 1));
    }

    private static void shareOf() {
        Lendlathe desk = Desks.with(1, 0, 1);
        desk.book(0, 0, 0, 0, 10, 'a');
        desk.endDay();
        Expect.raises("no breakage", NoSuchElementException.class, () -> desk.shareOf(0, 0));
        Expect.raises("no breakage, no member", NoSuchElementException.class, () -> desk.shareOf(0, 9));
        desk.breakDown(0, 55);
        Expect.raises("breakage -1", NoSuchElementException.class, () -> desk.shareOf(-1, 0));
        Expect.raises("member -1", IndexOutOfBoundsException.class, () -> desk.shareOf(0, -1));
        Expect.raises("member 1", IndexOutOfBoundsException.class, () -> desk.shareOf(0, 1));
        desk.addMember();
        Expect.equal("a member who came later", 0, desk.shareOf(0, 1));
        Expect.equal("the other one", 55, desk.shareOf(0, 0));
        Expect.equal("owes nothing", 0, desk.owesByEntries(1));
    }

    private static void pay() {
        Lendlathe desk = Desks.with(1, 0, 2);
        Expect.raises("member -1", IndexOutOfBoundsException.class, () -> desk.pay(-1, 1));
        Expect.raises("member 2", IndexOutOfBoundsException.class, () -> desk.pay(2, 1));
        Expect.raises("member before amount", IndexOutOfBoundsException.class, () -> desk.pay(2, 0));
        Expect.raises("amount 0", IllegalArgumentException.class, () -> desk.pay(0, 0));
        Expect.raises("amount 1000001", IllegalArgumentException.class, () -> desk.pay(0, 1000001));
        Expect.equal("pay", -1000000, desk.pay(0, 1000000));
        Expect.equal("pay again", -1000001, desk.pay(0, 1));
        Expect.equal("another member", -1, desk.pay(1, 1));
        // The bound lies beyond the calls for which an object is promised; it is kept all the same.
        for (int i = 0; i < 999; i++) {
            desk.pay(1, 1000000);
        }
        Expect.raises("1 too much", IllegalStateException.class, () -> desk.pay(1, 1000000));
        Expect.equal("just enough", -1000000000, desk.pay(1, 999999));
        Expect.raises("all is paid", IllegalStateException.class, () -> desk.pay(1, 1));
        Expect.raises("the range comes first", IllegalArgumentException.class, () -> desk.pay(1, 0));
        Expect.equal("what threw changed nothing", -1000000000, desk.owes(1));
    }

    private static void owes() {
        Lendlathe desk = Desks.with(1, 0, 2);
        desk.setRate(0, 1);
        for (int member : new int[] {-1, 2}) {
            Expect.raises("owes", IndexOutOfBoundsException.class, () -> desk.owes(member));
            Expect.raises("owesByEntries", IndexOutOfBoundsException.class, () -> desk.owesByEntries(member));
        }
        desk.book(0, 0, 0, 0, 60, 'a');
        desk.book(0, 0, 0, 60, 51, 'a');
        desk.book(1, 0, 0, 111, 39, 'a');
        desk.cancel(1);
        desk.endDay();
        desk.breakDown(0, 99);
        desk.pay(0, 20);
        desk.pay(0, 5);
        Expect.equal("60 + 25 + 60 - 25", 120, desk.owes(0));
        Expect.equal("60 + 25 + 60 - 25", 120, desk.owesByEntries(0));
        Expect.equal("39 + 39", 78, desk.owes(1));
        Expect.equal("39 + 39", 78, desk.owesByEntries(1));
        desk.pay(1, 100);
        Expect.equal("less than 0", -22, desk.owes(1));
        Expect.equal("less than 0", -22, desk.owesByEntries(1));
    }

    private static void dueOf() {
        Lendlathe desk = Desks.with(1, 0, 1);
        desk.setRate(0, 5);
        Expect.raises("entry -1", NoSuchElementException.class, () -> desk.dueOf(-1));
        Expect.raises("entry 0", NoSuchElementException.class, () -> desk.dueOf(0));
        desk.book(0, 0, 0, 0, 60, 'a');
        desk.await(0, 0, 0, 0, 60, 'a');
        desk.await(0, 0, 0, 0, 60, 'a');
        desk.book(0, 0, 0, 100, 5, 'a');
        desk.book(0, 0, 1, 100, 5, 'a');
        desk.cancel(2);
        desk.cancel(3);
        desk.cancel(4);
        Expect.equal("while it is booked", 0, desk.dueOf(0));
        Expect.equal("while it is waiting", 0, desk.dueOf(1));
        Expect.equal("cancelled while it waited", 0, desk.dueOf(2));
        Expect.equal("cancelled on its day", 12, desk.dueOf(3));
        Expect.equal("cancelled before its day", 0, desk.dueOf(4));
        desk.endDay();
        Expect.equal("done", 300, desk.dueOf(0));
        Expect.equal("lapsed", 0, desk.dueOf(1));
    }

    private static void dueOfCuts() {
        Lendlathe desk = Desks.with(1, 0, 1);
        desk.deliver(0, 5000);
        desk.deliver(1, 5000);
        desk.setPrice(0, 7);
        desk.setPrice(1, 99);
        desk.book(0, 0, 0, 0, 60, 'a');
        desk.cut(0, 0, 1);
        desk.cut(0, 0, 100);
        desk.cut(0, 0, 101);
        desk.cut(0, 1, 4997);
        desk.cut(0, 0, 43);
        desk.endDay();
        Expect.equal("each cut is rounded up for itself", 1 + 7 + 8 + 4948 + 4, desk.dueOf(0));
        Expect.equal("owes", 4968, desk.owes(0));
    }

    private static void duesOfThatDay() {
        Lendlathe desk = Desks.with(1, 0, 1);
        desk.deliver(0, 5000);
        desk.book(0, 0, 0, 0, 60, 'a');
        desk.book(0, 0, 1, 0, 60, 'a');
        desk.cut(0, 0, 100);
        desk.cut(1, 0, 100);
        desk.setPrice(0, 10);
        desk.setRate(0, 1);
        desk.endDay();
        desk.setPrice(0, 20);
        desk.addFee(0, 5);
        desk.endDay();
        Expect.equal("tariff and price of the first day's end", 70, desk.dueOf(0));
        Expect.equal("tariff and price of the second day's end", 85, desk.dueOf(1));
        Expect.equal("both", 155, desk.owes(0));
    }

    private static void takings() {
        Lendlathe desk = Desks.with(0, 0, 10);
        Expect.equal("nothing", 0L, desk.takings());
        for (int member = 0; member < 10; member++) {
            for (int i = 0; i < 40; i++) {
                desk.pay(member, 1000000 - i);
            }
        }
        Expect.equal("what all paid", 399992200L, desk.takings());
        for (int i = 0; i < 9000; i++) {
            desk.pay(i % 10, 1000000);
        }
        Expect.equal("more than an int holds", 9399992200L, desk.takings());
    }

    private static void use() {
        Lendlathe desk = Desks.with(1, 10, 1);
        Expect.equal("nothing", 0.0f, desk.use(0, 0));
        desk.book(0, 0, 0, 0, 50, 'a');
        desk.book(0, 0, 0, 100, 50, 'b');
        desk.book(0, 0, 6, 0, 240, 'a');
        Expect.equal("100 / 480", 100f / 480f, desk.use(0, 0));
        Expect.equal("half", 0.5f, desk.use(0, 6));
        desk.book(0, 0, 6, 240, 240, 'a');
        Expect.equal("all", 1.0f, desk.use(0, 6));
        desk.endDay();
        Expect.equal("a past day", 100f / 480f, desk.use(0, 0));
    }

    private static void meanMinutes() {
        Lendlathe desk = Desks.with(1, 0, 1);
        Expect.raises("no entry", ArithmeticException.class, () -> desk.meanMinutes());
        desk.book(0, 0, 0, 0, 50, 'a');
        desk.book(0, 0, 0, 100, 51, 'b');
        desk.book(0, 0, 0, 200, 51, 'b');
        desk.book(0, 0, 0, 300, 20, 'b');
        desk.book(0, 0, 1, 0, 20, 'b');
        desk.await(0, 0, 0, 0, 20, 'b');
        desk.cancel(3);
        Expect.raises("no done entry", ArithmeticException.class, () -> desk.meanMinutes());
        desk.endDay();
        Expect.equal("152 / 3", 152.0 / 3.0, desk.meanMinutes());
    }
}
