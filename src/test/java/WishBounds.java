import java.util.function.IntFunction;

/** What book, await and check have in common: the boundary cases of their parameters. */
final class WishBounds extends Bounds {
    private static final int[] DAYS = {0, 5, 900};

    /** A start and a number of minutes, of which the last minute is not one of the day. */
    private static final int[][] TOO_LATE = {
        {480, 1}, {479, 2}, {478, 3}, {241, 240}, {479, 240}, {GREATEST, 1}, {GREATEST, 240}, {GREATEST - 238, 240},
    };

    /** A start or a number of minutes out of range, with a sum that would be a minute of the day. */
    private static final int[][] WRONG_WITH_GOOD_SUM = {
        {-1, 2}, {-1, 240}, {-240, 240}, {0, 0}, {100, 0}, {100, -1}, {240, -240}, {480, -1}, {480, 0}, {0, 241},
        {LEAST, LEAST}, {LEAST + 1, GREATEST}, {GREATEST, LEAST}, {GREATEST, GREATEST}, {GREATEST, LEAST + 2},
    };

    interface Wish {
        Object on(Lendlathe desk, int member, int machine, int day, int start, int minutes, char work);
    }

    private final int promise;
    private final IntFunction<Lendlathe> maker;
    private final Object due;
    private final Wish wish;

    /** The maker's desk of a day has 6 machines and 10 members; on it, such a wish has this answer. */
    WishBounds(int promise, IntFunction<Lendlathe> maker, Object due, Wish wish) {
        this.promise = promise;
        this.maker = maker;
        this.due = due;
        this.wish = wish;
    }

    void run() {
        takesNumbers();
        takesTimes();
        refusesNumbers();
        refusesTimes();
    }

    private Lendlathe desk() {
        return maker.apply(0);
    }

    private void takesNumbers() {
        sentence(promise, "`member`: the number of the member");
        takes(this::desk, "member 0", due, desk -> wish.on(desk, 0, 0, 0, 0, 1, 'a'));
        takes(this::desk, "member 9", due, desk -> wish.on(desk, 9, 0, 0, 0, 1, 'a'));

        sentence(promise, "`machine`: the number of the machine");
        takes(this::desk, "machine 0", due, desk -> wish.on(desk, 0, 0, 0, 0, 1, 'a'));
        takes(this::desk, "machine 5", due, desk -> wish.on(desk, 0, 5, 0, 0, 1, 'a'));
    }

    private void takesTimes() {
        sentence(promise, "`day`: the day, from the present day to 6 days later");
        for (int today : DAYS) {
            takes(() -> maker.apply(today), "the present day", due, desk -> wish.on(desk, 0, 0, today, 0, 1, 'a'));
            takes(() -> maker.apply(today), "6 days later", due, desk -> wish.on(desk, 0, 0, today + 6, 0, 1, 'a'));
        }

        sentence(promise, "`start`: the first minute, 0 or more");
        for (int start : new int[] {0, 1, 478, 479}) {
            takes(this::desk, "start " + start, due, desk -> wish.on(desk, 0, 0, 0, start, 1, 'a'));
        }

        sentence(promise, "`minutes`: the number of minutes, 1 to 240; the last minute is 479 or less");
        for (int[] time : new int[][] {{0, 1}, {0, 2}, {0, 239}, {0, 240}, {479, 1}, {478, 2}, {240, 240}}) {
            takes(this::desk, time[1] + " minutes from " + time[0], due,
                    desk -> wish.on(desk, 0, 0, 0, time[0], time[1], 'a'));
        }

        sentence(promise, "`work`: the work, 'a', 'b' or 'c'");
        for (char work : new char[] {'a', 'b', 'c'}) {
            takes(this::desk, "work " + work, due, desk -> wish.on(desk, 0, 0, 0, 0, 1, work));
        }
    }

    private void refusesNumbers() {
        sentence(promise, "Throws `IndexOutOfBoundsException` if there is no such member or machine");
        refusesOutside(this::desk, 0, 9, INDEX, (desk, member) -> wish.on(desk, member, 0, 0, 0, 1, 'a'));
        refusesOutside(this::desk, 0, 5, INDEX, (desk, machine) -> wish.on(desk, 0, machine, 0, 0, 1, 'a'));
        refuses(this::desk, "neither", INDEX, desk -> wish.on(desk, 10, 6, 0, 0, 1, 'a'));
        refuses(Lendlathe::new, "an empty desk", INDEX, desk -> wish.on(desk, 0, 0, 0, 0, 1, 'a'));
        refuses(() -> Desks.with(1, 0, 0), "no members", INDEX, desk -> wish.on(desk, 0, 0, 0, 0, 1, 'a'));
        refuses(() -> Desks.with(0, 0, 1), "no machines", INDEX, desk -> wish.on(desk, 0, 0, 0, 0, 1, 'a'));
    }

    private void refusesTimes() {
        sentence(promise, "Throws `IllegalArgumentException` if the day, the start, the number of minutes or the work"
                + " is out of range");
        for (int today : DAYS) {
            refusesOutside(() -> maker.apply(today), today, today + 6, RANGE,
                    (desk, day) -> wish.on(desk, 0, 0, day, 0, 1, 'a'));
        }
        refuses(() -> maker.apply(5), "day 0 on day 5", RANGE, desk -> wish.on(desk, 0, 0, 0, 0, 1, 'a'));
        refusesOutside(this::desk, 0, 479, RANGE, (desk, start) -> wish.on(desk, 0, 0, 0, start, 1, 'a'));
        refusesOutside(this::desk, 1, 240, RANGE, (desk, minutes) -> wish.on(desk, 0, 0, 0, 0, minutes, 'a'));
        refusesPairs(TOO_LATE);
        refusesPairs(WRONG_WITH_GOOD_SUM);
        for (char work : NO_WORKS) {
            refuses(this::desk, "work " + (int) work, RANGE, desk -> wish.on(desk, 0, 0, 0, 0, 1, work));
        }
    }

    private void refusesPairs(int[][] times) {
        for (int[] time : times) {
            refuses(this::desk, time[1] + " minutes from " + time[0], RANGE,
                    desk -> wish.on(desk, 0, 0, 0, time[0], time[1], 'a'));
        }
    }
}
