/**
 * "A call that throws changes nothing": the same calls on two objects, one of which is also asked a call that it
 * refuses before each of them; no answer may tell the two apart.
 */
public final class RefusedTest {
    private interface Step {
        long on(PrintQueue q);
    }

    private interface Refused {
        long on(PrintQueue q, long now);
    }

    private static final String BAD = "throws.IllegalArgumentException";
    private static final String NO_SUCH = "throws.NoSuchElementException";
    private static final String BUSY = "throws.IllegalStateException";
    private static final String OUTSIDE = "throws.IndexOutOfBoundsException";
    private static final String FULL = "throws.UnsupportedOperationException";
    private static final Check check = new Check();

    private static final class Twins {
        private final PrintQueue plain = new PrintQueue();
        private final PrintQueue asked = new PrintQueue();
        private final String call;
        private final String exception;
        private final Refused wrong;
        private long now = 0;

        Twins(String exception, String call, Refused wrong) {
            this.exception = exception;
            this.call = call;
            this.wrong = wrong;
            check.topic("behind the refused " + call);
        }

        void both(Step step) {
            step.on(plain);
            step.on(asked);
        }

        void same(String name, Step step) {
            check.tell(name, Check.answerOf(() -> step.on(plain)), Check.answerOf(() -> step.on(asked)));
        }

        void step(String name, int answer, Step step) {
            check.tell(call, exception, Check.answerOf(() -> wrong.on(asked, now)));
            check.due(answer, name, () -> step.on(plain));
            check.due(answer, name, () -> step.on(asked));
        }

        void take(int printer, long t, int job) {
            step("take(" + printer + ", " + t + ")", job, q -> q.take(printer, t));
            now = t;
        }

        void print(int printer, int pages, int out) {
            step("print(" + printer + ", " + pages + ")", out, q -> q.print(printer, pages));
        }

        void fault(int printer, int page) {
            step("fault(" + printer + ")", page, q -> q.fault(printer));
        }

        void compareJob(int job) {
            for (int i = 0; i <= 4; i++) {
                int what = i;
                same("state(" + job + ", " + what + ")", q -> q.state(job, what));
            }
            for (int i = -1; i <= 2; i++) {
                int index = i;
                same("doubled(" + job + ", " + index + ")", q -> q.doubled(job, index));
            }
            same("reason(" + job + ")", q -> q.reason(job));
        }

        void compareTicket(int ticket) {
            for (int i = 0; i <= 3; i++) {
                int what = i;
                same("account(" + ticket + ", " + what + ")", q -> q.account(ticket, what));
            }
        }
    }

    public static void main(String[] args) {
        refusedPrintersTicketsJobs();
        refusedAtPrinters();
        refusedOfJobs();
        refusedOfAFullObject();
        check.end();
    }

    private static void refusedPrintersTicketsJobs() {
        run(BAD, "printer(8, 1)", (q, now) -> q.printer(8, 1));
        run(BAD, "printer(0, 3)", (q, now) -> q.printer(0, 3));
        run(BAD, "ticket(8, 1, 0)", (q, now) -> q.ticket(8, 1, 0));
        run(BAD, "ticket(0, 0, 0)", (q, now) -> q.ticket(0, 0, 0));
        run(BAD, "ticket(0, 1, 4)", (q, now) -> q.ticket(0, 1, 4));
        run(NO_SUCH, "job of ticket 4", (q, now) -> q.job(4, 1, 1, 9, 0));
        run(BAD, "job of pages 501", (q, now) -> q.job(1, 501, 1, 9, 0));
        run(BAD, "job of copies 101", (q, now) -> q.job(1, 1, 101, 9, 0));
        run(BAD, "job of rank 10", (q, now) -> q.job(1, 1, 1, 10, 0));
        run(BAD, "job of t -1", (q, now) -> q.job(1, 1, 1, 9, -1));
        run(BAD, "like(-1)", (q, now) -> q.like(-1));
        run(BAD, "like(101)", (q, now) -> q.like(101));
    }

    /** In the run printer 1 comes and goes, and printer 2 has a part all the time. */
    private static void refusedAtPrinters() {
        run(NO_SUCH, "take(4, now + 9)", (q, now) -> q.take(4, now + 9));
        run(BAD, "take(1, now - 1)", (q, now) -> q.take(1, now - 1));
        run(BAD, "take(2, now - 1)", (q, now) -> q.take(2, now - 1));
        run(BUSY, "take(2, now)", (q, now) -> q.take(2, now));
        run(BUSY, "take(2, now + 9)", (q, now) -> q.take(2, now + 9));
        run(NO_SUCH, "print(4, 1)", (q, now) -> q.print(4, 1));
        run(BAD, "print(1, -1)", (q, now) -> q.print(1, -1));
        run(BAD, "print(1, 50001)", (q, now) -> q.print(1, 50001));
        run(BAD, "print(2, -1)", (q, now) -> q.print(2, -1));
        run(BAD, "print(2, 50001)", (q, now) -> q.print(2, 50001));
        run(NO_SUCH, "fault(4)", (q, now) -> q.fault(4));
    }

    private static void refusedOfJobs() {
        run(NO_SUCH, "hold(0, true)", (q, now) -> q.hold(0, true));
        run(NO_SUCH, "hold(7, true)", (q, now) -> q.hold(7, true));
        run(NO_SUCH, "cancel(0)", (q, now) -> q.cancel(0));
        run(NO_SUCH, "cancel(7)", (q, now) -> q.cancel(7));
        run(NO_SUCH, "state(7, 0)", (q, now) -> q.state(7, 0));
        run(OUTSIDE, "state(1, 5)", (q, now) -> q.state(1, 5));
        run(NO_SUCH, "doubled(7, 0)", (q, now) -> q.doubled(7, 0));
        run(OUTSIDE, "doubled(1, 9)", (q, now) -> q.doubled(1, 9));
        run(NO_SUCH, "account(4, 0)", (q, now) -> q.account(4, 0));
        run(OUTSIDE, "account(1, 4)", (q, now) -> q.account(1, 4));
        run(NO_SUCH, "reason(7)", (q, now) -> q.reason(7));
        run(NO_SUCH, "split(7, 1, 1)", (q, now) -> q.split(7, 1, 1));
        run(NO_SUCH, "split(5, 4, 1)", (q, now) -> q.split(5, 4, 1));
    }

    private static void run(String exception, String call, Refused wrong) {
        Twins twins = new Twins(exception, call, wrong);
        twins.both(RefusedTest::setUp);
        runAtPrinters(twins);
        for (int job = 1; job <= 6; job++) {
            twins.compareJob(job);
        }
        for (int ticket = 1; ticket <= 3; ticket++) {
            twins.compareTicket(ticket);
        }
        twins.same("printer(0, 1)", q -> q.printer(0, 1));
        twins.same("ticket(0, 1, 0)", q -> q.ticket(0, 1, 0));
        twins.same("job(1, 1, 1, 0, 0)", q -> q.job(1, 1, 1, 0, 0));
        twins.same("like(7)", q -> q.like(7));
    }

    private static long setUp(PrintQueue q) {
        q.printer(0, 1);
        q.printer(1, 2);
        q.printer(2, 2);
        q.ticket(0, 1, 0);
        q.ticket(1, 2, 1);
        q.ticket(2, 1, 2);
        q.job(1, 2, 2, 5, 0);
        q.job(3, 3, 1, 5, 0);
        q.job(1, 4, 2, 5, 3);
        q.job(3, 1, 3, 6, 6);
        q.job(2, 5, 4, 5, 0);
        q.job(2, 500, 100, 9, 0);
        return q.take(2, 0);
    }

    private static void runAtPrinters(Twins twins) {
        twins.print(2, 3, 3);
        twins.take(1, 0, 1);
        twins.print(1, 3, 3);
        twins.fault(1, 1);
        twins.take(1, 1, 1);
        twins.print(1, 2, 2);
        twins.step("split(5, 3, 2)", 1, q -> q.split(5, 3, 2));
        twins.step("split(5, 2, 1)", 1, q -> q.split(5, 2, 1));
        twins.step("split(5, 2, 1)", 0, q -> q.split(5, 2, 1));
        twins.step("hold(5, true)", 0, q -> q.hold(5, true));
        twins.take(3, 2, 2);
        twins.print(3, 2, 2);
        twins.fault(3, 2);
        twins.step("hold(5, false)", 1, q -> q.hold(5, false));
        twins.step("like(1)", 3, q -> q.like(1));
        twins.take(1, 3, 2);
        twins.print(1, 50000, 2);
        twins.take(1, 4, 3);
        twins.print(1, 1, 1);
        twins.step("cancel(3)", 1, q -> q.cancel(3));
        twins.take(3, 5, 5);
        twins.print(3, 50000, 5);
        twins.take(3, 5, 5);
        twins.print(3, 4, 4);
        twins.take(1, 6, 4);
        twins.print(1, 50000, 3);
        twins.fault(3, 4);
        twins.take(3, 7, 5);
        twins.print(3, 1, 1);
        twins.print(2, 2, 2);
    }

    private static void refusedOfAFullObject() {
        full("printer(0, 1)", (q, now) -> q.printer(0, 1));
        full("ticket(0, 1, 0)", (q, now) -> q.ticket(0, 1, 0));
        full("job(1, 1, 1, 9, 0)", (q, now) -> q.job(1, 1, 1, 9, 0));
    }

    private static void full(String call, Refused wrong) {
        Twins twins = new Twins(FULL, call, wrong);
        twins.both(RefusedTest::fill);
        for (int printer = 1; printer <= 8; printer++) {
            twins.take(printer, 9, printer <= 6 ? 10 * printer : 10 * (printer - 6) - 1);
            twins.print(printer, 1, 1);
        }
        for (int ticket = 1; ticket <= 20; ticket++) {
            twins.compareTicket(ticket);
        }
        for (int job : new int[] {1, 2, 3, 20, 30, 40, 59, 60}) {
            twins.compareJob(job);
        }
        twins.step("cancel(60)", 1, q -> q.cancel(60));
    }

    private static long fill(PrintQueue q) {
        for (int i = 0; i < 8; i++) {
            q.printer(0, 2);
        }
        for (int i = 0; i < 20; i++) {
            q.ticket(0, 1 + i % 2, i % 4);
        }
        int last = 0;
        for (int i = 0; i < 60; i++) {
            last = q.job(1 + i % 20, 2 + i % 5, 1 + i % 3, i % 10, 0);
        }
        return last;
    }
}
