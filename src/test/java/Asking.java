import java.util.NoSuchElementException;

/** What the tests of single calls share: the exceptions by short names, and calls with the answer that is due. */
abstract class Asking {
    static final Class<NoSuchElementException> NO_SUCH = NoSuchElementException.class;
    static final Class<IllegalArgumentException> BAD = IllegalArgumentException.class;
    static final Class<UnsupportedOperationException> FULL = UnsupportedOperationException.class;
    static final Class<IllegalStateException> BUSY = IllegalStateException.class;
    static final Class<IndexOutOfBoundsException> OUTSIDE = IndexOutOfBoundsException.class;
    static final int MOST = Integer.MAX_VALUE;
    static final int LEAST = Integer.MIN_VALUE;

    static final Check check = new Check();

    /** Printers and tickets 1 of one side and 2 of two, all of media 0. */
    static PrintQueue pair() {
        PrintQueue q = new PrintQueue();
        q.printer(0, 1);
        q.printer(0, 2);
        q.ticket(0, 1, 0);
        q.ticket(0, 2, 0);
        return q;
    }

    static void state(PrintQueue q, int job, int kind, int pages, int copies, int parts) {
        check.due(kind, "state(" + job + ", 0)", () -> q.state(job, 0));
        check.due(pages, "state(" + job + ", 1)", () -> q.state(job, 1));
        check.due(copies, "state(" + job + ", 2)", () -> q.state(job, 2));
        check.due(parts, "state(" + job + ", 3)", () -> q.state(job, 3));
    }

    static void account(PrintQueue q, int ticket, int pages, int sheets, int changes, int doubled) {
        check.due(pages, "account(" + ticket + ", 0)", () -> q.account(ticket, 0));
        check.due(sheets, "account(" + ticket + ", 1)", () -> q.account(ticket, 1));
        check.due(changes, "account(" + ticket + ", 2)", () -> q.account(ticket, 2));
        check.due(doubled, "account(" + ticket + ", 3)", () -> q.account(ticket, 3));
    }

    static void takes(PrintQueue q, int printer, long t, int job) {
        check.due(job, "take(" + printer + ", " + t + ")", () -> q.take(printer, t));
    }

    static void prints(PrintQueue q, int printer, int pages, int out) {
        check.due(out, "print(" + printer + ", " + pages + ")", () -> q.print(printer, pages));
    }

    static void faults(PrintQueue q, int printer, int page) {
        check.due(page, "fault(" + printer + ")", () -> q.fault(printer));
    }

    static void holds(PrintQueue q, int job, boolean on, int before) {
        check.due(before, "hold(" + job + ", " + on + ")", () -> q.hold(job, on));
    }

    static void cancels(PrintQueue q, int job, int gone) {
        check.due(gone, "cancel(" + job + ")", () -> q.cancel(job));
    }

    static void splits(PrintQueue q, int job, int printer, int copies, int answer) {
        check.due(answer, "split(" + job + ", " + printer + ", " + copies + ")",
                () -> q.split(job, printer, copies));
    }

    static void reasons(PrintQueue q, int job, int why) {
        check.due(why, "reason(" + job + ")", () -> q.reason(job));
    }

    static void likes(PrintQueue q, int most, int before) {
        check.due(before, "like(" + most + ")", () -> q.like(most));
    }

    /** All doubled pages of a job, their count, and that there is none behind the last. */
    static void doubles(PrintQueue q, int job, int... pages) {
        check.due(pages.length, "doubled(" + job + ", -1)", () -> q.doubled(job, -1));
        for (int i = 0; i < pages.length; i++) {
            int n = i;
            check.due(pages[n], "doubled(" + job + ", " + n + ")", () -> q.doubled(job, n));
        }
        check.thrown(OUTSIDE, "doubled(" + job + ", " + pages.length + ")", () -> q.doubled(job, pages.length));
        check.thrown(OUTSIDE, "doubled(" + job + ", -2)", () -> q.doubled(job, -2));
    }
}
