/** One method a promise of the document: ordinary inputs, edges and wrong inputs. */
public final class PromiseTest extends Asking {
    public static void main(String[] args) {
        promise1();
        promise2();
        promise3();
        promise4();
        promise5Time();
        promise5Choice();
        promise5Likeness();
        promise6();
        promise7();
        promise8();
        promise9();
        promise10();
        promise11();
        promise12Sheets();
        promise12Changes();
        promise13();
        promise14();
        promise14Printed();
        promise15();
        mostDoubledPages();
        callsBeyondTheLimit();
        check.end();
    }

    private static void promise1() {
        check.topic("promise 1");
        PrintQueue q = new PrintQueue();
        check.thrown(NO_SUCH, "print(1, 0)", () -> q.print(1, 0));
        check.thrown(NO_SUCH, "account(1, 0)", () -> q.account(1, 0));
        check.thrown(NO_SUCH, "state(1, 0)", () -> q.state(1, 0));
        check.due(3, "like(3)", () -> q.like(3));
        check.due(1, "printer(0, 1)", () -> q.printer(0, 1));
        takes(q, 1, 0, 0);
        PrintQueue other = new PrintQueue();
        check.thrown(NO_SUCH, "print(1, 0) of another", () -> other.print(1, 0));
    }

    private static void promise2() {
        check.topic("promise 2");
        PrintQueue q = new PrintQueue();
        for (int media : new int[] {-1, 8, MOST, LEAST}) {
            check.thrown(BAD, "printer(" + media + ", 1)", () -> q.printer(media, 1));
        }
        for (int sides : new int[] {0, 3, -1, MOST, LEAST}) {
            check.thrown(BAD, "printer(0, " + sides + ")", () -> q.printer(0, sides));
        }
        for (int i = 0; i < 8; i++) {
            int n = i;
            check.due(n + 1, "printer " + n, () -> q.printer(n, 1 + n % 2));
        }
        check.thrown(FULL, "printer(7, 2)", () -> q.printer(7, 2));
        check.thrown(BAD, "printer(8, 2)", () -> q.printer(8, 2));
        check.thrown(BAD, "printer(0, 0)", () -> q.printer(0, 0));
        check.due(0, "print(8, 1)", () -> q.print(8, 1));
        check.thrown(NO_SUCH, "print(9, 1)", () -> q.print(9, 1));
    }

    private static void promise3() {
        check.topic("promise 3");
        PrintQueue q = new PrintQueue();
        for (int wrong : new int[] {-1, 8, MOST, LEAST}) {
            check.thrown(BAD, "ticket media " + wrong, () -> q.ticket(wrong, 1, 0));
            check.thrown(BAD, "ticket finish " + wrong, () -> q.ticket(0, 1, wrong));
        }
        check.thrown(BAD, "ticket finish 4", () -> q.ticket(0, 1, 4));
        for (int sides : new int[] {0, 3, -1, MOST, LEAST}) {
            check.thrown(BAD, "ticket sides " + sides, () -> q.ticket(0, sides, 0));
        }
        for (int i = 0; i < 20; i++) {
            int n = i;
            check.due(n + 1, "ticket " + n, () -> q.ticket(n % 8, 1 + n % 2, n % 4));
        }
        check.thrown(FULL, "ticket(7, 2, 3)", () -> q.ticket(7, 2, 3));
        check.thrown(BAD, "ticket(7, 2, 4)", () -> q.ticket(7, 2, 4));
        check.due(0, "account(20, 0)", () -> q.account(20, 0));
        check.thrown(NO_SUCH, "account(21, 0)", () -> q.account(21, 0));
    }

    private static void promise4() {
        check.topic("promise 4");
        PrintQueue q = pair();
        for (int none : new int[] {0, 3, -1, 21, MOST, LEAST}) {
            check.thrown(NO_SUCH, "job of ticket " + none, () -> q.job(none, 0, 0, 10, -1));
        }
        for (int pages : new int[] {0, 501, -1, MOST, LEAST}) {
            check.thrown(BAD, "job of pages " + pages, () -> q.job(1, pages, 1, 0, 0));
        }
        for (int copies : new int[] {0, 101, -1, MOST, LEAST}) {
            check.thrown(BAD, "job of copies " + copies, () -> q.job(1, 1, copies, 0, 0));
        }
        for (int rank : new int[] {-1, 10, MOST, LEAST}) {
            check.thrown(BAD, "job of rank " + rank, () -> q.job(1, 1, 1, rank, 0));
        }
        check.thrown(BAD, "job of t -1", () -> q.job(1, 1, 1, 0, -1));
        check.thrown(BAD, "job of the least t", () -> q.job(1, 1, 1, 0, Long.MIN_VALUE));
        check.due(1, "the greatest job", () -> q.job(2, 500, 100, 9, Long.MAX_VALUE));
        check.due(2, "the least job", () -> q.job(1, 1, 1, 0, 0));
        for (int i = 3; i <= 60; i++) {
            int n = i;
            check.due(n, "job " + n, () -> q.job(1, 1, 1, 0, 0));
        }
        check.thrown(FULL, "job 61", () -> q.job(1, 1, 1, 0, 0));
        check.thrown(BAD, "job 61 of no pages", () -> q.job(1, 0, 1, 0, 0));
        check.thrown(NO_SUCH, "job 61 of no ticket", () -> q.job(3, 1, 1, 0, 0));
        state(q, 60, 0, 0, 0, 1);
        check.thrown(NO_SUCH, "state(61, 0)", () -> q.state(61, 0));
        takes(q, 2, Long.MAX_VALUE, 1);
        prints(q, 2, 50000, 50000);
        state(q, 1, 2, 50000, 100, 1);
    }

    private static void promise5Time() {
        check.topic("promise 5, time");
        PrintQueue q = pair();
        q.job(1, 2, 1, 0, 10);
        for (int none : new int[] {0, 3, -1, 9, MOST, LEAST}) {
            check.thrown(NO_SUCH, "take of printer " + none, () -> q.take(none, -1));
        }
        check.thrown(BAD, "take(1, -1)", () -> q.take(1, -1));
        takes(q, 1, 9, 0);
        check.thrown(BAD, "take(1, 8)", () -> q.take(1, 8));
        takes(q, 1, 9, 0);
        takes(q, 1, 10, 1);
        check.thrown(BAD, "take(1, 9) with a part", () -> q.take(1, 9));
        check.thrown(BUSY, "take(1, 50)", () -> q.take(1, 50));
        // The call that threw has left the time where it was.
        takes(q, 2, 10, 0);
        prints(q, 1, 2, 2);
        takes(q, 1, 10, 0);
    }

    private static void promise5Choice() {
        check.topic("promise 5, choice");
        PrintQueue q = pair();
        q.job(1, 1, 1, 4, 5);
        q.job(1, 1, 1, 5, 7);
        q.job(1, 1, 1, 5, 6);
        q.job(1, 1, 1, 5, 6);
        q.job(2, 1, 1, 9, 0);
        q.job(1, 1, 1, 9, 100);
        q.job(1, 1, 1, 9, 0);
        q.hold(7, true);
        int[] order = {3, 4, 2, 1, 0};
        for (int job : order) {
            takes(q, 1, 10, job);
            prints(q, 1, 9, job == 0 ? 0 : 1);
        }
        takes(q, 2, 10, 5);
        q.hold(7, false);
        takes(q, 1, 10, 7);
        prints(q, 1, 1, 1);
        takes(q, 1, 100, 6);

        PrintQueue parts = pair();
        parts.job(1, 1, 3, 0, 0);
        parts.split(1, 2, 1);
        takes(parts, 2, 0, 1);
        prints(parts, 2, 9, 2);
        takes(parts, 1, 0, 0);
        takes(parts, 2, 0, 1);
        prints(parts, 2, 9, 1);
        state(parts, 1, 2, 3, 3, 2);
    }

    private static void promise5Likeness() {
        check.topic("promise 5, likeness");
        PrintQueue q = new PrintQueue();
        q.printer(3, 2);
        q.ticket(3, 1, 0);
        q.ticket(4, 1, 0);
        for (int i = 1; i <= 12; i++) {
            q.job(1 + i % 2, 1, 1, 5, i);
        }
        // Three of the media that is in, then the earliest; with the media changed the count begins anew.
        int[] order = {2, 4, 6, 1, 3, 5, 7, 8, 10, 12, 9, 11, 0};
        for (int job : order) {
            takes(q, 1, 50, job);
            prints(q, 1, 1, job == 0 ? 0 : 1);
        }
        account(q, 1, 6, 6, 1, 0);
        account(q, 2, 6, 6, 2, 0);

        PrintQueue ranks = new PrintQueue();
        ranks.printer(3, 1);
        ranks.ticket(3, 1, 0);
        ranks.ticket(4, 1, 0);
        ranks.job(1, 1, 1, 1, 0);
        ranks.job(2, 1, 1, 2, 0);
        takes(ranks, 1, 0, 2);
        account(ranks, 2, 0, 0, 1, 0);
    }

    private static void promise6() {
        check.topic("promise 6");
        PrintQueue q = pair();
        q.job(1, 3, 2, 0, 0);
        for (int none : new int[] {0, 3, -1, 9, MOST, LEAST}) {
            check.thrown(NO_SUCH, "print of printer " + none, () -> q.print(none, -1));
        }
        for (int pages : new int[] {-1, 50001, MOST, LEAST}) {
            check.thrown(BAD, "print of pages " + pages, () -> q.print(1, pages));
        }
        prints(q, 1, 50000, 0);
        takes(q, 1, 0, 1);
        for (int pages : new int[] {-1, 50001, MOST, LEAST}) {
            check.thrown(BAD, "print of pages " + pages, () -> q.print(1, pages));
        }
        prints(q, 1, 0, 0);
        state(q, 1, 1, 0, 0, 1);
        prints(q, 1, 1, 1);
        prints(q, 1, 3, 3);
        state(q, 1, 1, 4, 1, 1);
        prints(q, 1, 2, 2);
        state(q, 1, 2, 6, 2, 1);
        prints(q, 1, 1, 0);
        takes(q, 1, 0, 0);
        q.job(2, 500, 100, 0, 0);
        takes(q, 2, 0, 2);
        prints(q, 2, 49999, 49999);
        prints(q, 2, 50000, 1);
        state(q, 2, 2, 50000, 100, 1);
    }

    private static void promise7() {
        check.topic("promise 7");
        PrintQueue q = pair();
        q.job(1, 3, 3, 0, 0);
        for (int none : new int[] {0, 3, -1, 9, MOST, LEAST}) {
            check.thrown(NO_SUCH, "fault of printer " + none, () -> q.fault(none));
        }
        faults(q, 1, 0);
        takes(q, 1, 0, 1);
        faults(q, 1, 1);
        faults(q, 1, 0);
        state(q, 1, 0, 0, 0, 1);
        takes(q, 2, 0, 1);
        prints(q, 2, 5, 5);
        faults(q, 2, 2);
        state(q, 1, 0, 4, 1, 1);
        // A fault straight behind the taking doubles the last page that counts once more.
        takes(q, 1, 0, 1);
        faults(q, 1, 1);
        state(q, 1, 0, 3, 1, 1);
        takes(q, 1, 0, 1);
        faults(q, 1, 1);
        state(q, 1, 0, 3, 1, 1);
        takes(q, 1, 0, 1);
        prints(q, 1, 3, 3);
        faults(q, 1, 1);
        state(q, 1, 0, 6, 2, 1);
        takes(q, 1, 0, 1);
        prints(q, 1, 50, 3);
        faults(q, 1, 0);
        account(q, 1, 11, 11, 0, 2);
    }

    private static void promise8() {
        check.topic("promise 8");
        PrintQueue q = pair();
        q.job(1, 2, 2, 0, 0);
        for (int none : new int[] {0, 2, -1, 61, MOST, LEAST}) {
            check.thrown(NO_SUCH, "hold of job " + none, () -> q.hold(none, true));
        }
        check.due(0, "hold(1, false)", () -> q.hold(1, false));
        check.due(0, "hold(1, true)", () -> q.hold(1, true));
        check.due(1, "hold(1, true)", () -> q.hold(1, true));
        check.due(1, "state(1, 4)", () -> q.state(1, 4));
        takes(q, 1, 0, 0);
        check.due(1, "hold(1, false)", () -> q.hold(1, false));
        takes(q, 1, 0, 1);
        check.due(0, "hold(1, true)", () -> q.hold(1, true));
        prints(q, 1, 3, 3);
        faults(q, 1, 1);
        takes(q, 1, 0, 0);
        check.due(1, "hold(1, false)", () -> q.hold(1, false));
        takes(q, 1, 0, 1);
        prints(q, 1, 9, 2);
        check.due(0, "hold(1, true) of a done job", () -> q.hold(1, true));
        check.due(1, "state(1, 4)", () -> q.state(1, 4));
        check.due(2, "state(1, 0)", () -> q.state(1, 0));
    }

    private static void promise9() {
        check.topic("promise 9");
        PrintQueue q = pair();
        for (int none : new int[] {0, 1, -1, 61, MOST, LEAST}) {
            check.thrown(NO_SUCH, "cancel of job " + none, () -> q.cancel(none));
        }
        q.job(1, 2, 9, 0, 0);
        q.split(1, 2, 2);
        q.split(1, 2, 3);
        q.split(1, 1, 1);
        takes(q, 1, 0, 1);
        prints(q, 1, 6, 6);
        takes(q, 1, 0, 1);
        prints(q, 1, 1, 1);
        takes(q, 2, 0, 1);
        prints(q, 2, 3, 3);
        // One part is over, two are at printers and one waits: three go.
        check.due(3, "cancel(1)", () -> q.cancel(1));
        check.due(0, "cancel(1)", () -> q.cancel(1));
        state(q, 1, 3, 10, 4, 4);
        prints(q, 1, 1, 0);
        faults(q, 2, 0);
        takes(q, 1, 0, 0);
        takes(q, 2, 0, 0);
        check.due(0, "reason(1)", () -> q.reason(1));
        check.due(0, "split(1, 1, 1)", () -> q.split(1, 1, 1));

        q.job(1, 1, 1, 0, 0);
        q.job(1, 1, 1, 0, 0);
        q.job(1, 1, 1, 0, 0);
        takes(q, 1, 0, 2);
        takes(q, 2, 0, 3);
        check.due(1, "cancel(4), which waits", () -> q.cancel(4));
        check.due(1, "cancel(2)", () -> q.cancel(2));
        prints(q, 2, 1, 1);
        check.due(0, "cancel(3), which is done", () -> q.cancel(3));
        check.due(2, "state(3, 0)", () -> q.state(3, 0));
        check.due(3, "state(4, 0)", () -> q.state(4, 0));
    }

    private static void promise10() {
        check.topic("promise 10");
        PrintQueue q = pair();
        q.job(1, 2, 3, 0, 0);
        for (int none : new int[] {0, 2, -1, 61, MOST, LEAST}) {
            check.thrown(NO_SUCH, "state of job " + none, () -> q.state(none, -1));
        }
        for (int what : new int[] {-1, 5, MOST, LEAST}) {
            check.thrown(OUTSIDE, "state of " + what, () -> q.state(1, what));
        }
        state(q, 1, 0, 0, 0, 1);
        check.due(0, "state(1, 4)", () -> q.state(1, 4));
        q.split(1, 2, 1);
        takes(q, 2, 0, 1);
        takes(q, 1, 0, 0);
        state(q, 1, 1, 0, 0, 2);
        prints(q, 2, 3, 3);
        state(q, 1, 1, 3, 1, 2);
        prints(q, 2, 1, 1);
        state(q, 1, 0, 4, 2, 2);
        takes(q, 2, 0, 1);
        prints(q, 2, 1, 1);
        state(q, 1, 1, 5, 2, 2);
        prints(q, 2, 1, 1);
        state(q, 1, 2, 6, 3, 2);
    }

    private static void promise11() {
        check.topic("promise 11");
        PrintQueue q = pair();
        q.job(1, 500, 100, 1, 0);
        q.job(1, 2, 4, 0, 0);
        for (int none : new int[] {0, 3, -1, 61, MOST, LEAST}) {
            check.thrown(NO_SUCH, "doubled of job " + none, () -> q.doubled(none, -2));
        }
        check.due(0, "doubled(1, -1)", () -> q.doubled(1, -1));
        check.thrown(OUTSIDE, "doubled(1, 0)", () -> q.doubled(1, 0));
        q.split(2, 2, 2);
        takes(q, 1, 0, 1);
        prints(q, 1, 49999, 49999);
        faults(q, 1, 499);
        q.hold(1, true);
        takes(q, 1, 0, 2);
        takes(q, 2, 0, 2);
        prints(q, 2, 3, 3);
        // The part's own copies are counted, not those of the job.
        faults(q, 2, 1);
        prints(q, 1, 1, 1);
        faults(q, 1, 1);
        q.cancel(2);
        check.due(1, "doubled(1, -1)", () -> q.doubled(1, -1));
        check.due(100499, "doubled(1, 0)", () -> q.doubled(1, 0));
        check.due(2, "doubled(2, -1)", () -> q.doubled(2, -1));
        check.due(2001, "doubled(2, 0)", () -> q.doubled(2, 0));
        check.due(1001, "doubled(2, 1)", () -> q.doubled(2, 1));
        for (int i : new int[] {-2, 2, MOST, LEAST}) {
            check.thrown(OUTSIDE, "doubled(2, " + i + ")", () -> q.doubled(2, i));
        }
    }

    private static void promise12Sheets() {
        check.topic("promise 12, sheets");
        PrintQueue q = pair();
        for (int none : new int[] {0, 3, -1, 21, MOST, LEAST}) {
            check.thrown(NO_SUCH, "account of ticket " + none, () -> q.account(none, -1));
        }
        for (int what : new int[] {-1, 4, MOST, LEAST}) {
            check.thrown(OUTSIDE, "account of " + what, () -> q.account(1, what));
        }
        account(q, 2, 0, 0, 0, 0);
        q.job(2, 5, 2, 0, 0);
        takes(q, 2, 0, 1);
        prints(q, 2, 1, 1);
        account(q, 2, 1, 1, 0, 0);
        prints(q, 2, 1, 1);
        account(q, 2, 2, 1, 0, 0);
        // Page 2 comes out once more, behind a fault, on a sheet of its own; printing none before changes nothing.
        faults(q, 2, 2);
        takes(q, 2, 0, 1);
        prints(q, 2, 0, 0);
        account(q, 2, 2, 1, 0, 1);
        prints(q, 2, 1, 1);
        account(q, 2, 3, 2, 0, 1);
        prints(q, 2, 2, 2);
        account(q, 2, 5, 3, 0, 1);
        // Pages 5 | 1 2 | 3.
        prints(q, 2, 4, 4);
        account(q, 2, 9, 6, 0, 1);
        faults(q, 2, 3);
        takes(q, 2, 0, 1);
        prints(q, 2, 9, 3);
        account(q, 2, 12, 8, 0, 2);
        account(q, 1, 0, 0, 0, 0);
        q.job(1, 4, 2, 0, 0);
        takes(q, 2, 0, 2);
        prints(q, 2, 9, 8);
        account(q, 1, 8, 8, 0, 0);
    }

    private static void promise12Changes() {
        check.topic("promise 12, changes");
        PrintQueue q = new PrintQueue();
        q.printer(0, 1);
        q.ticket(0, 1, 0);
        q.ticket(7, 1, 0);
        q.job(2, 2, 1, 9, 0);
        q.job(1, 2, 1, 0, 0);
        takes(q, 1, 0, 1);
        prints(q, 1, 1, 1);
        faults(q, 1, 1);
        takes(q, 1, 0, 1);
        account(q, 2, 1, 1, 1, 1);
        prints(q, 1, 9, 2);
        takes(q, 1, 0, 2);
        q.cancel(2);
        account(q, 1, 0, 0, 1, 0);
        account(q, 2, 3, 3, 1, 1);
    }

    private static void promise13() {
        check.topic("promise 13");
        PrintQueue q = new PrintQueue();
        q.ticket(0, 1, 0);
        q.ticket(0, 2, 0);
        for (int none : new int[] {0, 1, -1, 61, MOST, LEAST}) {
            check.thrown(NO_SUCH, "reason of job " + none, () -> q.reason(none));
        }
        q.job(2, 1, 3, 0, 5);
        check.due(2, "reason(1)", () -> q.reason(1));
        q.hold(1, true);
        check.due(1, "reason(1)", () -> q.reason(1));
        q.hold(1, false);
        q.printer(0, 1);
        takes(q, 1, 5, 0);
        check.due(3, "reason(1)", () -> q.reason(1));
        q.printer(0, 2);
        check.due(5, "reason(1)", () -> q.reason(1));
        q.job(1, 1, 1, 9, 0);
        check.due(5, "reason(2)", () -> q.reason(2));
        takes(q, 2, 5, 2);
        check.due(0, "reason(2)", () -> q.reason(2));
        check.due(4, "reason(1)", () -> q.reason(1));
        q.hold(2, true);
        check.due(0, "reason(2), held with no part that waits", () -> q.reason(2));
        prints(q, 2, 1, 1);
        check.due(0, "reason(2)", () -> q.reason(2));
        check.due(5, "reason(1)", () -> q.reason(1));
        // The part for printer 1 fits nobody, the other one is at printer 2.
        q.split(1, 1, 1);
        check.due(5, "reason(1)", () -> q.reason(1));
        takes(q, 2, 5, 1);
        check.due(3, "reason(1)", () -> q.reason(1));
        q.cancel(1);
        check.due(0, "reason(1)", () -> q.reason(1));
    }

    private static void promise14() {
        check.topic("promise 14");
        PrintQueue q = pair();
        q.job(1, 2, 5, 0, 0);
        for (int none : new int[] {0, 2, -1, 61, MOST, LEAST}) {
            check.thrown(NO_SUCH, "split of job " + none, () -> q.split(none, 1, 1));
            check.thrown(NO_SUCH, "split of job " + none, () -> q.split(none, 9, 0));
        }
        for (int none : new int[] {0, 3, -1, 9, MOST, LEAST}) {
            check.thrown(NO_SUCH, "split for printer " + none, () -> q.split(1, none, 0));
        }
        for (int copies : new int[] {0, -1, LEAST, 5, 6, MOST}) {
            check.due(0, "split of copies " + copies, () -> q.split(1, 1, copies));
        }
        state(q, 1, 0, 0, 0, 1);
        check.due(1, "split(1, 2, 4)", () -> q.split(1, 2, 4));
        check.due(0, "split(1, 2, 1)", () -> q.split(1, 2, 1));
        state(q, 1, 0, 0, 0, 2);
        takes(q, 1, 0, 1);
        prints(q, 1, 50, 2);
        takes(q, 1, 0, 0);
        takes(q, 2, 0, 1);
        prints(q, 2, 50, 8);
        state(q, 1, 2, 10, 5, 2);
        check.due(0, "split of a done job", () -> q.split(1, 2, 1));
        q.job(2, 1, 2, 0, 99);
        q.hold(2, true);
        check.due(1, "split of a held job for a printer of one side", () -> q.split(2, 1, 1));
        state(q, 2, 0, 0, 0, 2);
    }

    private static void promise14Printed() {
        check.topic("promise 14, printed copies");
        PrintQueue q = pair();
        q.job(1, 2, 5, 0, 0);
        takes(q, 1, 0, 1);
        check.due(0, "split of a part at a printer", () -> q.split(1, 2, 1));
        prints(q, 1, 4, 4);
        faults(q, 1, 1);
        check.due(0, "split(1, 2, 3)", () -> q.split(1, 2, 3));
        takes(q, 1, 0, 1);
        prints(q, 1, 1, 1);
        // The begun copy's only page is doubled, so no page of it counts as printed.
        faults(q, 1, 1);
        check.due(0, "split(1, 2, 3)", () -> q.split(1, 2, 3));
        check.due(1, "split(1, 2, 1)", () -> q.split(1, 2, 1));
        takes(q, 1, 0, 1);
        prints(q, 1, 50, 4);

        PrintQueue begun = new PrintQueue();
        begun.printer(0, 1);
        begun.ticket(0, 1, 0);
        begun.job(1, 3, 5, 0, 0);
        takes(begun, 1, 0, 1);
        prints(begun, 1, 5, 5);
        faults(begun, 1, 2);
        check.due(0, "split(1, 1, 3)", () -> begun.split(1, 1, 3));
        check.due(1, "split(1, 1, 2)", () -> begun.split(1, 1, 2));
        check.due(0, "split(1, 1, 1)", () -> begun.split(1, 1, 1));
        takes(begun, 1, 0, 1);
        prints(begun, 1, 50, 5);
        takes(begun, 1, 0, 1);
        prints(begun, 1, 50, 6);
        state(begun, 1, 2, 15, 5, 2);
    }

    private static void promise15() {
        check.topic("promise 15");
        PrintQueue q = new PrintQueue();
        for (int most : new int[] {-1, 101, MOST, LEAST}) {
            check.thrown(BAD, "like(" + most + ")", () -> q.like(most));
        }
        check.due(3, "like(0)", () -> q.like(0));
        check.due(0, "like(100)", () -> q.like(100));
        check.due(100, "like(0)", () -> q.like(0));
        q.printer(1, 1);
        q.ticket(0, 1, 0);
        q.ticket(1, 1, 0);
        q.job(1, 1, 1, 0, 0);
        q.job(2, 1, 1, 0, 1);
        q.job(1, 1, 1, 0, 2);
        // With bound 0 the media that is in counts for nothing.
        takes(q, 1, 9, 1);
        prints(q, 1, 1, 1);
        check.due(0, "like(1)", () -> q.like(1));
        takes(q, 1, 9, 3);
        prints(q, 1, 1, 1);
        takes(q, 1, 9, 2);
    }

    /** As many doubled pages as 512 calls can make and tell. */
    private static void mostDoubledPages() {
        check.topic("most doubled pages");
        PrintQueue q = new PrintQueue();
        q.printer(0, 1);
        q.ticket(0, 1, 0);
        q.job(1, 500, 1, 0, 0);
        takes(q, 1, 0, 1);
        prints(q, 1, 499, 499);
        faults(q, 1, 499);
        for (int i = 1; i < 253; i++) {
            takes(q, 1, 0, 1);
            faults(q, 1, 499 - i);
        }
        check.due(253, "doubled(1, -1)", () -> q.doubled(1, -1));
        check.due(1499, "doubled(1, 0)", () -> q.doubled(1, 0));
        check.due(1247, "doubled(1, 252)", () -> q.doubled(1, 252));
        check.thrown(OUTSIDE, "doubled(1, 253)", () -> q.doubled(1, 253));
    }

    /** What they answer is free, but nothing undocumented may be thrown. */
    private static void callsBeyondTheLimit() {
        check.topic("beyond 512 calls");
        PrintQueue q = pair();
        q.job(1, 2, 1, 0, 0);
        for (int i = 0; i < 2000; i++) {
            takes(q, 1, i, 1);
            prints(q, 1, 1, 1);
            faults(q, 1, 1);
        }
        check.thrown(OUTSIDE, "doubled(1, 2000)", () -> q.doubled(1, 2000));
    }
}
