/** A method a sentence of the document that names a boundary, with calls on both sides of it. */
public final class BoundaryTest extends Asking {
    public static void main(String[] args) {
        promise1();
        promise2();
        promise3();
        promise4();
        promise5Time();
        promise5MayBeTaken();
        promise5Fits();
        promise5Choice();
        promise5Likeness();
        promise6();
        promise7();
        promise8();
        promise9();
        promise10();
        promise11();
        promise12();
        promise13();
        promise14();
        promise15();
        check.end();
    }

    private static void promise1() {
        newObjectHasNothing();
        newObjectsBoundIsThree();
    }

    private static void promise2() {
        mediaOfAPrinter();
        sidesOfAPrinter();
        eightPrinters();
    }

    private static void promise3() {
        mediaOfATicket();
        sidesOfATicket();
        finishOfATicket();
        twentyTickets();
    }

    private static void promise4() {
        ticketOfAJob();
        pagesOfAJob();
        copiesOfAJob();
        rankOfAJob();
        timeOfAJob();
        sixtyJobs();
        oneFirstPartOfAllCopies();
    }

    private static void promise5Time() {
        timeIsZeroAtFirst();
        timeNeverGoesBack();
        takingNothingMovesTheTime();
        printerWithAPartTakesNone();
    }

    private static void promise5MayBeTaken() {
        onlyPartsThatWait();
        onlyJobsThatAreNotHeld();
        onlyTimesThatHaveCome();
    }

    private static void promise5Fits() {
        asManySides();
        theOneAlone();
    }

    private static void promise5Choice() {
        greatestRank();
        rankOfThoseThatMayBeTaken();
        earliestTime();
        leastJob();
        leastPart();
    }

    private static void promise5Likeness() {
        likeNumberBelowTheBound();
        noneOfTheMediaThatIsIn();
        likeNumberGrowsByEachTaking();
        likeNumberIsZeroBehindAChange();
        likeNumberIsThePrinters();
        likeNumberChangesByTakingsAlone();
        mediaStaysIn();
    }

    private static void promise6() {
        pagesOfACall();
        allThatAreLeft();
        copyByCopy();
        noPartToPrint();
    }

    private static void promise7() {
        noPartToFault();
        pagesOfTheBegunCopy();
        copiesOfOnePage();
        partGoesOnElsewhere();
    }

    private static void promise8() {
        whatItWas();
        partsAtPrintersGoOn();
        heldWhenDoneOrCancelled();
    }

    private static void promise9() {
        partsThatAreNotOver();
        doneOrCancelledAlready();
        printersOfOtherJobsGoOn();
    }

    private static void promise10() {
        whatOfAState();
        waitsOrPrints();
        doneWithTheLastPart();
        countsWithoutDoubledPages();
    }

    private static void promise11() {
        indexOfADoubledPage();
        doubledPagesByJobs();
        copyOfAPart();
    }

    private static void promise12() {
        whatOfAnAccount();
        sheetsOfOneSide();
        sheetsOfTwoSides();
        firstSheetBehindATaking();
        firstSheetAtAnotherPrinter();
        changesOfATicket();
    }

    private static void promise13() {
        reasonNoneWaits();
        reasonHeldBeforeTime();
        reasonTimeBeforePrinters();
        reasonNoPrinterFits();
        reasonAllThatFitHaveParts();
        reasonOfAnyPartThatWaits();
        reasonOfSeveralPartsThatWait();
        reasonWithAPartAtAPrinter();
        reasonAsksForNoMedia();
    }

    private static void promise14() {
        copiesBelowOne();
        asManyAndOneMore();
        printedCopiesStay();
        doubledOnlyPage();
        partsThatCannotBeSplit();
        jobAndPrinterOfASplit();
    }

    private static void promise15() {
        rangeOfTheBound();
        boundHoldsAtOnce();
        widestBound();
    }

    private static void begin(int promise, String sentence) {
        check.topic("promise " + promise + ", \"" + sentence + "\"");
    }

    /** A printer of media 0; tickets 1 of media 0 and 2 of media 1; all of one side. */
    private static PrintQueue twoMedia() {
        PrintQueue q = new PrintQueue();
        q.printer(0, 1);
        q.ticket(0, 1, 0);
        q.ticket(1, 1, 0);
        return q;
    }

    private static void takesAndPrints(PrintQueue q, int printer, long t, int job) {
        takes(q, printer, t, job);
        prints(q, printer, 50000, 1);
    }

    private static void newObjectHasNothing() {
        begin(1, "No printers, tickets, jobs");
        PrintQueue q = new PrintQueue();
        check.thrown(NO_SUCH, "take(1, 0)", () -> q.take(1, 0));
        check.thrown(NO_SUCH, "fault(1)", () -> q.fault(1));
        check.thrown(NO_SUCH, "job(1, 1, 1, 0, 0)", () -> q.job(1, 1, 1, 0, 0));
        check.thrown(NO_SUCH, "account(1, 0)", () -> q.account(1, 0));
        check.thrown(NO_SUCH, "state(1, 0)", () -> q.state(1, 0));
        check.thrown(NO_SUCH, "reason(1)", () -> q.reason(1));
        check.due(1, "printer(0, 1)", () -> q.printer(0, 1));
        check.due(1, "ticket(0, 1, 0)", () -> q.ticket(0, 1, 0));
        check.due(1, "job(1, 1, 1, 0, 0)", () -> q.job(1, 1, 1, 0, 0));
        account(q, 1, 0, 0, 0, 0);
        state(q, 1, 0, 0, 0, 1);
        check.due(0, "state(1, 4)", () -> q.state(1, 4));
        doubles(q, 1);
    }

    private static void newObjectsBoundIsThree() {
        begin(1, "the bound of likeness is 3");
        PrintQueue q = twoMedia();
        q.job(2, 1, 1, 0, 0);
        for (int i = 0; i < 4; i++) {
            q.job(1, 1, 1, 0, 1);
        }
        for (int job : new int[] {2, 3, 4, 1, 5}) {
            takesAndPrints(q, 1, 1, job);
        }
        likes(new PrintQueue(), 0, 3);
    }

    private static void mediaOfAPrinter() {
        begin(2, "the MEDIA that is in (0 .. 7)");
        PrintQueue q = new PrintQueue();
        check.thrown(BAD, "printer(-1, 1)", () -> q.printer(-1, 1));
        check.due(1, "printer(0, 1)", () -> q.printer(0, 1));
        check.due(2, "printer(7, 1)", () -> q.printer(7, 1));
        check.thrown(BAD, "printer(8, 1)", () -> q.printer(8, 1));
        check.due(3, "printer(3, 1)", () -> q.printer(3, 1));
    }

    private static void sidesOfAPrinter() {
        begin(2, "SIDES (1, or 2: it can print on both)");
        PrintQueue q = new PrintQueue();
        check.thrown(BAD, "printer(0, 0)", () -> q.printer(0, 0));
        check.due(1, "printer(0, 1)", () -> q.printer(0, 1));
        check.due(2, "printer(0, 2)", () -> q.printer(0, 2));
        check.thrown(BAD, "printer(0, 3)", () -> q.printer(0, 3));
        check.due(3, "printer(0, 2)", () -> q.printer(0, 2));
    }

    private static void eightPrinters() {
        begin(2, "UnsupportedOperationException when there are 8");
        PrintQueue q = new PrintQueue();
        for (int i = 1; i <= 7; i++) {
            q.printer(0, 1);
        }
        check.thrown(NO_SUCH, "take(8, 0) of 7 printers", () -> q.take(8, 0));
        check.due(8, "printer 8", () -> q.printer(0, 1));
        takes(q, 8, 0, 0);
        check.thrown(FULL, "printer 9", () -> q.printer(0, 1));
        check.thrown(BAD, "printer 9 of media 8", () -> q.printer(8, 1));
        check.thrown(BAD, "printer 9 of sides 3", () -> q.printer(0, 3));
        check.thrown(NO_SUCH, "take(9, 0)", () -> q.take(9, 0));
        check.thrown(NO_SUCH, "take(0, 0)", () -> q.take(0, 0));
        q.ticket(0, 1, 0);
        q.job(1, 2, 2, 0, 0);
        splits(q, 1, 8, 1, 1);
        takes(q, 7, 0, 1);
        takes(q, 8, 0, 1);
        prints(q, 8, 1, 1);
        faults(q, 8, 1);
        doubles(q, 1, 1001);
    }

    private static void mediaOfATicket() {
        begin(3, "media (0 .. 7)");
        PrintQueue q = new PrintQueue();
        check.thrown(BAD, "ticket(-1, 1, 0)", () -> q.ticket(-1, 1, 0));
        check.due(1, "ticket(0, 1, 0)", () -> q.ticket(0, 1, 0));
        check.due(2, "ticket(7, 1, 0)", () -> q.ticket(7, 1, 0));
        check.thrown(BAD, "ticket(8, 1, 0)", () -> q.ticket(8, 1, 0));
        check.due(3, "ticket(3, 1, 0)", () -> q.ticket(3, 1, 0));
    }

    private static void sidesOfATicket() {
        begin(3, "sides (1, 2)");
        PrintQueue q = new PrintQueue();
        check.thrown(BAD, "ticket(0, 0, 0)", () -> q.ticket(0, 0, 0));
        check.due(1, "ticket(0, 1, 0)", () -> q.ticket(0, 1, 0));
        check.due(2, "ticket(0, 2, 0)", () -> q.ticket(0, 2, 0));
        check.thrown(BAD, "ticket(0, 3, 0)", () -> q.ticket(0, 3, 0));
        check.due(3, "ticket(0, 2, 0)", () -> q.ticket(0, 2, 0));
    }

    private static void finishOfATicket() {
        begin(3, "finish (0 .. 3)");
        PrintQueue q = new PrintQueue();
        check.thrown(BAD, "ticket(0, 1, -1)", () -> q.ticket(0, 1, -1));
        check.due(1, "ticket(0, 1, 0)", () -> q.ticket(0, 1, 0));
        check.due(2, "ticket(0, 1, 3)", () -> q.ticket(0, 1, 3));
        check.thrown(BAD, "ticket(0, 1, 4)", () -> q.ticket(0, 1, 4));
        check.due(3, "ticket(0, 1, 1)", () -> q.ticket(0, 1, 1));
    }

    private static void twentyTickets() {
        begin(3, "UnsupportedOperationException when there are 20");
        PrintQueue q = new PrintQueue();
        for (int i = 1; i <= 19; i++) {
            q.ticket(0, 1, 0);
        }
        check.thrown(NO_SUCH, "account(20, 0) of 19 tickets", () -> q.account(20, 0));
        check.due(20, "ticket 20", () -> q.ticket(1, 1, 0));
        account(q, 20, 0, 0, 0, 0);
        check.thrown(FULL, "ticket 21", () -> q.ticket(0, 1, 0));
        check.thrown(BAD, "ticket 21 of media 8", () -> q.ticket(8, 1, 0));
        check.thrown(BAD, "ticket 21 of sides 0", () -> q.ticket(0, 0, 0));
        check.thrown(BAD, "ticket 21 of finish 4", () -> q.ticket(0, 1, 4));
        check.thrown(NO_SUCH, "account(21, 0)", () -> q.account(21, 0));
        check.thrown(NO_SUCH, "account(0, 0)", () -> q.account(0, 0));
        q.printer(0, 1);
        q.job(20, 1, 1, 0, 0);
        takesAndPrints(q, 1, 0, 1);
        account(q, 20, 1, 1, 1, 0);
        account(q, 19, 0, 0, 0, 0);
    }

    private static void ticketOfAJob() {
        begin(4, "NoSuchElementException: there is no such ticket");
        PrintQueue q = twoMedia();
        check.thrown(NO_SUCH, "job of ticket 0", () -> q.job(0, 1, 1, 0, 0));
        check.due(1, "job of ticket 1", () -> q.job(1, 1, 1, 0, 0));
        check.due(2, "job of ticket 2", () -> q.job(2, 1, 1, 0, 0));
        check.thrown(NO_SUCH, "job of ticket 3", () -> q.job(3, 1, 1, 0, 0));
        check.thrown(NO_SUCH, "job of ticket 3 and no pages", () -> q.job(3, 0, 1, 0, 0));
    }

    private static void pagesOfAJob() {
        begin(4, "pages are not 1 .. 500");
        PrintQueue q = twoMedia();
        check.thrown(BAD, "job of pages 0", () -> q.job(1, 0, 1, 0, 0));
        check.due(1, "job of pages 1", () -> q.job(1, 1, 1, 0, 0));
        check.due(2, "job of pages 500", () -> q.job(1, 500, 1, 0, 0));
        check.thrown(BAD, "job of pages 501", () -> q.job(1, 501, 1, 0, 0));
        takes(q, 1, 0, 1);
        prints(q, 1, 50000, 1);
        takes(q, 1, 0, 2);
        prints(q, 1, 50000, 500);
    }

    private static void copiesOfAJob() {
        begin(4, "copies 1 .. 100");
        PrintQueue q = twoMedia();
        check.thrown(BAD, "job of copies 0", () -> q.job(1, 1, 0, 0, 0));
        check.due(1, "job of copies 1", () -> q.job(1, 1, 1, 0, 0));
        check.due(2, "job of copies 100", () -> q.job(1, 1, 100, 0, 0));
        check.thrown(BAD, "job of copies 101", () -> q.job(1, 1, 101, 0, 0));
        takes(q, 1, 0, 1);
        prints(q, 1, 50000, 1);
        takes(q, 1, 0, 2);
        prints(q, 1, 50000, 100);
    }

    private static void rankOfAJob() {
        begin(4, "rank 0 .. 9");
        PrintQueue q = twoMedia();
        check.thrown(BAD, "job of rank -1", () -> q.job(1, 1, 1, -1, 0));
        check.due(1, "job of rank 0", () -> q.job(1, 1, 1, 0, 0));
        check.due(2, "job of rank 9", () -> q.job(1, 1, 1, 9, 0));
        check.thrown(BAD, "job of rank 10", () -> q.job(1, 1, 1, 10, 0));
        takes(q, 1, 0, 2);
    }

    private static void timeOfAJob() {
        begin(4, "t is below 0");
        PrintQueue q = twoMedia();
        check.thrown(BAD, "job of t -1", () -> q.job(1, 1, 1, 0, -1));
        check.due(1, "job of t 0", () -> q.job(1, 1, 1, 0, 0));
        takesAndPrints(q, 1, 100, 1);
        // Only a taking is bound to the time that it is: a job's time may lie before it.
        check.due(2, "job of t 0, at 100", () -> q.job(1, 1, 1, 0, 0));
        check.due(3, "job of the greatest t", () -> q.job(1, 1, 1, 0, Long.MAX_VALUE));
        takesAndPrints(q, 1, 100, 2);
        takes(q, 1, Long.MAX_VALUE - 1, 0);
        takes(q, 1, Long.MAX_VALUE, 3);
    }

    private static void sixtyJobs() {
        begin(4, "UnsupportedOperationException when there are 60");
        PrintQueue q = twoMedia();
        for (int i = 1; i <= 59; i++) {
            q.job(1, 2, 2, 0, 0);
        }
        check.thrown(NO_SUCH, "state(60, 0) of 59 jobs", () -> q.state(60, 0));
        check.due(60, "job 60", () -> q.job(2, 2, 2, 1, 0));
        check.thrown(FULL, "job 61", () -> q.job(1, 2, 2, 0, 0));
        check.thrown(BAD, "job 61 of pages 501", () -> q.job(1, 501, 1, 0, 0));
        check.thrown(BAD, "job 61 of t -1", () -> q.job(1, 1, 1, 0, -1));
        check.thrown(NO_SUCH, "job 61 of ticket 3", () -> q.job(3, 1, 1, 0, 0));
        check.thrown(NO_SUCH, "state(61, 0)", () -> q.state(61, 0));
        check.thrown(NO_SUCH, "state(0, 0)", () -> q.state(0, 0));
        cancels(q, 1, 1);
        check.thrown(FULL, "job 61 behind a cancelled one", () -> q.job(1, 2, 2, 0, 0));
        splits(q, 60, 1, 1, 1);
        takes(q, 1, 0, 60);
        prints(q, 1, 1, 1);
        faults(q, 1, 1);
        doubles(q, 60, 1001);
        reasons(q, 60, 5);
        holds(q, 60, true, 0);
        holds(q, 60, false, 1);
        cancels(q, 60, 2);
        state(q, 60, 3, 0, 0, 2);
        state(q, 59, 0, 0, 0, 1);
    }

    private static void oneFirstPartOfAllCopies() {
        begin(4, "At first a job has one part of all copies, for any");
        for (int printer = 1; printer <= 2; printer++) {
            PrintQueue q = pair();
            q.job(1, 1, 7, 0, 0);
            check.due(1, "state(1, 3)", () -> q.state(1, 3));
            takes(q, printer, 0, 1);
            takes(q, 3 - printer, 0, 0);
            prints(q, printer, 50000, 7);
            state(q, 1, 2, 7, 7, 1);
        }
    }

    private static void timeIsZeroAtFirst() {
        begin(5, "THE TIME never goes back (at first 0)");
        PrintQueue q = twoMedia();
        q.job(1, 1, 1, 0, 1);
        reasons(q, 1, 2);
        check.thrown(BAD, "take(1, -1)", () -> q.take(1, -1));
        check.thrown(BAD, "take(1, the least)", () -> q.take(1, Long.MIN_VALUE));
        takes(q, 1, 0, 0);
    }

    private static void timeNeverGoesBack() {
        begin(5, "IllegalArgumentException when t is before now");
        PrintQueue q = twoMedia();
        takes(q, 1, 7, 0);
        check.thrown(BAD, "take(1, 6)", () -> q.take(1, 6));
        takes(q, 1, 7, 0);
        takes(q, 1, 8, 0);
        check.thrown(BAD, "take(1, 7)", () -> q.take(1, 7));
        check.thrown(NO_SUCH, "take(2, 7)", () -> q.take(2, 7));
        takes(q, 1, Long.MAX_VALUE, 0);
        check.thrown(BAD, "take(1, the greatest but one)", () -> q.take(1, Long.MAX_VALUE - 1));
        check.thrown(BAD, "take(1, the least)", () -> q.take(1, Long.MIN_VALUE));
        takes(q, 1, Long.MAX_VALUE, 0);
    }

    private static void takingNothingMovesTheTime() {
        begin(5, "It is t now; .. 0 when there is none");
        PrintQueue q = twoMedia();
        q.job(1, 1, 1, 0, 6);
        takes(q, 1, 5, 0);
        reasons(q, 1, 2);
        q.hold(1, true);
        takes(q, 1, 6, 0);
        q.hold(1, false);
        reasons(q, 1, 5);
        check.thrown(BAD, "take(1, 5)", () -> q.take(1, 5));
        takes(q, 1, 6, 1);
    }

    private static void printerWithAPartTakesNone() {
        begin(5, "IllegalStateException when it has a part");
        PrintQueue q = pair();
        q.job(1, 2, 1, 0, 0);
        q.job(1, 2, 1, 0, 9);
        takes(q, 1, 3, 1);
        check.thrown(BUSY, "take(1, 3)", () -> q.take(1, 3));
        check.thrown(BUSY, "take(1, 9)", () -> q.take(1, 9));
        check.thrown(BAD, "take(1, 2)", () -> q.take(1, 2));
        reasons(q, 2, 2);
        takes(q, 2, 3, 0);
        prints(q, 1, 1, 1);
        check.thrown(BUSY, "take(1, 3) before the last page", () -> q.take(1, 3));
        prints(q, 1, 1, 1);
        takes(q, 1, 3, 0);
        takes(q, 1, 9, 2);
        faults(q, 1, 1);
        takes(q, 1, 9, 2);
        q.cancel(2);
        takes(q, 1, 9, 0);
    }

    private static void onlyPartsThatWait() {
        begin(5, "A part may be TAKEN by a printer, if it waits");
        PrintQueue q = pair();
        q.job(1, 2, 1, 0, 0);
        takes(q, 1, 0, 1);
        takes(q, 2, 0, 0);
        faults(q, 1, 1);
        takes(q, 2, 0, 1);
        takes(q, 1, 0, 0);
        prints(q, 2, 2, 2);
        takes(q, 1, 0, 0);
        takes(q, 2, 0, 0);
        q.job(1, 2, 1, 0, 0);
        q.cancel(2);
        takes(q, 1, 0, 0);
    }

    private static void onlyJobsThatAreNotHeld() {
        begin(5, "its job is not held");
        PrintQueue q = pair();
        q.job(1, 2, 2, 0, 0);
        q.split(1, 2, 1);
        q.hold(1, true);
        takes(q, 1, 0, 0);
        takes(q, 2, 0, 0);
        q.hold(1, false);
        takes(q, 1, 0, 1);
        takes(q, 2, 0, 1);
    }

    private static void onlyTimesThatHaveCome() {
        begin(5, "its time is not later than now");
        PrintQueue q = twoMedia();
        q.job(1, 1, 1, 0, 10);
        takes(q, 1, 9, 0);
        takesAndPrints(q, 1, 10, 1);
        q.job(1, 1, 1, 0, 11);
        takes(q, 1, 10, 0);
        q.job(1, 1, 1, 0, 9);
        takesAndPrints(q, 1, 10, 3);
        takesAndPrints(q, 1, 12, 2);
    }

    private static void asManySides() {
        begin(5, "it can print on as many sides as the ticket says");
        for (int printer = 1; printer <= 2; printer++) {
            for (int ticket = 1; ticket <= 2; ticket++) {
                PrintQueue q = new PrintQueue();
                q.printer(0, printer);
                q.ticket(0, ticket, 0);
                q.job(1, 1, 1, 0, 0);
                boolean fits = printer >= ticket;
                reasons(q, 1, fits ? 5 : 3);
                takes(q, 1, 0, fits ? 1 : 0);
            }
        }
    }

    private static void theOneAlone() {
        begin(5, "it is the one, if the part is for one alone");
        PrintQueue q = new PrintQueue();
        q.printer(0, 2);
        q.printer(0, 2);
        q.printer(0, 2);
        q.ticket(0, 1, 0);
        q.job(1, 2, 3, 0, 0);
        splits(q, 1, 2, 2, 1);
        takes(q, 3, 0, 1);
        takes(q, 1, 0, 0);
        takes(q, 2, 0, 1);
        prints(q, 2, 50000, 4);
        prints(q, 3, 50000, 2);
        q.job(1, 2, 3, 0, 0);
        splits(q, 2, 2, 2, 1);
        takes(q, 1, 0, 2);
        takes(q, 2, 0, 2);
        prints(q, 2, 1, 1);
        // The part is for the one alone also behind its fault.
        faults(q, 2, 1);
        takes(q, 3, 0, 0);
        takes(q, 2, 0, 2);
    }

    private static void greatestRank() {
        begin(5, "of those that may be taken only those with the greatest rank");
        PrintQueue q = twoMedia();
        q.job(1, 1, 1, 0, 0);
        q.job(1, 1, 1, 8, 0);
        q.job(2, 1, 1, 9, 5);
        q.job(1, 1, 1, 1, 0);
        // Rank goes before the media that is in, the time and the number.
        for (int job : new int[] {3, 2, 4, 1}) {
            takesAndPrints(q, 1, 5, job);
        }
    }

    private static void rankOfThoseThatMayBeTaken() {
        begin(5, "of those that may be taken only those");
        PrintQueue q = pair();
        for (int i = 1; i <= 3; i++) {
            q.job(1, 1, 1, 9, 0);
        }
        q.job(1, 1, 1, 9, 6);
        q.job(2, 1, 1, 9, 0);
        q.job(1, 1, 1, 4, 0);
        takesAndPrints(q, 1, 5, 1);
        takes(q, 2, 5, 2);
        q.cancel(3);
        // Of rank 9 one is over, one at a printer, one cancelled, one later and one of too many sides.
        takesAndPrints(q, 1, 5, 6);
        takes(q, 1, 5, 0);
        takesAndPrints(q, 1, 6, 4);
        prints(q, 2, 1, 1);
        takesAndPrints(q, 2, 6, 5);
    }

    private static void earliestTime() {
        begin(5, "of these the one of the earliest job's time");
        PrintQueue q = twoMedia();
        q.job(1, 1, 1, 0, 4);
        q.job(1, 1, 1, 0, 3);
        q.job(1, 1, 1, 0, 5);
        for (int job : new int[] {2, 1, 3}) {
            takesAndPrints(q, 1, 9, job);
        }
    }

    private static void leastJob() {
        begin(5, "of the least job");
        PrintQueue q = twoMedia();
        for (int i = 1; i <= 3; i++) {
            q.job(1, 2, 1, 0, 3);
        }
        takes(q, 1, 3, 1);
        // A part that waits again is not behind those of greater jobs.
        faults(q, 1, 1);
        for (int job = 1; job <= 3; job++) {
            takes(q, 1, 3, job);
            prints(q, 1, 2, 2);
        }
    }

    private static void leastPart() {
        begin(5, "of the least part");
        PrintQueue q = pair();
        q.job(1, 1, 6, 0, 0);
        q.split(1, 2, 2);
        q.split(1, 2, 1);
        takes(q, 1, 0, 1);
        takes(q, 2, 0, 1);
        faults(q, 1, 1);
        faults(q, 2, 1);
        // The three parts wait: of 3, 2 and 1 copies.
        for (int copies = 3; copies >= 1; copies--) {
            takes(q, 2, 0, 1);
            prints(q, 2, 50000, copies);
        }
        takes(q, 2, 0, 0);
    }

    private static void likeNumberBelowTheBound() {
        begin(5, "if the printer's LIKE number is below the bound");
        for (int bound = 0; bound <= 4; bound++) {
            PrintQueue q = twoMedia();
            likes(q, bound, 3);
            q.job(2, 1, 1, 0, 0);
            for (int i = 0; i < 6; i++) {
                q.job(1, 1, 1, 0, 1);
            }
            for (int i = 0; i < bound; i++) {
                takesAndPrints(q, 1, 1, 2 + i);
            }
            takesAndPrints(q, 1, 1, 1);
        }
    }

    private static void noneOfTheMediaThatIsIn() {
        begin(5, "and some have the media that is in it");
        PrintQueue q = new PrintQueue();
        q.printer(0, 1);
        q.ticket(1, 1, 0);
        q.ticket(2, 1, 0);
        q.ticket(0, 1, 0);
        q.job(1, 1, 1, 5, 2);
        q.job(2, 1, 1, 5, 1);
        // The media that is in is that of a lower rank's job alone.
        q.job(3, 1, 1, 4, 0);
        takesAndPrints(q, 1, 2, 2);
        takesAndPrints(q, 1, 2, 1);
        takesAndPrints(q, 1, 2, 3);
        for (int ticket = 1; ticket <= 3; ticket++) {
            account(q, ticket, 1, 1, 1, 0);
        }
    }

    private static void likeNumberGrowsByEachTaking() {
        begin(5, "else it grows by 1");
        PrintQueue q = twoMedia();
        q.like(2);
        takes(q, 1, 0, 0);
        takes(q, 1, 0, 0);
        q.job(1, 2, 3, 0, 1);
        takes(q, 1, 1, 1);
        prints(q, 1, 1, 1);
        faults(q, 1, 1);
        q.job(2, 1, 1, 0, 0);
        // One taking counted, that which took nothing did not; behind the second the bound is reached.
        takes(q, 1, 1, 1);
        faults(q, 1, 1);
        takes(q, 1, 1, 2);
    }

    private static void likeNumberIsZeroBehindAChange() {
        begin(5, "that is changed, and the LIKE number becomes 0");
        PrintQueue q = twoMedia();
        q.like(1);
        q.job(1, 1, 1, 9, 0);
        q.job(2, 1, 1, 8, 0);
        q.job(1, 1, 1, 5, 0);
        q.job(2, 1, 1, 5, 1);
        q.job(2, 1, 1, 5, 2);
        takesAndPrints(q, 1, 9, 1);
        takesAndPrints(q, 1, 9, 2);
        takesAndPrints(q, 1, 9, 4);
        takesAndPrints(q, 1, 9, 3);
        takesAndPrints(q, 1, 9, 5);
        account(q, 1, 2, 2, 1, 0);
        account(q, 2, 3, 3, 2, 0);
    }

    private static void likeNumberIsThePrinters() {
        begin(5, "the printer's LIKE number");
        PrintQueue q = twoMedia();
        q.printer(0, 1);
        q.like(1);
        q.job(2, 1, 1, 0, 0);
        q.job(1, 1, 1, 0, 1);
        q.job(1, 1, 1, 0, 1);
        takesAndPrints(q, 1, 1, 2);
        takesAndPrints(q, 2, 1, 3);
        q.job(1, 1, 1, 0, 1);
        takesAndPrints(q, 1, 1, 1);
        takesAndPrints(q, 2, 1, 4);
    }

    private static void likeNumberChangesByTakingsAlone() {
        begin(5, "the LIKE number becomes 0; else it grows by 1");
        PrintQueue q = twoMedia();
        q.like(2);
        q.job(1, 2, 1, 9, 1);
        q.job(1, 2, 1, 8, 1);
        takes(q, 1, 1, 1);
        cancels(q, 1, 1);
        takes(q, 1, 1, 2);
        cancels(q, 2, 1);
        takes(q, 1, 1, 0);
        q.job(2, 1, 1, 0, 0);
        q.job(1, 1, 1, 0, 1);
        // Two were alike, whatever became of them, and nothing was taken since.
        takesAndPrints(q, 1, 1, 3);
        takesAndPrints(q, 1, 1, 4);
    }

    private static void mediaStaysIn() {
        begin(5, "Taken with another media than that which is in, that is changed");
        PrintQueue q = twoMedia();
        q.job(2, 2, 1, 9, 0);
        takes(q, 1, 0, 1);
        account(q, 2, 0, 0, 1, 0);
        faults(q, 1, 1);
        takes(q, 1, 0, 1);
        account(q, 2, 0, 0, 1, 0);
        q.cancel(1);
        q.job(1, 1, 1, 0, 0);
        q.job(2, 1, 1, 0, 0);
        takesAndPrints(q, 1, 0, 3);
        takesAndPrints(q, 1, 0, 2);
        account(q, 1, 1, 1, 1, 0);
        account(q, 2, 1, 1, 1, 0);
    }

    private static void pagesOfACall() {
        begin(6, "So many pages (0 .. 50000)");
        PrintQueue q = twoMedia();
        q.job(1, 500, 100, 0, 0);
        takes(q, 1, 0, 1);
        check.thrown(BAD, "print(1, -1)", () -> q.print(1, -1));
        prints(q, 1, 0, 0);
        account(q, 1, 0, 0, 0, 0);
        check.thrown(BAD, "print(1, 50001)", () -> q.print(1, 50001));
        state(q, 1, 1, 0, 0, 1);
        prints(q, 1, 50000, 50000);
        state(q, 1, 2, 50000, 100, 1);
        check.thrown(BAD, "print(1, -1) with no part", () -> q.print(1, -1));
        check.thrown(BAD, "print(1, 50001) with no part", () -> q.print(1, 50001));
        check.thrown(NO_SUCH, "print(0, -1)", () -> q.print(0, -1));
        check.thrown(NO_SUCH, "print(2, 50001)", () -> q.print(2, 50001));
    }

    private static void allThatAreLeft() {
        begin(6, "or all that are left of its part");
        for (int asked = 5; asked <= 7; asked++) {
            PrintQueue q = twoMedia();
            q.job(1, 3, 2, 0, 0);
            q.job(1, 3, 1, 0, 0);
            takes(q, 1, 0, 1);
            prints(q, 1, asked, Math.min(asked, 6));
            state(q, 1, asked < 6 ? 1 : 2, Math.min(asked, 6), asked < 6 ? 1 : 2, 1);
            // The next part is not begun by itself.
            state(q, 2, 0, 0, 0, 1);
            prints(q, 1, 1, asked < 6 ? 1 : 0);
            takes(q, 1, 0, 2);
        }
    }

    private static void copyByCopy() {
        begin(6, "copy by copy, page by page, the first copies first");
        PrintQueue q = twoMedia();
        q.job(1, 3, 3, 0, 0);
        takes(q, 1, 0, 1);
        for (int page = 1; page <= 9; page++) {
            prints(q, 1, 1, 1);
            state(q, 1, page < 9 ? 1 : 2, page, page / 3, 1);
        }
    }

    private static void noPartToPrint() {
        begin(6, "0 when it has no part");
        PrintQueue q = twoMedia();
        q.job(1, 2, 1, 0, 0);
        prints(q, 1, 1, 0);
        takes(q, 1, 0, 1);
        prints(q, 1, 1, 1);
        faults(q, 1, 1);
        prints(q, 1, 1, 0);
        takes(q, 1, 0, 1);
        prints(q, 1, 2, 2);
        prints(q, 1, 1, 0);
        account(q, 1, 3, 3, 0, 1);
    }

    private static void noPartToFault() {
        begin(7, "0 when the printer has none");
        PrintQueue q = twoMedia();
        q.job(1, 2, 1, 0, 0);
        check.thrown(NO_SUCH, "fault(0)", () -> q.fault(0));
        check.thrown(NO_SUCH, "fault(2)", () -> q.fault(2));
        faults(q, 1, 0);
        takes(q, 1, 0, 1);
        faults(q, 1, 1);
        faults(q, 1, 0);
        takes(q, 1, 0, 1);
        prints(q, 1, 2, 2);
        faults(q, 1, 0);
        state(q, 1, 2, 2, 1, 1);
        doubles(q, 1);
    }

    private static void pagesOfTheBegunCopy() {
        begin(7, "if some pages of the copy that is begun are printed, the last one of them is DOUBLED");
        for (int printed = 0; printed <= 8; printed++) {
            PrintQueue q = twoMedia();
            q.job(1, 3, 3, 0, 0);
            takes(q, 1, 0, 1);
            prints(q, 1, printed, printed);
            int ofCopy = printed % 3;
            int whole = printed / 3;
            int counts = ofCopy > 0 ? printed - 1 : printed;
            faults(q, 1, ofCopy > 0 ? ofCopy : 1);
            state(q, 1, 0, counts, whole, 1);
            if (ofCopy > 0) {
                doubles(q, 1, 1000 * (whole + 1) + ofCopy);
            } else {
                doubles(q, 1);
            }
            account(q, 1, printed, printed, 0, ofCopy > 0 ? 1 : 0);
            takes(q, 1, 0, 1);
            prints(q, 1, 50000, 9 - counts);
        }
    }

    private static void copiesOfOnePage() {
        begin(7, "some pages of the copy that is begun");
        PrintQueue q = twoMedia();
        q.job(1, 1, 3, 0, 0);
        for (int printed = 0; printed < 3; printed++) {
            takes(q, 1, 0, 1);
            faults(q, 1, 1);
            takes(q, 1, 0, 1);
            prints(q, 1, 1, 1);
            faults(q, 1, printed < 2 ? 1 : 0);
            state(q, 1, printed < 2 ? 0 : 2, printed + 1, printed + 1, 1);
        }
        doubles(q, 1);
        account(q, 1, 3, 3, 0, 0);
    }

    private static void partGoesOnElsewhere() {
        begin(7, "The part goes on behind the pages that count");
        PrintQueue q = pair();
        q.job(1, 4, 2, 0, 0);
        takes(q, 1, 0, 1);
        prints(q, 1, 7, 7);
        faults(q, 1, 3);
        takes(q, 2, 0, 1);
        prints(q, 2, 1, 1);
        state(q, 1, 1, 7, 1, 1);
        prints(q, 2, 50000, 1);
        state(q, 1, 2, 8, 2, 1);
        account(q, 1, 9, 9, 0, 1);
    }

    private static void whatItWas() {
        begin(8, "what it was (1, or 0)");
        PrintQueue q = twoMedia();
        q.job(1, 1, 1, 0, 0);
        q.job(1, 1, 1, 0, 0);
        check.thrown(NO_SUCH, "hold(0, true)", () -> q.hold(0, true));
        check.thrown(NO_SUCH, "hold(3, true)", () -> q.hold(3, true));
        holds(q, 1, false, 0);
        holds(q, 1, true, 0);
        holds(q, 2, false, 0);
        holds(q, 1, true, 1);
        check.due(1, "state(1, 4)", () -> q.state(1, 4));
        check.due(0, "state(2, 4)", () -> q.state(2, 4));
        holds(q, 1, false, 1);
        check.due(0, "state(1, 4)", () -> q.state(1, 4));
        holds(q, 1, false, 0);
    }

    private static void partsAtPrintersGoOn() {
        begin(8, "(parts at printers go on)");
        PrintQueue q = pair();
        q.job(1, 2, 2, 0, 0);
        splits(q, 1, 2, 1, 1);
        takes(q, 1, 0, 1);
        holds(q, 1, true, 0);
        check.due(1, "state(1, 0)", () -> q.state(1, 0));
        takes(q, 2, 0, 0);
        prints(q, 1, 2, 2);
        state(q, 1, 0, 2, 1, 2);
        takes(q, 2, 0, 0);
        holds(q, 1, false, 1);
        takes(q, 2, 0, 1);
    }

    private static void heldWhenDoneOrCancelled() {
        begin(8, "A job is held, or not: what it was");
        PrintQueue q = twoMedia();
        q.job(1, 1, 1, 0, 0);
        q.job(1, 1, 1, 0, 0);
        takes(q, 1, 0, 1);
        holds(q, 1, true, 0);
        prints(q, 1, 1, 1);
        holds(q, 2, true, 0);
        cancels(q, 2, 1);
        for (int job = 1; job <= 2; job++) {
            int ended = job;
            // Neither the last page nor the cancelling has ended the hold.
            check.due(1, "state(" + job + ", 4)", () -> q.state(ended, 4));
            holds(q, job, false, 1);
            holds(q, job, true, 0);
            check.due(job + 1, "state(" + job + ", 0)", () -> q.state(ended, 0));
        }
    }

    private static void partsThatAreNotOver() {
        begin(9, "all its parts that are not over are gone: how many that were");
        for (int over = 0; over <= 2; over++) {
            PrintQueue q = pair();
            q.job(1, 1, 3, 0, 0);
            q.split(1, 2, 1);
            q.split(1, 2, 1);
            for (int i = 0; i < over; i++) {
                takesAndPrints(q, 2, 0, 1);
            }
            cancels(q, 1, 3 - over);
            state(q, 1, 3, over, over, 3);
            takes(q, 1, 0, 0);
            takes(q, 2, 0, 0);
        }
    }

    private static void doneOrCancelledAlready() {
        begin(9, "0 for one that is done or cancelled already");
        PrintQueue q = twoMedia();
        q.job(1, 2, 1, 0, 0);
        q.job(1, 2, 1, 0, 0);
        check.thrown(NO_SUCH, "cancel(0)", () -> q.cancel(0));
        check.thrown(NO_SUCH, "cancel(3)", () -> q.cancel(3));
        takes(q, 1, 0, 1);
        prints(q, 1, 2, 2);
        cancels(q, 1, 0);
        state(q, 1, 2, 2, 1, 1);
        takes(q, 1, 0, 2);
        prints(q, 1, 1, 1);
        cancels(q, 2, 1);
        cancels(q, 2, 0);
        state(q, 2, 3, 1, 0, 1);
    }

    private static void printersOfOtherJobsGoOn() {
        begin(9, "printers that had one have none");
        PrintQueue q = pair();
        q.printer(0, 1);
        q.job(1, 2, 2, 0, 0);
        q.split(1, 2, 1);
        q.job(1, 2, 1, 0, 0);
        takes(q, 1, 0, 1);
        takes(q, 2, 0, 1);
        takes(q, 3, 0, 2);
        cancels(q, 1, 2);
        prints(q, 1, 1, 0);
        prints(q, 2, 1, 0);
        prints(q, 3, 1, 1);
        takes(q, 1, 0, 0);
        faults(q, 2, 0);
        faults(q, 3, 1);
    }

    private static void whatOfAState() {
        begin(10, "IndexOutOfBoundsException");
        PrintQueue q = twoMedia();
        q.job(1, 1, 1, 0, 0);
        check.thrown(OUTSIDE, "state(1, -1)", () -> q.state(1, -1));
        check.due(0, "state(1, 0)", () -> q.state(1, 0));
        check.due(0, "state(1, 4)", () -> q.state(1, 4));
        check.thrown(OUTSIDE, "state(1, 5)", () -> q.state(1, 5));
        check.thrown(NO_SUCH, "state(0, 5)", () -> q.state(0, 5));
        check.thrown(NO_SUCH, "state(2, -1)", () -> q.state(2, -1));
    }

    private static void waitsOrPrints() {
        begin(10, "0 waits: no part at a printer, 1 prints");
        PrintQueue q = pair();
        q.job(1, 2, 2, 0, 0);
        q.split(1, 2, 1);
        check.due(0, "state(1, 0), both wait", () -> q.state(1, 0));
        takes(q, 2, 0, 1);
        check.due(1, "state(1, 0), one waits", () -> q.state(1, 0));
        takes(q, 1, 0, 0);
        prints(q, 2, 2, 2);
        check.due(0, "state(1, 0), one waits, one over", () -> q.state(1, 0));
        takes(q, 2, 0, 1);
        check.due(1, "state(1, 0), one over", () -> q.state(1, 0));
        faults(q, 2, 1);
        check.due(0, "state(1, 0), behind a fault", () -> q.state(1, 0));
        q.hold(1, true);
        check.due(0, "state(1, 0), held", () -> q.state(1, 0));
    }

    private static void doneWithTheLastPart() {
        begin(10, "A job is DONE, when all its parts are over");
        PrintQueue q = pair();
        q.job(1, 1, 2, 0, 0);
        q.split(1, 2, 1);
        takes(q, 1, 0, 1);
        takes(q, 2, 0, 1);
        prints(q, 2, 1, 1);
        state(q, 1, 1, 1, 1, 2);
        prints(q, 1, 1, 1);
        state(q, 1, 2, 2, 2, 2);
    }

    private static void countsWithoutDoubledPages() {
        begin(10, "1 pages that count, 2 copies that count whole");
        PrintQueue q = pair();
        q.job(1, 2, 4, 0, 0);
        q.split(1, 2, 2);
        takes(q, 1, 0, 1);
        takes(q, 2, 0, 1);
        prints(q, 1, 1, 1);
        prints(q, 2, 3, 3);
        // Two begun copies with a page each are no whole one.
        state(q, 1, 1, 4, 1, 2);
        faults(q, 2, 1);
        state(q, 1, 1, 3, 1, 2);
        prints(q, 1, 1, 1);
        state(q, 1, 1, 4, 2, 2);
        cancels(q, 1, 2);
        state(q, 1, 3, 4, 2, 2);
    }

    private static void indexOfADoubledPage() {
        begin(11, "i = -1: how many; IndexOutOfBoundsException");
        PrintQueue q = twoMedia();
        q.job(1, 500, 2, 0, 0);
        doubles(q, 1);
        takes(q, 1, 0, 1);
        prints(q, 1, 499, 499);
        faults(q, 1, 499);
        doubles(q, 1, 1499);
        takes(q, 1, 0, 1);
        prints(q, 1, 3, 3);
        faults(q, 1, 1);
        doubles(q, 1, 1499, 2001);
        check.thrown(NO_SUCH, "doubled(0, -1)", () -> q.doubled(0, -1));
        check.thrown(NO_SUCH, "doubled(2, -2)", () -> q.doubled(2, -2));
        check.thrown(NO_SUCH, "doubled(2, 0)", () -> q.doubled(2, 0));
    }

    private static void doubledPagesByJobs() {
        begin(11, "The i-th doubled page of a job");
        PrintQueue q = pair();
        q.job(1, 9, 1, 0, 0);
        q.job(1, 9, 1, 0, 0);
        takes(q, 1, 0, 1);
        takes(q, 2, 0, 2);
        prints(q, 1, 3, 3);
        prints(q, 2, 5, 5);
        faults(q, 2, 5);
        faults(q, 1, 3);
        takes(q, 1, 0, 1);
        takes(q, 2, 0, 2);
        faults(q, 1, 2);
        faults(q, 2, 4);
        doubles(q, 1, 1003, 1002);
        doubles(q, 2, 1005, 1004);
        account(q, 1, 8, 8, 0, 4);
    }

    private static void copyOfAPart() {
        begin(11, "1000 times the part's copy (from 1) and the page");
        PrintQueue q = pair();
        q.job(1, 500, 100, 0, 0);
        takes(q, 1, 0, 1);
        prints(q, 1, 49501, 49501);
        faults(q, 1, 1);
        doubles(q, 1, 100001);
        takes(q, 1, 0, 1);
        prints(q, 1, 499, 499);
        faults(q, 1, 499);
        doubles(q, 1, 100001, 100499);

        PrintQueue parts = pair();
        parts.job(1, 2, 4, 0, 0);
        parts.split(1, 1, 2);
        takes(parts, 2, 0, 1);
        takes(parts, 1, 0, 1);
        prints(parts, 1, 1, 1);
        faults(parts, 1, 1);
        prints(parts, 2, 3, 3);
        faults(parts, 2, 1);
        doubles(parts, 1, 1001, 2001);
    }

    private static void whatOfAnAccount() {
        begin(12, "IndexOutOfBoundsException");
        PrintQueue q = twoMedia();
        check.thrown(OUTSIDE, "account(1, -1)", () -> q.account(1, -1));
        check.due(0, "account(1, 0)", () -> q.account(1, 0));
        check.due(0, "account(1, 3)", () -> q.account(1, 3));
        check.thrown(OUTSIDE, "account(1, 4)", () -> q.account(1, 4));
        check.thrown(NO_SUCH, "account(0, 4)", () -> q.account(0, 4));
        check.thrown(NO_SUCH, "account(3, -1)", () -> q.account(3, -1));
    }

    private static void sheetsOfOneSide() {
        begin(12, "of sides 1 each");
        for (int printer = 1; printer <= 2; printer++) {
            PrintQueue q = pair();
            q.job(1, 4, 2, 0, 0);
            takes(q, printer, 0, 1);
            prints(q, printer, 2, 2);
            account(q, 1, 2, 2, 0, 0);
            faults(q, printer, 2);
            takes(q, printer, 0, 1);
            prints(q, printer, 50000, 7);
            account(q, 1, 9, 9, 0, 1);
        }
    }

    private static void sheetsOfTwoSides() {
        begin(12, "of sides 2: a page is a new sheet when it is odd");
        for (int pages = 1; pages <= 5; pages++) {
            PrintQueue q = pair();
            PrintQueue whole = pair();
            q.job(2, pages, 3, 0, 0);
            whole.job(2, pages, 3, 0, 0);
            takes(q, 2, 0, 1);
            takes(whole, 2, 0, 1);
            int sheets = 0;
            for (int i = 0; i < 3 * pages; i++) {
                // A copy's pages are counted from 1 again, so that no sheet bears two copies.
                sheets += i % pages % 2 == 0 ? 1 : 0;
                prints(q, 2, 1, 1);
                account(q, 2, i + 1, sheets, 0, 0);
            }
            prints(whole, 2, 50000, 3 * pages);
            account(whole, 2, 3 * pages, sheets, 0, 0);
        }
    }

    private static void firstSheetBehindATaking() {
        begin(12, "or the first behind a fault or the taking");
        for (int printed = 1; printed <= 5; printed++) {
            PrintQueue q = pair();
            q.job(2, 6, 1, 0, 0);
            takes(q, 2, 0, 1);
            prints(q, 2, printed, printed);
            int before = (printed + 1) / 2;
            account(q, 2, printed, before, 0, 0);
            faults(q, 2, printed);
            takes(q, 2, 0, 1);
            prints(q, 2, 0, 0);
            account(q, 2, printed, before, 0, 1);
            prints(q, 2, 1, 1);
            account(q, 2, printed + 1, before + 1, 0, 1);
            prints(q, 2, 1, 1);
            account(q, 2, printed + 2, before + 1 + (printed + 1) % 2, 0, 1);
        }
    }

    private static void firstSheetAtAnotherPrinter() {
        begin(12, "or the first behind .. the taking, at another printer");
        PrintQueue q = pair();
        q.printer(0, 2);
        q.job(2, 6, 1, 0, 0);
        takes(q, 2, 0, 1);
        prints(q, 2, 4, 4);
        faults(q, 2, 4);
        takes(q, 3, 0, 1);
        // Pages 4 | 5 6: page 4 is even, but on a sheet of its own.
        prints(q, 3, 1, 1);
        account(q, 2, 5, 3, 0, 1);
        prints(q, 3, 50000, 2);
        account(q, 2, 7, 4, 0, 1);
    }

    private static void changesOfATicket() {
        begin(12, "2 changes");
        PrintQueue q = twoMedia();
        q.ticket(1, 1, 0);
        q.job(1, 1, 1, 9, 0);
        q.job(2, 1, 1, 8, 0);
        q.job(3, 1, 1, 7, 0);
        q.job(1, 1, 1, 6, 0);
        for (int job = 1; job <= 4; job++) {
            takesAndPrints(q, 1, 0, job);
        }
        // Ticket 3 found its media in, left there by ticket 2.
        account(q, 1, 2, 2, 1, 0);
        account(q, 2, 1, 1, 1, 0);
        account(q, 3, 1, 1, 0, 0);
    }

    private static void reasonNoneWaits() {
        begin(13, "0 none waits");
        PrintQueue q = pair();
        q.job(1, 1, 2, 0, 0);
        q.split(1, 2, 1);
        check.thrown(NO_SUCH, "reason(0)", () -> q.reason(0));
        check.thrown(NO_SUCH, "reason(2)", () -> q.reason(2));
        reasons(q, 1, 5);
        takes(q, 1, 0, 1);
        reasons(q, 1, 5);
        takes(q, 2, 0, 1);
        reasons(q, 1, 0);
        q.hold(1, true);
        reasons(q, 1, 0);
        prints(q, 1, 1, 1);
        reasons(q, 1, 0);
        faults(q, 2, 1);
        reasons(q, 1, 1);
        q.cancel(1);
        reasons(q, 1, 0);
    }

    private static void reasonHeldBeforeTime() {
        begin(13, "1 it is held; 2 its time is later than now");
        PrintQueue q = twoMedia();
        q.job(1, 1, 1, 0, 1);
        reasons(q, 1, 2);
        q.hold(1, true);
        reasons(q, 1, 1);
        takes(q, 1, 1, 0);
        reasons(q, 1, 1);
        q.hold(1, false);
        reasons(q, 1, 5);
        q.job(1, 1, 1, 0, 2);
        reasons(q, 2, 2);
    }

    private static void reasonTimeBeforePrinters() {
        begin(13, "2 its time is later than now; 3 no printer fits");
        PrintQueue q = pair();
        q.job(2, 1, 1, 0, 5);
        takes(q, 1, 4, 0);
        reasons(q, 1, 2);
        takes(q, 1, 5, 0);
        reasons(q, 1, 5);
        takes(q, 1, 6, 0);
        reasons(q, 1, 5);
        PrintQueue none = new PrintQueue();
        none.ticket(0, 1, 0);
        none.job(1, 1, 1, 0, 0);
        none.job(1, 1, 1, 0, 1);
        reasons(none, 1, 3);
        reasons(none, 2, 2);
    }

    private static void reasonNoPrinterFits() {
        begin(13, "3 no printer fits a part that waits");
        PrintQueue q = new PrintQueue();
        q.ticket(0, 2, 0);
        q.job(1, 1, 2, 0, 0);
        reasons(q, 1, 3);
        q.printer(0, 1);
        reasons(q, 1, 3);
        q.printer(0, 2);
        reasons(q, 1, 5);
        splits(q, 1, 1, 1, 1);
        reasons(q, 1, 5);
        takes(q, 2, 0, 1);
        reasons(q, 1, 3);
        faults(q, 2, 1);
        reasons(q, 1, 5);
    }

    private static void reasonAllThatFitHaveParts() {
        begin(13, "4 all that fit have parts; 5 one could take it");
        PrintQueue q = pair();
        q.job(1, 1, 1, 0, 0);
        q.job(1, 1, 1, 0, 0);
        q.job(1, 1, 1, 0, 0);
        q.job(2, 1, 1, 0, 0);
        takes(q, 1, 0, 1);
        reasons(q, 3, 5);
        takes(q, 2, 0, 2);
        reasons(q, 3, 4);
        reasons(q, 4, 4);
        prints(q, 1, 1, 1);
        reasons(q, 3, 5);
        reasons(q, 4, 4);
        prints(q, 2, 1, 1);
        reasons(q, 4, 5);
    }

    private static void reasonOfAnyPartThatWaits() {
        begin(13, "4 all that fit have parts, of a part for one alone");
        PrintQueue q = pair();
        q.job(1, 1, 2, 0, 0);
        q.job(1, 1, 1, 9, 0);
        q.split(1, 2, 1);
        takes(q, 2, 0, 2);
        reasons(q, 1, 5);
        takes(q, 1, 0, 1);
        prints(q, 1, 1, 1);
        // Printer 1 is free, but the part that waits is for printer 2 alone.
        reasons(q, 1, 4);
        takes(q, 1, 0, 0);
        prints(q, 2, 1, 1);
        reasons(q, 1, 5);
    }

    private static void reasonOfSeveralPartsThatWait() {
        begin(13, "3 no printer fits a part that waits; 4 all that fit have parts");
        for (int first = 1; first <= 2; first++) {
            PrintQueue q = pair();
            q.job(2, 1, 3, 0, 0);
            splits(q, 1, first, 1, 1);
            splits(q, 1, 3 - first, 1, 1);
            takes(q, 2, 0, 1);
            // Nobody fits the part for printer 1; printer 2 fits its own part, but has another.
            reasons(q, 1, 4);
            prints(q, 2, 1, 1);
            reasons(q, 1, 5);
            takes(q, 2, 0, 1);
            reasons(q, 1, 3);
        }
    }

    private static void reasonWithAPartAtAPrinter() {
        begin(13, "1 it is held, with a part at a printer and one that waits");
        PrintQueue q = pair();
        q.job(1, 1, 2, 0, 0);
        splits(q, 1, 2, 1, 1);
        takes(q, 1, 0, 1);
        reasons(q, 1, 5);
        q.hold(1, true);
        reasons(q, 1, 1);
        takes(q, 2, 0, 0);
    }

    private static void reasonAsksForNoMedia() {
        begin(13, "5 one could take it, whatever media is in");
        PrintQueue q = twoMedia();
        q.job(2, 1, 1, 0, 0);
        reasons(q, 1, 5);
        takes(q, 1, 0, 1);
    }

    private static void copiesBelowOne() {
        begin(14, "0 when .. copies are below 1");
        PrintQueue q = pair();
        q.job(1, 1, 3, 0, 0);
        splits(q, 1, 1, 0, 0);
        splits(q, 1, 1, -1, 0);
        splits(q, 1, 1, LEAST, 0);
        state(q, 1, 0, 0, 0, 1);
        splits(q, 1, 1, 1, 1);
        state(q, 1, 0, 0, 0, 2);
    }

    private static void asManyAndOneMore() {
        begin(14, "has as many such and one more");
        for (int copies = 1; copies <= 100; copies += 33) {
            PrintQueue q = pair();
            q.job(1, 1, copies, 0, 0);
            splits(q, 1, 2, MOST, 0);
            splits(q, 1, 2, copies, 0);
            state(q, 1, 0, 0, 0, 1);
            splits(q, 1, 2, copies - 1, copies > 1 ? 1 : 0);
            takes(q, 1, 0, 1);
            prints(q, 1, 50000, 1);
            takes(q, 2, 0, copies > 1 ? 1 : 0);
            prints(q, 2, 50000, copies - 1);
            state(q, 1, 2, copies, copies, copies > 1 ? 2 : 1);
        }
    }

    private static void printedCopiesStay() {
        begin(14, "(of those of which no page was printed, the last ones)");
        for (int printed = 0; printed <= 11; printed++) {
            PrintQueue q = pair();
            q.job(1, 3, 4, 0, 0);
            takes(q, 1, 0, 1);
            prints(q, 1, printed, printed);
            faults(q, 1, printed % 3 == 0 ? 1 : printed % 3);
            int counts = printed % 3 == 0 ? printed : printed - 1;
            int clean = 4 - (counts + 2) / 3;
            splits(q, 1, 2, clean, 0);
            splits(q, 1, 2, clean - 1, clean > 1 ? 1 : 0);
            takes(q, 1, 0, 1);
            int moved = clean > 1 ? 3 * (clean - 1) : 0;
            prints(q, 1, 50000, 12 - counts - moved);
            takes(q, 2, 0, moved > 0 ? 1 : 0);
            prints(q, 2, 50000, moved);
            state(q, 1, 2, 12, 4, moved > 0 ? 2 : 1);
        }
    }

    private static void doubledOnlyPage() {
        begin(14, "of which no page was printed: a doubled one counts as not printed");
        PrintQueue q = pair();
        q.job(1, 3, 2, 0, 0);
        takes(q, 1, 0, 1);
        prints(q, 1, 2, 2);
        faults(q, 1, 2);
        splits(q, 1, 2, 1, 0);
        takes(q, 1, 0, 1);
        faults(q, 1, 1);
        splits(q, 1, 2, 1, 1);
    }

    private static void partsThatCannotBeSplit() {
        begin(14, "the first part that waits, is for any printer");
        PrintQueue q = pair();
        q.job(1, 1, 5, 0, 9);
        splits(q, 1, 2, 3, 1);
        // The part for printer 2 has three copies, but is for one alone.
        splits(q, 1, 2, 2, 0);
        splits(q, 1, 1, 1, 1);
        takes(q, 1, 9, 1);
        splits(q, 1, 2, 1, 0);
        // A printer that has a part may be named for a later one.
        q.job(1, 1, 2, 0, 9);
        splits(q, 2, 1, 1, 1);
        prints(q, 1, 1, 1);
        splits(q, 1, 2, 1, 0);

        PrintQueue again = pair();
        again.job(1, 1, 5, 0, 0);
        takes(again, 1, 0, 1);
        prints(again, 1, 1, 1);
        splits(again, 1, 2, 1, 0);
        faults(again, 1, 1);
        // Behind the fault it waits with four copies of which no page was printed.
        splits(again, 1, 2, 4, 0);
        splits(again, 1, 2, 3, 1);
        cancels(again, 1, 2);
        splits(again, 1, 2, 1, 0);
        state(again, 1, 3, 1, 1, 2);
    }

    private static void jobAndPrinterOfASplit() {
        begin(14, "NoSuchElementException (job, printer)");
        PrintQueue q = pair();
        q.job(1, 1, 3, 0, 0);
        check.thrown(NO_SUCH, "split(0, 1, 1)", () -> q.split(0, 1, 1));
        check.thrown(NO_SUCH, "split(2, 1, 1)", () -> q.split(2, 1, 1));
        check.thrown(NO_SUCH, "split(1, 0, 1)", () -> q.split(1, 0, 1));
        check.thrown(NO_SUCH, "split(1, 3, 1)", () -> q.split(1, 3, 1));
        check.thrown(NO_SUCH, "split(1, 3, 0)", () -> q.split(1, 3, 0));
        check.thrown(NO_SUCH, "split(2, 1, 0)", () -> q.split(2, 1, 0));
        check.thrown(NO_SUCH, "split(1, 3, 3)", () -> q.split(1, 3, 3));
        state(q, 1, 0, 0, 0, 1);
        splits(q, 1, 1, 1, 1);
        splits(q, 1, 2, 1, 1);
    }

    private static void rangeOfTheBound() {
        begin(15, "The bound of likeness, 0 .. 100: what it was");
        PrintQueue q = new PrintQueue();
        check.thrown(BAD, "like(-1)", () -> q.like(-1));
        likes(q, 0, 3);
        likes(q, 100, 0);
        check.thrown(BAD, "like(101)", () -> q.like(101));
        likes(q, 100, 100);
        likes(q, 99, 100);
        check.thrown(BAD, "like(-1)", () -> q.like(-1));
        likes(q, 1, 99);
    }

    private static void boundHoldsAtOnce() {
        begin(15, "The bound of likeness");
        PrintQueue q = twoMedia();
        q.job(2, 1, 1, 0, 0);
        for (int i = 0; i < 5; i++) {
            q.job(1, 1, 1, 0, 1);
        }
        for (int job = 2; job <= 4; job++) {
            takesAndPrints(q, 1, 1, job);
        }
        // Three were alike: bound 4 lets one more come first, the bound 1 none.
        likes(q, 4, 3);
        takesAndPrints(q, 1, 1, 5);
        likes(q, 1, 4);
        takesAndPrints(q, 1, 1, 1);
        takesAndPrints(q, 1, 1, 6);
    }

    private static void widestBound() {
        begin(15, "0 .. 100");
        PrintQueue q = twoMedia();
        q.like(100);
        q.job(2, 1, 1, 0, 0);
        q.job(1, 1, 1, 0, 0);
        for (int i = 0; i < 100; i++) {
            takes(q, 1, 0, 2);
            faults(q, 1, 1);
        }
        takes(q, 1, 0, 1);
    }
}
