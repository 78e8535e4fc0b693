import java.util.NoSuchElementException;

/** A print queue; ../shared/DOC.md says what each call promises. */
public final class PrintQueue {
    private static final int MOST_PRINTERS = 8;
    private static final int MOST_TICKETS = 20;
    private static final int MOST_JOBS = 60;
    private static final int MOST_MEDIA = 7;
    private static final int MOST_FINISH = 3;
    private static final int MOST_PAGES = 500;
    private static final int MOST_COPIES = 100;
    private static final int MOST_RANK = 9;
    private static final int MOST_PAGES_A_CALL = 50000;
    private static final int MOST_BOUND = 100;
    private static final int FIRST_BOUND = 3;
    /** Each doubled page takes two calls, a taking and a fault, of the 512 that an object is used for. */
    private static final int MOST_DOUBLED = 256;
    private static final int COPY_WEIGHT = 1000;

    private static final int ANY_PRINTER = 0;

    private static final int PART_WAITS = 0;
    private static final int PART_AT_PRINTER = 1;
    private static final int PART_OVER = 2;

    private static final int JOB_WAITS = 0;
    private static final int JOB_PRINTS = 1;
    private static final int JOB_DONE = 2;
    private static final int JOB_CANCELLED = 3;

    private static final int NONE_WAITS = 0;
    private static final int IS_HELD = 1;
    private static final int TIME_IS_LATER = 2;
    private static final int NO_PRINTER_FITS = 3;
    private static final int ALL_THAT_FIT_HAVE_PARTS = 4;
    private static final int ONE_COULD_TAKE = 5;

    private static final class Printer {
        final int number;
        final int sides;
        int media;
        int likeNumber;
        /** Null while the printer has none. */
        Part part;
        /** True from the taking until a page comes out: that page is always a new sheet. */
        boolean sheetIsDue;

        Printer(int number, int media, int sides) {
            this.number = number;
            this.media = media;
            this.sides = sides;
        }

        boolean fits(Part wanted) {
            return sides >= wanted.job.ticket.sides
                    && (wanted.onlyPrinter == ANY_PRINTER || wanted.onlyPrinter == number);
        }
    }

    private static final class Ticket {
        final int media;
        final int sides;
        long pagesOut;
        long sheets;
        long changes;
        long pagesDoubled;

        Ticket(int media, int sides) {
            this.media = media;
            this.sides = sides;
        }
    }

    private static final class Job {
        final int number;
        final Ticket ticket;
        final int pages;
        final int rank;
        final long time;
        boolean held;
        boolean cancelled;
        /** Null only until the job's first part is joined to it. */
        Part firstPart;

        Job(int number, Ticket ticket, int pages, int rank, long time) {
            this.number = number;
            this.ticket = ticket;
            this.pages = pages;
            this.rank = rank;
            this.time = time;
        }

        boolean hasPartThat(int stage) {
            for (Part part = firstPart; part != null; part = part.next) {
                if (part.stage == stage) {
                    return true;
                }
            }
            return false;
        }

        int partsHad() {
            int count = 0;
            for (Part part = firstPart; part != null; part = part.next) {
                count++;
            }
            return count;
        }

        int wholeCopies() {
            int count = 0;
            for (Part part = firstPart; part != null; part = part.next) {
                count += part.wholeCopies;
            }
            return count;
        }

        int pagesThatCount() {
            int count = 0;
            for (Part part = firstPart; part != null; part = part.next) {
                count += part.wholeCopies * pages + part.pagesOfCopy;
            }
            return count;
        }

        int condition() {
            if (cancelled) {
                return JOB_CANCELLED;
            }
            if (hasPartThat(PART_AT_PRINTER)) {
                return JOB_PRINTS;
            }
            return hasPartThat(PART_WAITS) ? JOB_WAITS : JOB_DONE;
        }
    }

    /** A job's parts are a chain, in the order in which they came. */
    private static final class Part {
        final Job job;
        final int onlyPrinter;
        int copies;
        int stage;
        int wholeCopies;
        /** Pages that count of the copy that is begun; always fewer than the job's pages. */
        int pagesOfCopy;
        Part next;

        Part(Job job, int onlyPrinter, int copies) {
            this.job = job;
            this.onlyPrinter = onlyPrinter;
            this.copies = copies;
        }

        int untouchedCopies() {
            return copies - wholeCopies - (pagesOfCopy > 0 ? 1 : 0);
        }

        void countPages(int count) {
            pagesOfCopy += count;
            if (pagesOfCopy >= job.pages) {
                pagesOfCopy = 0;
                wholeCopies++;
            }
        }
    }

    private final Printer[] printers = new Printer[MOST_PRINTERS];
    private final Ticket[] tickets = new Ticket[MOST_TICKETS];
    private final Job[] jobs = new Job[MOST_JOBS];
    private int printerCount;
    private int ticketCount;
    private int jobCount;
    /** Doubled pages of all jobs in the order in which they came: the job's number, and the answer. */
    private final int[] doubledJobs = new int[MOST_DOUBLED];
    private final int[] doubledPages = new int[MOST_DOUBLED];
    private int doubledCount;
    private int bound = FIRST_BOUND;
    private long now;

    public PrintQueue() {
    }

    public int printer(int media, int sides) throws IllegalArgumentException, UnsupportedOperationException {
        if (!isWithin(media, 0, MOST_MEDIA) || !isWithin(sides, 1, 2)) {
            throw new IllegalArgumentException();
        }
        if (printerCount >= printers.length) {
            throw new UnsupportedOperationException();
        }
        printers[printerCount] = new Printer(printerCount + 1, media, sides);
        printerCount++;
        return printerCount;
    }

    public int ticket(int media, int sides, int finish)
            throws IllegalArgumentException, UnsupportedOperationException {
        if (!isWithin(media, 0, MOST_MEDIA) || !isWithin(sides, 1, 2) || !isWithin(finish, 0, MOST_FINISH)) {
            throw new IllegalArgumentException();
        }
        if (ticketCount >= tickets.length) {
            throw new UnsupportedOperationException();
        }
        // No call asks for the finish again, so it is not kept.
        tickets[ticketCount] = new Ticket(media, sides);
        ticketCount++;
        return ticketCount;
    }

    public int job(int ticket, int pages, int copies, int rank, long t)
            throws NoSuchElementException, IllegalArgumentException, UnsupportedOperationException {
        Ticket itsTicket = findTicket(ticket);
        if (!isWithin(pages, 1, MOST_PAGES) || !isWithin(copies, 1, MOST_COPIES)
                || !isWithin(rank, 0, MOST_RANK) || t < 0) {
            throw new IllegalArgumentException();
        }
        if (jobCount >= jobs.length) {
            throw new UnsupportedOperationException();
        }
        Job added = new Job(jobCount + 1, itsTicket, pages, rank, t);
        added.firstPart = new Part(added, ANY_PRINTER, copies);
        jobs[jobCount] = added;
        jobCount++;
        return jobCount;
    }

    public int take(int printer, long t)
            throws NoSuchElementException, IllegalArgumentException, IllegalStateException {
        Printer taker = findPrinter(printer);
        if (t < now) {
            throw new IllegalArgumentException();
        }
        if (taker.part != null) {
            throw new IllegalStateException();
        }
        now = t;
        Part chosen = choosePart(taker);
        if (chosen == null) {
            return 0;
        }
        bringTo(taker, chosen);
        return chosen.job.number;
    }

    public int print(int printer, int pages) throws NoSuchElementException, IllegalArgumentException {
        Printer from = findPrinter(printer);
        if (!isWithin(pages, 0, MOST_PAGES_A_CALL)) {
            throw new IllegalArgumentException();
        }
        Part part = from.part;
        if (part == null) {
            return 0;
        }
        int out = 0;
        for (int turn = 0; turn < MOST_COPIES && out < pages && part.wholeCopies < part.copies; turn++) {
            out += printInCopy(from, part, pages - out);
        }
        if (part.wholeCopies >= part.copies) {
            part.stage = PART_OVER;
            from.part = null;
        }
        return out;
    }

    public int fault(int printer) throws NoSuchElementException {
        Printer faulty = findPrinter(printer);
        Part part = faulty.part;
        if (part == null) {
            return 0;
        }
        faulty.part = null;
        part.stage = PART_WAITS;
        if (part.pagesOfCopy > 0) {
            doubleLastPage(part);
        }
        return part.pagesOfCopy + 1;
    }

    public int hold(int job, boolean on) throws NoSuchElementException {
        Job found = findJob(job);
        int before = asNumber(found.held);
        found.held = on;
        return before;
    }

    public int cancel(int job) throws NoSuchElementException {
        Job found = findJob(job);
        int gone = 0;
        for (Part part = found.firstPart; part != null; part = part.next) {
            if (part.stage != PART_OVER) {
                part.stage = PART_OVER;
                gone++;
            }
        }
        // A done job has no part to lose and stays done.
        if (gone > 0) {
            found.cancelled = true;
            emptyPrintersOf(found);
        }
        return gone;
    }

    public int state(int job, int what) throws NoSuchElementException, IndexOutOfBoundsException {
        Job found = findJob(job);
        switch (what) {
            case 0:
                return found.condition();
            case 1:
                return found.pagesThatCount();
            case 2:
                return found.wholeCopies();
            case 3:
                return found.partsHad();
            case 4:
                return asNumber(found.held);
            default:
                throw new IndexOutOfBoundsException();
        }
    }

    public int doubled(int job, int i) throws NoSuchElementException, IndexOutOfBoundsException {
        Job found = findJob(job);
        int before = 0;
        for (int row = 0; row < doubledCount && row < MOST_DOUBLED; row++) {
            if (doubledJobs[row] == found.number) {
                if (before == i) {
                    return doubledPages[row];
                }
                before++;
            }
        }
        if (i != -1) {
            throw new IndexOutOfBoundsException();
        }
        return before;
    }

    public long account(int who, int what) throws NoSuchElementException, IndexOutOfBoundsException {
        Ticket found = findTicket(who);
        switch (what) {
            case 0:
                return found.pagesOut;
            case 1:
                return found.sheets;
            case 2:
                return found.changes;
            case 3:
                return found.pagesDoubled;
            default:
                throw new IndexOutOfBoundsException();
        }
    }

    public int reason(int job) throws NoSuchElementException {
        Job found = findJob(job);
        if (!found.hasPartThat(PART_WAITS)) {
            return NONE_WAITS;
        }
        if (found.held) {
            return IS_HELD;
        }
        if (found.time > now) {
            return TIME_IS_LATER;
        }
        return reasonByPrinters(found);
    }

    public int split(int job, int printer, int copies) throws NoSuchElementException {
        Job found = findJob(job);
        Printer alone = findPrinter(printer);
        if (copies < 1) {
            return 0;
        }
        Part last = null;
        Part source = null;
        for (Part part = found.firstPart; part != null; part = part.next) {
            if (source == null && canLose(part, copies)) {
                source = part;
            }
            last = part;
        }
        if (source == null || last == null) {
            return 0;
        }
        source.copies -= copies;
        last.next = new Part(found, alone.number, copies);
        return 1;
    }

    public int like(int most) throws IllegalArgumentException {
        if (!isWithin(most, 0, MOST_BOUND)) {
            throw new IllegalArgumentException();
        }
        int before = bound;
        bound = most;
        return before;
    }

    private static boolean isWithin(int value, int least, int most) {
        return value >= least && value <= most;
    }

    private static int asNumber(boolean flag) {
        return flag ? 1 : 0;
    }

    private Printer findPrinter(int number) {
        Printer found = isWithin(number, 1, printers.length) ? printers[number - 1] : null;
        if (found == null) {
            throw new NoSuchElementException();
        }
        return found;
    }

    private Ticket findTicket(int number) {
        Ticket found = isWithin(number, 1, tickets.length) ? tickets[number - 1] : null;
        if (found == null) {
            throw new NoSuchElementException();
        }
        return found;
    }

    private Job findJob(int number) {
        Job found = isWithin(number, 1, jobs.length) ? jobs[number - 1] : null;
        if (found == null) {
            throw new NoSuchElementException();
        }
        return found;
    }

    private Part choosePart(Printer taker) {
        Part best = null;
        for (Job job : jobs) {
            if (job != null && !job.held && job.time <= now) {
                Part offered = firstPartFor(job, taker);
                if (offered != null && (best == null || goesBefore(job, best.job, taker))) {
                    best = offered;
                }
            }
        }
        return best;
    }

    /** The least part of a job that waits and that the printer fits; null when there is none. */
    private static Part firstPartFor(Job job, Printer taker) {
        for (Part part = job.firstPart; part != null; part = part.next) {
            if (part.stage == PART_WAITS && taker.fits(part)) {
                return part;
            }
        }
        return null;
    }

    /** Jobs are offered by number, so that of equals the one offered earlier stays. */
    private boolean goesBefore(Job offered, Job best, Printer taker) {
        if (offered.rank != best.rank) {
            return offered.rank > best.rank;
        }
        boolean offeredIsLike = offered.ticket.media == taker.media;
        boolean bestIsLike = best.ticket.media == taker.media;
        if (taker.likeNumber < bound && offeredIsLike != bestIsLike) {
            return offeredIsLike;
        }
        return offered.time < best.time;
    }

    private static void bringTo(Printer taker, Part chosen) {
        Ticket ticket = chosen.job.ticket;
        if (ticket.media != taker.media) {
            taker.media = ticket.media;
            taker.likeNumber = 0;
            ticket.changes++;
        } else {
            taker.likeNumber++;
        }
        chosen.stage = PART_AT_PRINTER;
        taker.part = chosen;
        taker.sheetIsDue = true;
    }

    /** Prints on in the copy that is begun or begins next, to its end at most: how many pages. */
    private static int printInCopy(Printer from, Part part, int most) {
        int before = part.pagesOfCopy;
        int count = Math.min(most, part.job.pages - before);
        Ticket ticket = part.job.ticket;
        ticket.pagesOut += count;
        ticket.sheets += ticket.sides == 1 ? count : sheetsOfTwoSides(before, count, from.sheetIsDue);
        from.sheetIsDue = false;
        part.countPages(count);
        return count;
    }

    /** New sheets for the pages before + 1 .. before + count of a copy, count being 1 at least. */
    private static int sheetsOfTwoSides(int before, int count, boolean sheetIsDue) {
        int oddPages = (before + count + 1) / 2 - (before + 1) / 2;
        boolean firstIsEven = before % 2 == 1;
        return sheetIsDue && firstIsEven ? oddPages + 1 : oddPages;
    }

    private void doubleLastPage(Part part) {
        if (doubledCount < MOST_DOUBLED) {
            doubledJobs[doubledCount] = part.job.number;
            doubledPages[doubledCount] = COPY_WEIGHT * (part.wholeCopies + 1) + part.pagesOfCopy;
            doubledCount++;
        }
        part.pagesOfCopy--;
        part.job.ticket.pagesDoubled++;
    }

    private void emptyPrintersOf(Job job) {
        for (Printer printer : printers) {
            if (printer != null && printer.part != null && printer.part.job == job) {
                printer.part = null;
            }
        }
    }

    private int reasonByPrinters(Job job) {
        boolean someFits = false;
        for (Printer printer : printers) {
            if (printer != null && firstPartFor(job, printer) != null) {
                if (printer.part == null) {
                    return ONE_COULD_TAKE;
                }
                someFits = true;
            }
        }
        return someFits ? ALL_THAT_FIT_HAVE_PARTS : NO_PRINTER_FITS;
    }

    private static boolean canLose(Part part, int copies) {
        return part.stage == PART_WAITS && part.onlyPrinter == ANY_PRINTER
                && part.untouchedCopies() > copies;
    }
}
