import java.util.ArrayList;
import java.util.List;
import java.util.NoSuchElementException;
import java.util.Random;
import java.util.stream.Collectors;

/**
 * Random runs of 512 calls against a model that follows the document sentence by sentence, page by page.
 * The model keeps a mark for every page and shares no way of counting with the class.
 */
public final class ModelTest {
    private static final int RUNS = 3000;
    private static final int CALLS = 512;

    private static final class Sheetfed {
        int media;
        int sides;
        int like;
        Portion portion;
        boolean firstPage;
    }

    private static final class Slip {
        int media;
        int sides;
        final long[] accounts = new long[4];
    }

    private static final class Order {
        int number;
        Slip slip;
        int pages;
        int rank;
        long time;
        boolean held;
        boolean cancelled;
        final List<Portion> portions = new ArrayList<>();
        final List<Integer> doubled = new ArrayList<>();
    }

    private static final class Portion {
        Order order;
        int alone;
        char where = 'w';
        final List<boolean[]> copies = new ArrayList<>();
        int printedPages() {
            int n = 0;
            for (boolean[] copy : copies) {
                for (boolean page : copy) {
                    n += page ? 1 : 0;
                }
            }
            return n;
        }
    }

    private static final class Model {
        final List<Sheetfed> printers = new ArrayList<>();
        final List<Slip> tickets = new ArrayList<>();
        final List<Order> jobs = new ArrayList<>();
        int bound = 3;
        long now = 0;

        static <T> T at(List<T> all, int number) {
            if (number < 1 || number > all.size()) {
                throw new NoSuchElementException();
            }
            return all.get(number - 1);
        }

        static void need(boolean fine) {
            if (!fine) {
                throw new IllegalArgumentException();
            }
        }

        static void room(boolean fine) {
            if (!fine) {
                throw new UnsupportedOperationException();
            }
        }

        int printer(int media, int sides) {
            need(media >= 0 && media <= 7 && (sides == 1 || sides == 2));
            room(printers.size() < 8);
            Sheetfed p = new Sheetfed();
            p.media = media;
            p.sides = sides;
            printers.add(p);
            return printers.size();
        }

        int ticket(int media, int sides, int finish) {
            need(media >= 0 && media <= 7 && (sides == 1 || sides == 2) && finish >= 0 && finish <= 3);
            room(tickets.size() < 20);
            Slip s = new Slip();
            s.media = media;
            s.sides = sides;
            tickets.add(s);
            return tickets.size();
        }

        int job(int ticket, int pages, int copies, int rank, long t) {
            Slip slip = at(tickets, ticket);
            need(pages >= 1 && pages <= 500 && copies >= 1 && copies <= 100 && rank >= 0 && rank <= 9 && t >= 0);
            room(jobs.size() < 60);
            Order o = new Order();
            o.slip = slip;
            o.pages = pages;
            o.rank = rank;
            o.time = t;
            jobs.add(o);
            o.number = jobs.size();
            Portion p = new Portion();
            p.order = o;
            for (int i = 0; i < copies; i++) {
                p.copies.add(new boolean[pages]);
            }
            o.portions.add(p);
            return o.number;
        }

        boolean fits(int printer, Portion p) {
            return at(printers, printer).sides >= p.order.slip.sides && (p.alone == 0 || p.alone == printer);
        }

        int take(int printer, long t) {
            Sheetfed taker = at(printers, printer);
            need(t >= now);
            if (taker.portion != null) {
                throw new IllegalStateException();
            }
            now = t;
            List<Portion> left = new ArrayList<>();
            for (Order o : jobs) {
                for (Portion p : o.portions) {
                    if (p.where == 'w' && !o.held && o.time <= now && fits(printer, p)) {
                        left.add(p);
                    }
                }
            }
            if (left.isEmpty()) {
                return 0;
            }
            int rank = left.stream().mapToInt(p -> p.order.rank).max().getAsInt();
            left = left.stream().filter(p -> p.order.rank == rank).collect(Collectors.toList());
            if (taker.like < bound && left.stream().anyMatch(p -> p.order.slip.media == taker.media)) {
                left = left.stream().filter(p -> p.order.slip.media == taker.media).collect(Collectors.toList());
            }
            long time = left.stream().mapToLong(p -> p.order.time).min().getAsLong();
            Portion one = left.stream().filter(p -> p.order.time == time).findFirst().get();
            if (one.order.slip.media == taker.media) {
                taker.like++;
            } else {
                taker.media = one.order.slip.media;
                taker.like = 0;
                one.order.slip.accounts[2]++;
            }
            one.where = 'p';
            taker.portion = one;
            taker.firstPage = true;
            return one.order.number;
        }

        int print(int printer, int pages) {
            Sheetfed p = at(printers, printer);
            need(pages >= 0 && pages <= 50000);
            int out = 0;
            while (out < pages && p.portion != null) {
                onePage(p);
                out++;
            }
            return out;
        }

        void onePage(Sheetfed p) {
            Order o = p.portion.order;
            int done = p.portion.printedPages();
            int page = done % o.pages + 1;
            p.portion.copies.get(done / o.pages)[page - 1] = true;
            o.slip.accounts[0]++;
            if (o.slip.sides == 1 || page % 2 == 1 || p.firstPage) {
                o.slip.accounts[1]++;
            }
            p.firstPage = false;
            if (done + 1 == p.portion.copies.size() * o.pages) {
                p.portion.where = 'o';
                p.portion = null;
            }
        }

        int fault(int printer) {
            Sheetfed p = at(printers, printer);
            if (p.portion == null) {
                return 0;
            }
            Portion part = p.portion;
            p.portion = null;
            part.where = 'w';
            int done = part.printedPages();
            int page = done % part.order.pages;
            if (page > 0) {
                int copy = done / part.order.pages;
                part.copies.get(copy)[page - 1] = false;
                part.order.doubled.add(1000 * (copy + 1) + page);
                part.order.slip.accounts[3]++;
                return page;
            }
            return 1;
        }

        int hold(int job, boolean on) {
            Order o = at(jobs, job);
            int was = o.held ? 1 : 0;
            o.held = on;
            return was;
        }

        int cancel(int job) {
            Order o = at(jobs, job);
            int gone = 0;
            for (Portion p : o.portions) {
                if (p.where == 'w' || p.where == 'p') {
                    p.where = 'g';
                    gone++;
                    for (Sheetfed s : printers) {
                        s.portion = s.portion == p ? null : s.portion;
                    }
                }
            }
            o.cancelled |= gone > 0;
            return gone;
        }

        int state(int job, int what) {
            Order o = at(jobs, job);
            if (what < 0 || what > 4) {
                throw new IndexOutOfBoundsException();
            }
            int pages = 0;
            int whole = 0;
            for (Portion p : o.portions) {
                pages += p.printedPages();
                whole += p.printedPages() / o.pages;
            }
            boolean prints = o.portions.stream().anyMatch(p -> p.where == 'p');
            boolean done = o.portions.stream().allMatch(p -> p.where == 'o');
            int kind = o.cancelled ? 3 : done ? 2 : prints ? 1 : 0;
            return new int[] {kind, pages, whole, o.portions.size(), o.held ? 1 : 0}[what];
        }

        int doubled(int job, int i) {
            Order o = at(jobs, job);
            if (i == -1) {
                return o.doubled.size();
            }
            if (i < 0 || i >= o.doubled.size()) {
                throw new IndexOutOfBoundsException();
            }
            return o.doubled.get(i);
        }

        long account(int who, int what) {
            Slip s = at(tickets, who);
            if (what < 0 || what > 3) {
                throw new IndexOutOfBoundsException();
            }
            return s.accounts[what];
        }

        int reason(int job) {
            Order o = at(jobs, job);
            List<Portion> waits = o.portions.stream().filter(p -> p.where == 'w').collect(Collectors.toList());
            if (waits.isEmpty()) {
                return 0;
            }
            if (o.held) {
                return 1;
            }
            if (o.time > now) {
                return 2;
            }
            int answer = 3;
            for (Portion p : waits) {
                for (int n = 1; n <= printers.size(); n++) {
                    if (fits(n, p)) {
                        answer = Math.max(answer, printers.get(n - 1).portion == null ? 5 : 4);
                    }
                }
            }
            return answer;
        }

        int split(int job, int printer, int copies) {
            Order o = at(jobs, job);
            at(printers, printer);
            if (copies < 1) {
                return 0;
            }
            for (Portion p : o.portions) {
                int clean = 0;
                for (boolean[] copy : p.copies) {
                    clean += copy[0] ? 0 : 1;
                }
                if (p.where == 'w' && p.alone == 0 && clean - 1 >= copies) {
                    Portion fresh = new Portion();
                    fresh.order = o;
                    fresh.alone = printer;
                    for (int i = 0; i < copies; i++) {
                        fresh.copies.add(p.copies.remove(p.copies.size() - 1));
                    }
                    o.portions.add(fresh);
                    return 1;
                }
            }
            return 0;
        }

        int like(int most) {
            need(most >= 0 && most <= 100);
            int was = bound;
            bound = most;
            return was;
        }
    }

    private final Check check;
    private final Random random;
    private final PrintQueue queue = new PrintQueue();
    private final Model model = new Model();
    private final int medias;
    private final int ranks;
    private long clock = 0;

    private ModelTest(Check check, int run) {
        this.check = check;
        this.random = new Random(7919L * run + 1);
        this.medias = 1 + random.nextInt(8);
        this.ranks = 1 + random.nextInt(10);
        check.topic("run " + run);
    }

    public static void main(String[] args) {
        Check check = new Check();
        for (int run = 0; run < RUNS && check.isClean(); run++) {
            ModelTest test = new ModelTest(check, run);
            for (int call = 0; call < CALLS && check.isClean(); call++) {
                test.step();
            }
        }
        check.end();
    }

    private int upTo(int most) {
        return random.nextInt(most + 1);
    }

    /** Mostly a number that there is, now and then one just outside or far away. */
    private int numberOf(int count) {
        int chance = upTo(40);
        if (chance == 0) {
            return upTo(1) * (count + 1);
        }
        if (chance == 1) {
            return random.nextInt();
        }
        return count == 0 ? 1 : 1 + upTo(count - 1);
    }

    private int around(int least, int most) {
        return upTo(30) == 0 ? (upTo(1) == 0 ? least - 1 : most + 1) : least + upTo(most - least);
    }

    private void compare(String call, Check.Call got, Check.Call want) {
        check.tell(call, Check.answerOf(want), Check.answerOf(got));
    }

    private void step() {
        int chance = upTo(99);
        if (chance < 6) {
            stepSetUp();
        } else if (chance < 16) {
            stepJob();
        } else if (chance < 36) {
            stepTake();
        } else if (chance < 56) {
            stepPrint();
        } else if (chance < 75) {
            stepChange();
        } else {
            stepAsk();
        }
    }

    private void stepSetUp() {
        int media = around(0, medias - 1);
        int sides = around(1, 2);
        int finish = around(0, 3);
        int most = around(0, upTo(3) == 0 ? 100 : 3);
        switch (upTo(4)) {
            case 0:
            case 1:
                compare("printer(" + media + ", " + sides + ")",
                        () -> queue.printer(media, sides), () -> model.printer(media, sides));
                break;
            case 2:
            case 3:
                compare("ticket(" + media + ", " + sides + ", " + finish + ")",
                        () -> queue.ticket(media, sides, finish), () -> model.ticket(media, sides, finish));
                break;
            default:
                compare("like(" + most + ")", () -> queue.like(most), () -> model.like(most));
        }
    }

    private void stepJob() {
        int ticket = numberOf(model.tickets.size());
        int pages = upTo(40) == 0 ? around(1, 500) : around(1, 6);
        int copies = upTo(40) == 0 ? around(1, 100) : around(1, 5);
        int rank = around(0, ranks - 1);
        long t = upTo(30) == 0 ? -1 - upTo(3) : clock - Math.min(clock, 5) + upTo(10);
        compare("job(" + ticket + ", " + pages + ", " + copies + ", " + rank + ", " + t + ")",
                () -> queue.job(ticket, pages, copies, rank, t), () -> model.job(ticket, pages, copies, rank, t));
    }

    private void stepTake() {
        int printer = numberOf(model.printers.size());
        clock += upTo(2) == 0 ? upTo(2) : 0;
        long t = upTo(30) == 0 ? model.now - 1 : clock;
        compare("take(" + printer + ", " + t + ")", () -> queue.take(printer, t), () -> model.take(printer, t));
        clock = Math.max(clock, model.now);
    }

    private void stepPrint() {
        int printer = numberOf(model.printers.size());
        int pages = upTo(12) == 0 ? around(0, 50000) : upTo(40) == 0 ? -1 - upTo(1) : upTo(9);
        compare("print(" + printer + ", " + pages + ")",
                () -> queue.print(printer, pages), () -> model.print(printer, pages));
    }

    private void stepChange() {
        int printer = numberOf(model.printers.size());
        int job = numberOf(model.jobs.size());
        boolean on = upTo(3) == 0;
        int copies = around(0, 4);
        int chance = upTo(18);
        if (chance < 6) {
            compare("fault(" + printer + ")", () -> queue.fault(printer), () -> model.fault(printer));
        } else if (chance < 11) {
            compare("hold(" + job + ", " + on + ")", () -> queue.hold(job, on), () -> model.hold(job, on));
        } else if (chance < 12) {
            compare("cancel(" + job + ")", () -> queue.cancel(job), () -> model.cancel(job));
        } else {
            compare("split(" + job + ", " + printer + ", " + copies + ")",
                    () -> queue.split(job, printer, copies), () -> model.split(job, printer, copies));
        }
    }

    private void stepAsk() {
        int job = numberOf(model.jobs.size());
        int ticket = numberOf(model.tickets.size());
        int what = around(0, 4);
        int i = around(-1, 3);
        switch (upTo(3)) {
            case 0:
                compare("state(" + job + ", " + what + ")",
                        () -> queue.state(job, what), () -> model.state(job, what));
                break;
            case 1:
                compare("doubled(" + job + ", " + i + ")",
                        () -> queue.doubled(job, i), () -> model.doubled(job, i));
                break;
            case 2:
                compare("account(" + ticket + ", " + what + ")",
                        () -> queue.account(ticket, what), () -> model.account(ticket, what));
                break;
            default:
                compare("reason(" + job + ")", () -> queue.reason(job), () -> model.reason(job));
        }
    }
}
