/** The machine: promises 8 to 12, 16, 17 and 24 to 26, and the paragraphs "Purges", "Dryers", "Time" and "Runs". */
public final class MachineTest {
    private static final Rows ROWS = new Rows("MachineTest");

    /** The shades 2 and 5; crates of 4, 3 and 5; the family 0 takes 5 minutes and 10 grams a shot. */
    private static final String FLOOR = """
        colour(2) = 0
        colour(5) = 1
        part(4) = 0
        part(3) = 1
        part(5) = 2
        family("5 10 0x2 1x1") = 0
        """;
    /** The family is mounted, and granulate is dry at once. */
    private static final String READY = FLOOR + """
        set(1, 0) = 60
        mount(0) = 0
        load(0, 0, 50000) = 50000
        load(1, 1, 50000) = 50000
        """;

    public static void main(String[] args) {
        purges();
        purgeOfNone();
        dryers();
        load();
        empty();
        drying();
        time();
        weekEnds();
        shorterWeeks();
        longerWeeks();
        mount();
        mountedWeeks();
        pause();
        run();
        runReasons();
        runDryers();
        runGrams();
        runMinutes();
        crates();
        scrapOfPurges();
        rest();
        minutes();
        askedDryers();
        askedStock();
        askedMade();
        ROWS.end();
    }

    private static void purges() {
        String rows = """
            colour(4) = 0
            colour(4) = 1
            colour(3) = 2
            colour(9) = 3
            colour(0) = 4
            """;
        ROWS.test("The purge to a darker colour is 1", rows, """
            purge(2, 0) = 1
            purge(4, 3) = 1
            """);
        ROWS.test("The purge to another colour of the same shade is 1", rows, """
            purge(0, 1) = 1
            purge(1, 0) = 1
            """);
        ROWS.test("The purge to a lighter colour is 1 and the difference times the factor", rows, """
            purge(0, 2) = 3
            purge(3, 0) = 11
            purge(3, 4) = 19
            purge(2, 4) = 7
            """);
        ROWS.test("The purge by the factor 0 is 1", rows, """
            set(2, 0) = 2
            purge(3, 4) = 1
            purge(4, 3) = 1
            purge(0, 2) = 1
            purge(0, 0) = 0
            """);
        ROWS.test("The purge by the factor 5", rows, """
            set(2, 5) = 2
            purge(3, 4) = 46
            purge(4, 3) = 1
            purge(0, 2) = 6
            purge(0, 1) = 1
            """);
        ROWS.test("The purge from a colour to itself is 0", rows, """
            purge(0, 0) = 0
            purge(3, 3) = 0
            purge(4, 4) = 0
            """);
        ROWS.test("Promise 16: one of them is no colour", rows, """
            purge(5, 0) throws Index
            purge(0, 5) throws Index
            purge(-1, 0) throws Index
            purge(0, -1) throws Index
            purge(5, 5) throws Index
            purge(-1, -1) throws Index
            purge(min, 0) throws Index
            purge(0, max) throws Index
            """);
        ROWS.test("Promise 16: no colour, though another floor might have it", "colour(1) = 0", """
            purge(0, 1) throws Index
            purge(1, 0) throws Index
            """);
    }

    private static void purgeOfNone() {
        ROWS.test("If the machine has no colour, the purge is 0", READY, """
            account(7) = -1
            minutes(0, 1) = 5
            minutes(1, 1) = 5
            run(1, 2) = 0
            account(12) = 0
            made(0, 3) = 0
            """);
        ROWS.test("The machine has the colour of its latest run", READY, """
            run(1, 1) = 0
            account(7) = 1
            run(0, 1) = 7
            account(7) = 0
            run(0, 1) = 0
            account(7) = 0
            run(1, 1) = 1
            account(7) = 1
            undo() = 7
            account(7) = 0
            """);
        ROWS.test("A refused run leaves the colour of the machine", READY, """
            run(0, 1) = 0
            run(1, 201) refused 2.0
            account(7) = 0
            mount(0) refused 4.0
            account(7) = 0
            """);
        ROWS.test("The colour of the machine stays when another family is mounted", READY, """
            run(1, 1) = 0
            family("1 1 2x3") = 1
            mount(1) = 0
            account(7) = 1
            run(0, 1) = 7
            """);
    }

    private static void dryers() {
        ROWS.test("There are the dryers 0 to 2", FLOOR, """
            load(-1, 0, 5) refused 1.0
            load(3, 0, 5) refused 1.0
            load(0, 0, 5) = 5
            load(2, 0, 5) = 5
            load(min, 0, 5) refused 1.0
            load(max, 0, 5) refused 1.0
            empty(-1) refused 1.0
            empty(3) refused 1.0
            empty(min) refused 1.0
            empty(max) refused 1.0
            empty(0) = 5
            empty(2) = 5
            """);
        ROWS.test("A dryer has 1 gram at least", FLOOR, """
            load(1, 0, 0) refused 2.0
            load(1, 0, -1) refused 2.0
            load(1, 0, min) refused 2.0
            dryer(1, 0) = -1
            load(1, 0, 1) = 1
            dryer(1, 0) = 0
            dryer(1, 1) = 1
            """);
        ROWS.test("A dryer has 99999 grams at most, loaded at once", FLOOR, """
            load(1, 0, 100000) refused 2.0
            load(1, 0, max) refused 2.0
            load(1, 0, 99999) = 99999
            dryer(1, 1) = 99999
            load(1, 0, 1) refused 7.0
            load(1, 0, 99999) refused 7.0
            """);
        ROWS.test("A dryer has 99999 grams at most, loaded by and by", FLOOR, """
            load(1, 0, 40000) = 40000
            load(1, 0, 60000) refused 7.0
            load(1, 0, 59999) = 99999
            load(1, 0, 1) refused 7.0
            dryer(1, 1) = 99999
            load(0, 0, 1) = 1
            load(0, 0, 99999) refused 7.0
            load(0, 0, 99998) = 99999
            """);
        ROWS.test("A dryer has granulate of one colour", FLOOR, """
            load(1, 1, 5) = 5
            load(1, 0, 5) refused 6.1
            load(2, 0, 5) = 5
            load(2, 1, 5) refused 6.0
            empty(1) = 5
            load(1, 0, 7) = 7
            load(1, 1, 5) refused 6.0
            """);
        ROWS.test("A dryer that a run empties may get another colour", READY, """
            empty(0) = 50000
            load(0, 0, 20) = 20
            load(0, 1, 5) refused 6.0
            run(0, 2) = 0
            dryer(0, 0) = -1
            dryer(0, 1) = 0
            dryer(0, 2) = 0
            empty(0) refused 8.0
            load(0, 1, 5) = 5
            dryer(0, 0) = 1
            """);
        ROWS.test("A dryer that a run leaves a gram is not empty", READY, """
            empty(0) = 50000
            load(0, 0, 21) = 21
            run(0, 2) = 0
            dryer(0, 0) = 0
            dryer(0, 1) = 1
            load(0, 1, 5) refused 6.0
            empty(0) = 1
            """);
    }

    private static void load() {
        ROWS.test("Promise 9: all that it has then has dried for 0 minutes", FLOOR, """
            load(0, 0, 5) = 5
            load(1, 0, 5) = 5
            pause(59) = 0
            dryer(0, 2) = 59
            load(0, 0, 1) = 6
            dryer(0, 2) = 0
            dryer(0, 3) = 60
            dryer(1, 2) = 59
            """);
        ROWS.test("Promise 9: there is no such colour", FLOOR, """
            load(0, -1, 5) refused 1.0
            load(0, 2, 5) refused 1.0
            load(0, 6, 5) refused 1.0
            load(0, min, 5) refused 1.0
            load(0, max, 5) refused 1.0
            load(0, 1, 5) = 5
            """);
        ROWS.test("Promise 9: the reason 1 is looked at ahead of 2", FLOOR, """
            load(3, 0, 0) refused 1.0
            load(0, 2, 0) refused 1.0
            load(-1, 0, 100000) refused 1.0
            """);
        ROWS.test("Promise 9: the reason 1 is looked at ahead of 6 and 7", FLOOR, """
            load(0, 0, 99999) = 99999
            load(0, 2, 1) refused 1.0
            load(0, -1, 99999) refused 1.0
            """);
        ROWS.test("Promise 9: the reason 2 is looked at ahead of 6", FLOOR, """
            load(0, 0, 5) = 5
            load(0, 1, 0) refused 2.0
            load(0, 1, 100000) refused 2.0
            """);
        ROWS.test("Promise 9: the reason 2 is looked at ahead of 7", FLOOR, """
            load(0, 0, 99999) = 99999
            load(0, 0, 100000) refused 2.0
            load(0, 0, 0) refused 2.0
            """);
        ROWS.test("Promise 9: the reason 6 is looked at ahead of 7", FLOOR, """
            load(0, 0, 99999) = 99999
            load(0, 1, 1) refused 6.0
            load(0, 1, 99999) refused 6.0
            """);
    }

    private static void empty() {
        ROWS.test("Promise 10: empty returns the grams that it had", FLOOR, """
            load(0, 1, 1) = 1
            load(1, 1, 99999) = 99999
            account(9) = 100000
            empty(1) = 99999
            account(9) = 1
            empty(0) = 1
            account(9) = 0
            account(10) = 0
            """);
        ROWS.test("Promise 10: a dryer that is empty", FLOOR, """
            empty(0) refused 8.0
            load(1, 0, 5) = 5
            empty(0) refused 8.0
            empty(2) refused 8.0
            empty(1) = 5
            empty(1) refused 8.0
            """);
        ROWS.test("Promise 10: an emptied dryer has no colour and has not dried", FLOOR, """
            load(1, 1, 5) = 5
            pause(9) = 0
            empty(1) = 5
            dryer(1, 0) = -1
            dryer(1, 1) = 0
            dryer(1, 2) = 0
            dryer(1, 3) = 0
            pause(9) = 0
            dryer(1, 2) = 0
            load(1, 0, 5) = 5
            dryer(1, 2) = 0
            """);
    }

    private static void drying() {
        ROWS.test("A dryer is dry if its minutes are at least the drying time", FLOOR, """
            mount(0) = 0
            load(2, 1, 100) = 100
            pause(59) = 0
            dryer(2, 3) = 1
            run(1, 1) refused 10.0 11.1
            pause(1) = 0
            dryer(2, 3) = 0
            run(1, 1) = 0
            """);
        ROWS.test("A dryer is dry by the drying time as it is set now", FLOOR, """
            mount(0) = 0
            load(2, 1, 100) = 100
            pause(40) = 0
            set(1, 41) = 60
            dryer(2, 3) = 1
            run(1, 1) refused 10.0 11.1
            set(1, 40) = 41
            dryer(2, 3) = 0
            run(1, 1) = 0
            set(1, 999) = 40
            dryer(2, 3) = 954
            run(1, 1) refused 10.0 11.954
            set(1, 0) = 999
            dryer(2, 3) = 0
            """);
        ROWS.test("With a drying time of 0 minutes granulate is dry at once", FLOOR, """
            mount(0) = 0
            set(1, 0) = 60
            load(2, 1, 10) = 10
            run(1, 1) = 0
            """);
        ROWS.test("Each dryer that is not empty has dried for so many minutes more", FLOOR, """
            load(0, 1, 5) = 5
            pause(7) = 0
            load(2, 0, 5) = 5
            pause(999) = 2
            dryer(0, 2) = 1006
            dryer(1, 2) = 0
            dryer(2, 2) = 999
            pause(999) = 2
            dryer(0, 2) = 2005
            """);
        ROWS.test("Dryers dry while a family is mounted and while a run is made", READY, """
            load(2, 1, 5) = 5
            run(0, 3) = 0
            dryer(2, 2) = 15
            dryer(0, 2) = 15
            family("1 1 2x3") = 1
            mount(1) = 0
            dryer(2, 2) = 25
            dryer(1, 2) = 25
            """);
    }

    private static void time() {
        ROWS.test("Minutes pass by mount, pause and run, and by nothing else", FLOOR, """
            account(5) = 0
            mount(0) = 0
            account(5) = 10
            load(0, 0, 100) = 100
            account(5) = 10
            pause(60) = 0
            account(5) = 70
            run(0, 2) = 0
            account(5) = 80
            empty(0) = 80
            order(0, 0, 1, 0) = 0
            callOff(0) = 0
            set(0, 100) = 480
            colour(0) = 2
            part(1) = 3
            family("1 1 0x1") = 1
            account(5) = 80
            account(6) = 0
            """);
    }

    private static void weekEnds() {
        ROWS.test("A week ends when so many minutes have passed as the setting tells: one fewer", """
            pause(479) = 0
            account(6) = 0
            pause(1) = 1
            account(6) = 1
            """);
        ROWS.test("A week ends when so many minutes have passed as the setting tells: just so many", """
            pause(480) = 1
            account(6) = 1
            pause(479) = 0
            pause(1) = 1
            account(6) = 2
            """);
        ROWS.test("A week ends when so many minutes have passed as the setting tells: one more", """
            pause(481) = 1
            account(6) = 1
            pause(478) = 0
            pause(1) = 1
            """);
        ROWS.test("Several weeks end in one pause", """
            set(0, 60) = 480
            pause(119) = 1
            pause(1) = 1
            pause(120) = 2
            pause(179) = 2
            account(6) = 6
            pause(1) = 1
            pause(999) = 16
            account(6) = 23
            pause(20) = 0
            pause(1) = 1
            """);
        ROWS.test("The minutes of the week count from the end of the one before", """
            set(0, 100) = 480
            pause(99) = 0
            pause(2) = 1
            pause(98) = 0
            pause(1) = 1
            """);
    }

    private static void shorterWeeks() {
        ROWS.test("If the setting becomes less, the week ends when the next minute passes", """
            pause(300) = 0
            set(0, 100) = 480
            account(6) = 0
            pause(1) = 1
            account(6) = 1
            """);
        ROWS.test("A week ends at most once a minute", """
            pause(400) = 0
            set(0, 60) = 480
            pause(1) = 1
            account(6) = 1
            """);
        ROWS.test("The next week begins when one has ended that became too long", """
            pause(400) = 0
            set(0, 60) = 480
            pause(1) = 1
            pause(59) = 0
            pause(1) = 1
            account(6) = 2
            """);
        ROWS.test("A week that became too long and the next one in one pause", """
            pause(400) = 0
            set(0, 60) = 480
            pause(60) = 1
            pause(1) = 1
            undo() = 3
            undo() = 2
            pause(61) = 2
            undo() = 2
            pause(121) = 3
            """);
        ROWS.test("No minute passes by a setting", """
            pause(479) = 0
            set(0, 60) = 480
            account(5) = 479
            account(6) = 0
            """);
        ROWS.test("A week of just as many minutes as the setting becomes ends with the next one", """
            pause(100) = 0
            set(0, 100) = 480
            account(6) = 0
            pause(1) = 1
            pause(99) = 0
            pause(1) = 1
            """);
        ROWS.test("A week of one minute less than the setting becomes ends with the next one", """
            pause(99) = 0
            set(0, 100) = 480
            pause(1) = 1
            pause(99) = 0
            pause(1) = 1
            """);
        ROWS.test("A week that is not yet so long as the setting becomes goes on", """
            pause(98) = 0
            set(0, 100) = 480
            pause(1) = 0
            pause(1) = 1
            """);
        ROWS.test("A setting that becomes less and more again ends no week", """
            pause(300) = 0
            set(0, 100) = 480
            set(0, 480) = 100
            pause(179) = 0
            pause(1) = 1
            """);
        ROWS.test("A run ends a week that became too long", READY, """
            pause(300) = 0
            order(0, 0, 1, 0) = 0
            set(0, 60) = 480
            run(0, 2) = 0
            account(6) = 1
            orderOf(0, 5) = 1
            """);
        ROWS.test("A mount ends a week that became too long", FLOOR, """
            pause(300) = 0
            set(0, 60) = 480
            mount(0) = 1
            account(6) = 1
            pause(50) = 0
            pause(1) = 1
            """);
    }

    private static void longerWeeks() {
        ROWS.test("If the setting becomes more, the week ends later", """
            set(0, 100) = 480
            pause(99) = 0
            set(0, 200) = 100
            pause(100) = 0
            pause(1) = 1
            pause(199) = 0
            pause(1) = 1
            """);
    }

    private static void mount() {
        String rows = FLOOR + "family(\"1 1 2x3\") = 1\n";
        ROWS.test("Promise 8: there is no such family", rows, """
            mount(-1) refused 1.0
            mount(2) refused 1.0
            mount(6) refused 1.0
            mount(min) refused 1.0
            mount(max) refused 1.0
            mount(1) = 0
            """);
        ROWS.test("Promise 8: the family is mounted already", rows, """
            mount(1) = 0
            mount(1) refused 4.0
            mount(0) = 0
            mount(0) refused 4.0
            mount(1) = 0
            account(5) = 30
            """);
        ROWS.test("Promise 8: the minutes to mount pass", rows, """
            load(0, 0, 5) = 5
            set(3, 1) = 10
            mount(0) = 0
            account(5) = 1
            dryer(0, 2) = 1
            set(3, 99) = 1
            mount(1) = 0
            account(5) = 100
            dryer(0, 2) = 100
            """);
        ROWS.test("Promise 8: 0 minutes to mount", rows, """
            load(0, 0, 5) = 5
            set(3, 0) = 10
            mount(0) = 0
            account(5) = 0
            account(8) = 0
            mount(1) = 0
            dryer(0, 2) = 0
            """);
    }

    private static void mountedWeeks() {
        ROWS.test("Promise 8: mount returns how many weeks end: up to a minute before", FLOOR, """
            pause(469) = 0
            mount(0) = 0
            pause(1) = 1
            """);
        ROWS.test("Promise 8: mount returns how many weeks end: up to the end", FLOOR, """
            pause(470) = 0
            mount(0) = 1
            account(6) = 1
            pause(479) = 0
            pause(1) = 1
            """);
        ROWS.test("Promise 8: mount returns how many weeks end: two of them", FLOOR, """
            set(0, 60) = 480
            set(3, 99) = 10
            pause(21) = 0
            mount(0) = 2
            account(6) = 2
            """);
        ROWS.test("Promise 8: mount returns how many weeks end: a minute fewer than two", FLOOR, """
            set(0, 60) = 480
            set(3, 99) = 10
            pause(20) = 0
            mount(0) = 1
            pause(1) = 1
            """);
        ROWS.test("Promise 8: 0 minutes to mount end no week, though it became too long", FLOOR, """
            set(3, 0) = 10
            pause(300) = 0
            set(0, 60) = 480
            mount(0) = 0
            account(6) = 0
            pause(1) = 1
            """);
        ROWS.test("Promise 8: an order is delivered while a family is mounted", READY, """
            family("1 1 2x3") = 1
            order(0, 0, 1, 0) = 0
            run(0, 2) = 0
            pause(455) = 0
            letter(0) = 'o'
            mount(1) = 1
            letter(0) = 'd'
            """);
    }

    private static void pause() {
        ROWS.test("Promise 11: 1 minute at least", """
            pause(0) refused 2.0
            pause(-1) refused 2.0
            pause(min) refused 2.0
            pause(1) = 0
            account(5) = 1
            """);
        ROWS.test("Promise 11: 999 minutes at most", """
            pause(1000) refused 2.0
            pause(max) refused 2.0
            pause(999) = 2
            account(5) = 999
            """);
    }

    private static void run() {
        ROWS.test("Promise 12: 1 shot at least", READY, """
            run(0, 0) refused 2.0
            run(0, -1) refused 2.0
            run(0, min) refused 2.0
            run(0, 1) = 0
            account(11) = 1
            """);
        ROWS.test("Promise 12: 200 shots at most", READY, """
            run(0, 201) refused 2.0
            run(0, max) refused 2.0
            run(0, 200) = 0
            account(11) = 200
            account(10) = 2000
            """);
        ROWS.test("Promise 12: 200 shots at most, those of the purge not counted", READY, """
            run(1, 1) = 0
            run(0, 201) refused 2.0
            run(0, 200) = 7
            account(11) = 208
            account(12) = 7
            """);
        ROWS.test("Promise 12: there is no such colour", READY, """
            run(-1, 1) refused 1.0
            run(2, 1) refused 1.0
            run(6, 1) refused 1.0
            run(min, 1) refused 1.0
            run(max, 1) refused 1.0
            run(1, 1) = 0
            """);
        ROWS.test("Promise 12: no family is mounted", FLOOR, """
            set(1, 0) = 60
            load(0, 0, 100) = 100
            run(0, 1) refused 5.0
            mount(0) = 0
            run(0, 1) = 0
            """);
        ROWS.test("Promise 12: the largest run", """
            set(2, 5) = 2
            set(1, 0) = 60
            colour(9) = 0
            colour(0) = 1
            part(50) = 0
            part(49) = 1
            part(1) = 2
            family("99 406 0x9 1x9 2x9") = 0
            mount(0) = 0
            load(1, 0, 99999) = 99999
            load(0, 1, 99999) = 99999
            run(0, 1) = 0
            run(1, 200) = 46
            account(9) = 99716
            account(10) = 100282
            account(11) = 247
            account(5) = 24463
            account(6) = 50
            made(0, 0) = 2223
            made(0, 3) = 414
            stock(0, 1, 0) = 36
            stock(0, 1, 1) = 0
            stock(1, 1, 0) = 36
            stock(1, 1, 1) = 36
            stock(2, 1, 0) = 1800
            scrap() = 1242f/6669f
            """);
    }

    private static void runReasons() {
        ROWS.test("Promise 12: the reason 1 is looked at ahead of 2, 5 and 10", FLOOR, """
            run(2, 0) refused 1.0
            run(2, 201) refused 1.0
            run(2, 1) refused 1.0
            mount(0) = 0
            run(-1, 1) refused 1.0
            """);
        ROWS.test("Promise 12: the reason 2 is looked at ahead of 5", FLOOR, """
            run(0, 0) refused 2.0
            run(0, 201) refused 2.0
            """);
        ROWS.test("Promise 12: the reason 2 is looked at ahead of 10", FLOOR, """
            mount(0) = 0
            run(0, 0) refused 2.0
            load(0, 0, 9) = 9
            run(0, 201) refused 2.0
            """);
        ROWS.test("Promise 12: the reason 5 is looked at ahead of 10", FLOOR, """
            run(0, 1) refused 5.0
            load(0, 0, 9) = 9
            run(0, 1) refused 5.0
            """);
        ROWS.test("No dryer has what is needed, and none has the colour", FLOOR, """
            mount(0) = 0
            run(0, 1) refused 10.0
            load(0, 1, 5000) = 5000
            run(0, 1) refused 10.0
            pause(60) = 0
            load(1, 1, 5000) = 5000
            load(2, 1, 5000) = 5000
            run(0, 1) refused 10.0
            """);
        ROWS.test("Behind 10: the granulate of the lowest dryer with the colour is not dry", FLOOR, """
            mount(0) = 0
            load(2, 0, 5000) = 5000
            run(0, 1) refused 10.0 11.60
            pause(20) = 0
            load(1, 0, 5000) = 5000
            run(0, 1) refused 10.0 11.60
            load(0, 1, 5000) = 5000
            run(0, 1) refused 10.0 11.60
            pause(39) = 0
            run(0, 1) refused 10.0 11.21
            """);
        ROWS.test("Behind 10: there is too little granulate in the lowest dryer with the colour", FLOOR, """
            mount(0) = 0
            set(1, 0) = 60
            load(1, 0, 9) = 9
            load(2, 0, 19) = 19
            run(0, 2) refused 10.0 12.11
            run(0, 200) refused 10.0 12.1991
            load(0, 0, 1) = 1
            run(0, 2) refused 10.0 12.19
            """);
        ROWS.test("Behind 10: 11, or else 12, of the same dryer", FLOOR, """
            mount(0) = 0
            load(0, 0, 9) = 9
            run(0, 1) refused 10.0 11.60
            pause(60) = 0
            run(0, 1) refused 10.0 12.1
            load(1, 0, 100) = 100
            run(0, 1) refused 10.0 12.1
            load(0, 0, 1) = 10
            pause(59) = 0
            run(0, 1) refused 10.0 11.1
            """);
        ROWS.test("Behind 10: of the lowest dryer, though a higher one lacks something else", FLOOR, """
            mount(0) = 0
            load(2, 0, 9) = 9
            pause(60) = 0
            load(1, 0, 100) = 100
            run(0, 1) refused 10.0 11.60
            """);
        ROWS.test("The grams that are lacking count the purge", READY, """
            run(1, 1) = 0
            empty(0) = 50000
            load(0, 0, 79) = 79
            run(0, 1) refused 10.0 12.1
            load(0, 0, 1) = 80
            run(0, 1) = 7
            dryer(0, 0) = -1
            """);
    }

    private static void runDryers() {
        ROWS.test("The grams are taken from the lowest dryer that has the colour", READY, """
            load(2, 1, 100) = 100
            run(1, 3) = 0
            dryer(1, 1) = 49970
            dryer(2, 1) = 100
            dryer(0, 1) = 50000
            """);
        ROWS.test("The grams are taken from the lowest dryer that is dry", FLOOR, """
            mount(0) = 0
            load(2, 0, 100) = 100
            pause(1) = 0
            load(1, 0, 100) = 100
            pause(1) = 0
            load(0, 0, 100) = 100
            pause(58) = 0
            run(0, 1) = 0
            dryer(2, 1) = 90
            undo() = 7
            pause(1) = 0
            run(0, 1) = 0
            dryer(1, 1) = 90
            undo() = 7
            pause(1) = 0
            run(0, 1) = 0
            dryer(0, 1) = 90
            dryer(1, 1) = 100
            dryer(2, 1) = 100
            """);
        ROWS.test("The grams are taken from the lowest dryer that has as many", READY, """
            empty(0) = 50000
            empty(1) = 50000
            load(0, 0, 9) = 9
            load(1, 0, 19) = 19
            load(2, 0, 29) = 29
            run(0, 1) = 0
            dryer(1, 1) = 9
            run(0, 2) = 0
            dryer(2, 1) = 9
            dryer(0, 1) = 9
            run(0, 1) refused 10.0 12.1
            """);
        ROWS.test("The grams of a run are not taken from two dryers", READY, """
            empty(0) = 50000
            load(0, 0, 10) = 10
            load(2, 0, 10) = 10
            run(0, 2) refused 10.0 12.10
            run(0, 1) = 0
            run(0, 1) = 0
            account(9) = 50000
            """);
    }

    private static void runGrams() {
        ROWS.test("A run takes just what there is", READY, """
            empty(0) = 50000
            load(0, 0, 30) = 30
            run(0, 3) = 0
            dryer(0, 0) = -1
            account(10) = 30
            """);
        ROWS.test("A run does not take a gram more than there is", READY, """
            empty(0) = 50000
            load(0, 0, 29) = 29
            run(0, 3) refused 10.0 12.1
            """);
        ROWS.test("The grams for all shots are taken, those of the purge too", READY, """
            run(1, 2) = 0
            account(10) = 20
            run(0, 3) = 7
            account(10) = 120
            dryer(0, 1) = 49900
            dryer(1, 1) = 49980
            account(9) = 99880
            """);
    }

    private static void runMinutes() {
        ROWS.test("The minutes for all shots pass, those of the purge too", READY, """
            run(1, 2) = 0
            account(5) = 20
            run(0, 3) = 7
            account(5) = 70
            """);
        ROWS.test("The pieces of a run are there behind all its minutes, also for a week that ends with it", READY, """
            order(0, 0, 1, 0) = 0
            pause(460) = 0
            run(0, 2) = 0
            account(6) = 1
            letter(0) = 'l'
            stock(0, 0, 0) = 1
            pause(480) = 1
            letter(0) = 'd'
            orderOf(0, 5) = 1
            """);
        ROWS.test("The pieces of a run are there for a week that ends a minute behind it", READY, """
            order(0, 0, 1, 0) = 0
            pause(459) = 0
            run(0, 2) = 0
            account(6) = 0
            letter(0) = 'o'
            pause(1) = 1
            letter(0) = 'd'
            """);
        ROWS.test("The pieces of a run are not there for any of the weeks that end in it", READY, """
            set(0, 60) = 480
            order(0, 0, 1, 0) = 0
            order(0, 0, 1, 1) = 1
            run(0, 34) = 0
            account(6) = 3
            orderOf(0, 5) = 3
            orderOf(1, 5) = 2
            pause(60) = 1
            letter(0) = 'd'
            letter(1) = 'd'
            """);
        ROWS.test("The granulate of a run is gone and the others have dried by the end of it", FLOOR, """
            mount(0) = 0
            load(0, 0, 30) = 30
            pause(60) = 0
            load(0, 0, 5) = 35
            load(1, 0, 30) = 30
            pause(60) = 0
            run(0, 3) = 0
            dryer(0, 1) = 5
            dryer(0, 2) = 75
            dryer(1, 2) = 75
            """);
    }

    private static void crates() {
        String rows = """
            colour(0) = 0
            colour(1) = 1
            part(9) = 0
            part(10) = 1
            part(11) = 2
            family("1 1 0x1 1x1 2x1") = 0
            set(1, 0) = 60
            mount(0) = 0
            load(0, 0, 1000) = 1000
            load(1, 1, 1000) = 1000
            """;
        ROWS.test("A crate is closed when it has as many pieces as the crate size", rows, """
            run(0, 10) = 0
            stock(0, 0, 0) = 1
            stock(0, 0, 1) = 1
            stock(1, 0, 0) = 1
            stock(1, 0, 1) = 0
            stock(2, 0, 0) = 0
            stock(2, 0, 1) = 10
            run(0, 1) = 0
            stock(2, 0, 0) = 1
            stock(2, 0, 1) = 0
            stock(1, 0, 0) = 1
            stock(1, 0, 1) = 1
            """);
        ROWS.test("Several crates are closed by one run", rows, """
            run(0, 19) = 0
            stock(0, 0, 0) = 2
            stock(0, 0, 1) = 1
            stock(1, 0, 0) = 1
            stock(1, 0, 1) = 9
            run(0, 1) = 0
            stock(1, 0, 0) = 2
            stock(1, 0, 1) = 0
            run(0, 200) = 0
            stock(0, 0, 0) = 24
            stock(0, 0, 1) = 4
            stock(1, 0, 0) = 22
            stock(1, 0, 1) = 0
            stock(2, 0, 0) = 20
            stock(2, 0, 1) = 0
            """);
        ROWS.test("An open crate goes on with the next run, in the same colour alone", rows, """
            run(0, 4) = 0
            run(1, 6) = 1
            stock(0, 0, 1) = 4
            stock(0, 1, 1) = 6
            run(0, 5) = 3
            stock(0, 0, 0) = 1
            stock(0, 0, 1) = 0
            stock(0, 1, 0) = 0
            stock(0, 1, 1) = 6
            """);
        ROWS.test("An open crate goes on with another family that makes the part", rows, """
            family("1 1 1x6") = 1
            run(0, 5) = 0
            mount(1) = 0
            run(0, 1) = 0
            stock(1, 0, 0) = 1
            stock(1, 0, 1) = 1
            stock(0, 0, 1) = 5
            """);
    }

    private static void scrapOfPurges() {
        ROWS.test("The pieces of the shots of a purge are scrap, and among those that were made", READY, """
            run(1, 2) = 0
            made(0, 3) = 0
            made(0, 0) = 4
            run(0, 1) = 7
            made(0, 3) = 14
            made(0, 0) = 20
            made(1, 3) = 7
            made(1, 0) = 10
            made(2, 0) = 0
            made(2, 3) = 0
            stock(0, 0, 0) = 0
            stock(0, 0, 1) = 2
            stock(1, 0, 1) = 1
            """);
        ROWS.test("A run without a purge makes no scrap", READY, """
            run(0, 5) = 0
            run(0, 5) = 0
            made(0, 3) = 0
            account(12) = 0
            scrap() = 0f
            """);
    }

    private static void rest() {
        ROWS.test("The pieces in open crates are the rest, in all colours", READY, """
            run(1, 3) = 0
            made(0, 2) = 2
            made(1, 2) = 0
            run(0, 1) = 7
            made(0, 2) = 4
            made(1, 2) = 1
            run(0, 1) = 0
            made(0, 2) = 2
            made(1, 2) = 2
            made(2, 2) = 0
            """);
    }

    private static void minutes() {
        ROWS.test("Promise 17: the minutes of all shots, those of the purge too", READY, """
            minutes(0, 3) = 15
            minutes(1, 3) = 15
            run(1, 2) = 0
            minutes(1, 3) = 15
            minutes(0, 3) = 50
            """);
        ROWS.test("Promise 17: whatever the dryers have", FLOOR, """
            mount(0) = 0
            minutes(0, 200) = 1000
            load(0, 1, 5) = 5
            minutes(1, 200) = 1000
            """);
        ROWS.test("Promise 17: 1 to 200 shots", READY, """
            minutes(0, 0) throws Argument
            minutes(0, 1) = 5
            minutes(0, 200) = 1000
            minutes(0, 201) throws Argument
            minutes(0, -1) throws Argument
            minutes(0, min) throws Argument
            minutes(0, max) throws Argument
            """);
        ROWS.test("Promise 17: there is no such colour", READY, """
            minutes(-1, 1) throws Index
            minutes(2, 1) throws Index
            minutes(6, 1) throws Index
            minutes(min, 1) throws Index
            minutes(max, 1) throws Index
            """);
        ROWS.test("Promise 17: no family is mounted", FLOOR, """
            minutes(0, 1) throws State
            mount(0) = 0
            minutes(0, 1) = 5
            undo() = 6
            minutes(0, 1) throws State
            """);
        ROWS.test("Promise 17: the colour is looked at ahead of the shots, and these ahead of the family", FLOOR, """
            minutes(2, 0) throws Index
            minutes(2, 1) throws Index
            minutes(0, 0) throws Argument
            minutes(0, 201) throws Argument
            """);
    }

    private static void askedDryers() {
        String rows = FLOOR + """
            load(2, 1, 77) = 77
            pause(25) = 0
            """;
        ROWS.test("Promise 24: dryer", rows, """
            dryer(2, 0) = 1
            dryer(2, 1) = 77
            dryer(2, 2) = 25
            dryer(2, 3) = 35
            """);
        ROWS.test("Promise 24: -1 for the colour and 0 for the others if it is empty", rows, """
            dryer(1, 0) = -1
            dryer(1, 1) = 0
            dryer(1, 2) = 0
            dryer(1, 3) = 0
            """);
        ROWS.test("Promise 24: there is no such dryer", rows, """
            dryer(-1, 0) throws Index
            dryer(3, 0) throws Index
            dryer(min, 0) throws Index
            dryer(max, 0) throws Index
            """);
        ROWS.test("Promise 24: what is not from 0 to 3", rows, """
            dryer(0, -1) throws Argument
            dryer(0, 4) throws Argument
            dryer(2, min) throws Argument
            dryer(2, max) throws Argument
            """);
        ROWS.test("Promise 24: the dryer is looked at ahead of what", rows, """
            dryer(3, 4) throws Index
            dryer(-1, -1) throws Index
            """);
    }

    /** Closed and open crates, a purge, and a delivery. */
    private static final String BUSY = READY + """
        order(0, 0, 1, 0) = 0
        run(1, 7) = 0
        run(0, 5) = 7
        pause(480) = 1
        """;

    private static void askedStock() {
        ROWS.test("Promise 25: stock", BUSY, """
            stock(0, 0, 0) = 1
            stock(0, 0, 1) = 2
            stock(0, 0, 2) = 1
            stock(0, 1, 0) = 3
            stock(0, 1, 1) = 2
            stock(0, 1, 2) = 0
            stock(1, 0, 0) = 1
            stock(1, 0, 1) = 2
            stock(1, 1, 0) = 2
            stock(1, 1, 1) = 1
            stock(2, 0, 0) = 0
            stock(2, 1, 1) = 0
            """);
        ROWS.test("Promise 25: there is no such part", BUSY, """
            stock(-1, 0, 0) throws Index
            stock(3, 0, 0) throws Index
            stock(8, 0, 0) throws Index
            stock(min, 0, 0) throws Index
            stock(max, 0, 0) throws Index
            """);
        ROWS.test("Promise 25: there is no such colour", BUSY, """
            stock(0, -1, 0) throws Index
            stock(0, 2, 0) throws Index
            stock(0, 6, 0) throws Index
            stock(0, min, 0) throws Index
            stock(0, max, 0) throws Index
            """);
        ROWS.test("Promise 25: what is not from 0 to 2", BUSY, """
            stock(0, 0, -1) throws Argument
            stock(0, 0, 3) throws Argument
            stock(2, 1, min) throws Argument
            stock(2, 1, max) throws Argument
            """);
        ROWS.test("Promise 25: the part and the colour are looked at ahead of what", BUSY, """
            stock(3, 0, 3) throws Index
            stock(0, 2, -1) throws Index
            """);
    }

    private static void askedMade() {
        ROWS.test("Promise 26: made", BUSY, """
            made(0, 0) = 38
            made(0, 1) = 20
            made(0, 2) = 4
            made(0, 3) = 14
            made(1, 0) = 19
            made(1, 1) = 9
            made(1, 2) = 3
            made(1, 3) = 7
            made(2, 0) = 0
            made(2, 1) = 0
            made(2, 2) = 0
            made(2, 3) = 0
            """);
        ROWS.test("Promise 26: the pieces in closed crates count, delivered or not", BUSY, """
            stock(0, 0, 2) = 1
            made(0, 1) = 20
            order(0, 1, 3, 1) = 1
            pause(480) = 1
            stock(0, 1, 2) = 3
            stock(0, 1, 0) = 0
            made(0, 1) = 20
            """);
        ROWS.test("Promise 26: there is no such part", BUSY, """
            made(-1, 0) throws Index
            made(3, 0) throws Index
            made(8, 0) throws Index
            made(min, 0) throws Index
            made(max, 0) throws Index
            """);
        ROWS.test("Promise 26: what is not from 0 to 3", BUSY, """
            made(0, -1) throws Argument
            made(0, 4) throws Argument
            made(2, min) throws Argument
            made(2, max) throws Argument
            """);
        ROWS.test("Promise 26: the part is looked at ahead of what", BUSY, """
            made(3, 4) throws Index
            made(-1, -1) throws Index
            """);
    }
}
