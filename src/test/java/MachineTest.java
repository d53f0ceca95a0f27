/** Promises 8 to 12: mount, load, empty, pause and run. */
public final class MachineTest {
    private static final Checks CHECKS = new Checks("MachineTest");

    public static void main(String[] args) {
        mount();
        load();
        empty();
        pause();
        weeks();
        run();
        runPurges();
        runDryers();
        runRefusals();
        runTime();
        CHECKS.end();
    }

    private static void mount() {
        MouldFloor x = Floors.withFamily();
        Floors.family(x, "1 1 2x3");
        x.load(0, 0, 5);
        CHECKS.refused("mount -1", "1.0", x, () -> x.mount(-1));
        CHECKS.refused("mount 2", "1.0", x, () -> x.mount(2));
        CHECKS.due("mount", 0, () -> x.mount(1));
        CHECKS.due("the family that is mounted", 1, () -> x.account(8));
        CHECKS.due("the minutes to mount", 10, () -> x.account(5));
        CHECKS.due("drying while mounting", 10, () -> x.dryer(0, 2));
        CHECKS.refused("mount again", "4.0", x, () -> x.mount(1));
        x.set(3, 99);
        x.set(0, 60);
        CHECKS.due("mount for 99 minutes", 1, () -> x.mount(0));
        CHECKS.due("the time", 109, () -> x.account(5));
        x.set(3, 0);
        CHECKS.due("mount for 0 minutes", 0, () -> x.mount(1));
        CHECKS.due("the time", 109, () -> x.account(5));
        x.pause(10);
        CHECKS.due("mount for 0 minutes as a week is about to end", 0, () -> x.mount(0));
        CHECKS.due("the pause behind it", 1, () -> x.pause(1));
        CHECKS.due("the changes", 8, () -> x.account(13));
    }

    private static void load() {
        MouldFloor x = Floors.withShades(1, 2);
        CHECKS.refused("load of no dryer", "1.0", x, () -> x.load(3, 0, 0));
        CHECKS.refused("load of the dryer -1", "1.0", x, () -> x.load(-1, 0, 1));
        CHECKS.refused("load of no colour", "1.0", x, () -> x.load(0, 2, 0));
        CHECKS.refused("load of the colour -1", "1.0", x, () -> x.load(0, -1, 1));
        CHECKS.refused("load of 0", "2.0", x, () -> x.load(0, 0, 0));
        CHECKS.refused("load of 100000", "2.0", x, () -> x.load(0, 0, 100000));
        CHECKS.refused("load of the most", "2.0", x, () -> x.load(0, 0, Integer.MAX_VALUE));
        CHECKS.due("load of 1", 1, () -> x.load(0, 0, 1));
        CHECKS.due("load of 99999", 99999, () -> x.load(2, 1, 99999));
        CHECKS.due("its colour", 1, () -> x.dryer(2, 0));
        x.pause(20);
        CHECKS.due("dried", 20, () -> x.dryer(0, 2));
        CHECKS.refused("load of another colour", "6.1", x, () -> x.load(2, 0, 1));
        CHECKS.refused("load of another colour", "6.0", x, () -> x.load(0, 1, 1));
        CHECKS.refused("2 ahead of 6", "2.0", x, () -> x.load(2, 0, 0));
        CHECKS.refused("6 ahead of 7", "6.1", x, () -> x.load(2, 0, 99999));
        CHECKS.refused("load of too much", "7.0", x, () -> x.load(2, 1, 1));
        CHECKS.refused("load of 1 too much", "7.0", x, () -> x.load(0, 0, 99999));
        CHECKS.due("load up to the most", 99999, () -> x.load(0, 0, 99998));
        CHECKS.due("all of it dries anew", 0, () -> x.dryer(0, 2));
        CHECKS.due("the other dryer dries on", 20, () -> x.dryer(2, 2));
        CHECKS.due("the grams in all dryers", 199998, () -> x.account(9));
    }

    private static void empty() {
        MouldFloor x = Floors.withShades(1, 2);
        CHECKS.refused("empty of no dryer", "1.0", x, () -> x.empty(3));
        CHECKS.refused("empty of the dryer -1", "1.0", x, () -> x.empty(-1));
        CHECKS.refused("empty of an empty dryer", "8.0", x, () -> x.empty(0));
        x.load(1, 1, 77);
        x.load(2, 0, 5);
        x.pause(5);
        CHECKS.due("empty", 77, () -> x.empty(1));
        CHECKS.due("its colour", -1, () -> x.dryer(1, 0));
        CHECKS.due("its grams", 0, () -> x.dryer(1, 1));
        CHECKS.due("its minutes", 0, () -> x.dryer(1, 2));
        CHECKS.due("its lacking minutes", 0, () -> x.dryer(1, 3));
        CHECKS.due("the other dryer", 5, () -> x.dryer(2, 1));
        CHECKS.refused("empty again", "8.0", x, () -> x.empty(1));
        x.pause(7);
        CHECKS.due("no drying of an empty one", 0, () -> x.dryer(1, 2));
        CHECKS.due("another colour then", 3, () -> x.load(1, 0, 3));
        CHECKS.due("grams taken by runs", 0, () -> x.account(10));
    }

    private static void pause() {
        MouldFloor x = Floors.withShades(1, 2);
        CHECKS.refused("pause 0", "2.0", x, () -> x.pause(0));
        CHECKS.refused("pause -1", "2.0", x, () -> x.pause(-1));
        CHECKS.refused("pause 1000", "2.0", x, () -> x.pause(1000));
        x.load(1, 1, 77);
        CHECKS.due("pause 1", 0, () -> x.pause(1));
        CHECKS.due("the time", 1, () -> x.account(5));
        CHECKS.due("drying", 1, () -> x.dryer(1, 2));
        CHECKS.due("lacking", 59, () -> x.dryer(1, 3));
        CHECKS.due("pause to a minute before the end", 0, () -> x.pause(478));
        CHECKS.due("pause to the end of the week", 1, () -> x.pause(1));
        CHECKS.due("the week", 1, () -> x.account(6));
        CHECKS.due("pause 999", 2, () -> x.pause(999));
        CHECKS.due("the week", 3, () -> x.account(6));
        CHECKS.due("the time", 1479, () -> x.account(5));
    }

    private static void weeks() {
        MouldFloor x = new MouldFloor();
        x.pause(100);
        x.set(0, 200);
        CHECKS.due("a shorter week", 0, () -> x.pause(99));
        CHECKS.due("its end", 1, () -> x.pause(1));
        x.pause(150);
        x.set(0, 60);
        CHECKS.due("no week ends by a setting", 1, () -> x.account(6));
        CHECKS.due("a week that became too long ends once", 1, () -> x.pause(1));
        CHECKS.due("the next one begins then", 0, () -> x.pause(59));
        CHECKS.due("and ends", 1, () -> x.pause(1));
        x.pause(30);
        x.set(0, 100);
        CHECKS.due("a longer week", 0, () -> x.pause(69));
        CHECKS.due("its end", 1, () -> x.pause(1));
        x.pause(60);
        x.set(0, 60);
        CHECKS.due("a week as long as the setting ends a minute later", 1, () -> x.pause(60));
        CHECKS.due("a minute is of the next week", 1, () -> x.pause(1));
        CHECKS.due("many weeks", 16, () -> x.pause(999));
    }

    private static void run() {
        MouldFloor x = Floors.ready();
        CHECKS.due("run", 0, () -> x.run(0, 3));
        CHECKS.due("the colour of the machine", 0, () -> x.account(7));
        CHECKS.due("the time", 70 + 15, () -> x.account(5));
        CHECKS.due("the grams of its dryer", 49970, () -> x.dryer(0, 1));
        CHECKS.due("the grams that were taken", 30, () -> x.account(10));
        CHECKS.due("the shots", 3, () -> x.account(11));
        CHECKS.due("the shots of purges", 0, () -> x.account(12));
        CHECKS.due("the pieces", 6, () -> x.made(0, 0));
        CHECKS.due("the closed crates", 1, () -> x.stock(0, 0, 0));
        CHECKS.due("the open crate", 2, () -> x.stock(0, 0, 1));
        CHECKS.due("the closed crates of the part 1", 1, () -> x.stock(1, 0, 0));
        CHECKS.due("its open crate is empty", 0, () -> x.stock(1, 0, 1));
        CHECKS.due("the part that is not in the family", 0, () -> x.made(2, 0));
        CHECKS.due("run on", 0, () -> x.run(0, 1));
        CHECKS.due("a crate that is just full", 2, () -> x.stock(0, 0, 0));
        CHECKS.due("its open crate", 0, () -> x.stock(0, 0, 1));
        CHECKS.due("the most shots", 0, () -> x.run(0, 200));
        CHECKS.due("the closed crates", 102, () -> x.stock(0, 0, 0));
        CHECKS.due("the time", 70 + 20 + 1000, () -> x.account(5));
        CHECKS.due("the changes", 8, () -> x.account(13));
        crates(1, 5 * 9, 0);
        crates(2, 22, 1);
        crates(45, 1, 0);
        crates(50, 0, 45);
    }

    /** Five shots of 9 pieces each. */
    private static void crates(int size, int closed, int open) {
        MouldFloor x = new MouldFloor();
        x.colour(0);
        x.part(size);
        Floors.family(x, "1 1 0x9");
        x.mount(0);
        x.load(0, 0, 100);
        x.pause(60);
        x.run(0, 5);
        CHECKS.due("closed crates of " + size, closed, () -> x.stock(0, 0, 0));
        CHECKS.due("the open crate of " + size, open, () -> x.stock(0, 0, 1));
        CHECKS.due("pieces in crates of " + size, closed * size, () -> x.made(0, 1));
    }

    private static void runPurges() {
        MouldFloor x = Floors.ready();
        x.run(1, 2);
        CHECKS.due("a run in a lighter colour", 1 + 3 * 2, () -> x.run(0, 2));
        CHECKS.due("the shots", 2 + 7 + 2, () -> x.account(11));
        CHECKS.due("the shots of purges", 7, () -> x.account(12));
        CHECKS.due("the time", 70 + 11 * 5, () -> x.account(5));
        CHECKS.due("the grams are of the new colour", 50000 - 90, () -> x.dryer(0, 1));
        CHECKS.due("and not of the old one", 50000 - 20, () -> x.dryer(1, 1));
        CHECKS.due("the scrap", 14, () -> x.made(0, 3));
        CHECKS.due("the scrap of the part 1", 7, () -> x.made(1, 3));
        CHECKS.due("the pieces", 22, () -> x.made(0, 0));
        CHECKS.due("the crates in the new colour", 1, () -> x.stock(0, 0, 0));
        CHECKS.due("the crates in the old colour", 1, () -> x.stock(0, 1, 0));
        CHECKS.due("no rest of scrap", 0, () -> x.stock(0, 0, 1));
        CHECKS.due("the rest of the part 1", 4, () -> x.made(1, 2));
        CHECKS.due("a run in a darker colour", 1, () -> x.run(1, 1));
        CHECKS.due("a run in the same colour", 0, () -> x.run(1, 1));
        CHECKS.due("the shots of both purges", 8, () -> x.account(12));
        CHECKS.due("the scrap of both purges", 16, () -> x.made(0, 3));
    }

    private static void runDryers() {
        MouldFloor x = Floors.withFamily();
        x.mount(0);
        x.load(2, 0, 30);
        x.pause(30);
        x.load(1, 0, 20);
        x.pause(30);
        CHECKS.due("the lowest that is dry", 0, () -> x.run(0, 2));
        CHECKS.due("its grams", 10, () -> x.dryer(2, 1));
        CHECKS.due("the damp one", 20, () -> x.dryer(1, 1));
        x.pause(60);
        CHECKS.due("the lowest of two that are dry", 0, () -> x.run(0, 1));
        CHECKS.due("its grams", 10, () -> x.dryer(1, 1));
        x.load(0, 0, 9);
        x.pause(60);
        CHECKS.due("the lowest that has as many", 0, () -> x.run(0, 1));
        CHECKS.due("the one that has too little", 9, () -> x.dryer(0, 1));
        CHECKS.due("the one that was emptied", -1, () -> x.dryer(1, 0));
        CHECKS.due("its minutes", 0, () -> x.dryer(1, 2));
        CHECKS.due("the third", 10, () -> x.dryer(2, 1));
        CHECKS.due("the next lowest", 0, () -> x.run(0, 1));
        CHECKS.due("the third was emptied", -1, () -> x.dryer(2, 0));
        CHECKS.due("the minutes of the first", 70, () -> x.dryer(0, 2));
    }

    private static void runRefusals() {
        MouldFloor x = Floors.withFamily();
        CHECKS.refused("run of no colour", "1.0", x, () -> x.run(2, 0));
        CHECKS.refused("run of the colour -1", "1.0", x, () -> x.run(-1, 1));
        CHECKS.refused("run of 0", "2.0", x, () -> x.run(0, 0));
        CHECKS.refused("run of 201", "2.0", x, () -> x.run(0, 201));
        CHECKS.refused("run of the least", "2.0", x, () -> x.run(0, Integer.MIN_VALUE));
        CHECKS.refused("run with none mounted", "5.0", x, () -> x.run(0, 1));
        x.mount(0);
        CHECKS.refused("run with empty dryers", "10.0", x, () -> x.run(0, 1));
        x.load(0, 1, 1000);
        CHECKS.refused("run with another colour", "10.0", x, () -> x.run(0, 1));
        x.load(1, 0, 9);
        x.load(2, 0, 10);
        CHECKS.refused("run with damp granulate", "10.0 11.60", x, () -> x.run(0, 1));
        x.pause(59);
        CHECKS.refused("run a minute too early", "10.0 11.1", x, () -> x.run(0, 2));
        x.set(1, 999);
        CHECKS.refused("run by another drying time", "10.0 11.940", x, () -> x.run(0, 1));
        x.set(1, 59);
        CHECKS.refused("run with too little in the lowest", "10.0 12.11", x, () -> x.run(0, 2));
        CHECKS.due("run with as many", 0, () -> x.run(0, 1));
        CHECKS.due("the third dryer", 0, () -> x.dryer(2, 1));
        CHECKS.refused("run without", "10.0 12.1", x, () -> x.run(0, 1));
        x.run(1, 1);
        CHECKS.refused("run with the purge", "10.0 12.71", x, () -> x.run(0, 1));
        x.load(1, 0, 71);
        CHECKS.refused("the lowest is damp", "10.0 11.59", x, () -> x.run(0, 1));
        x.pause(59);
        CHECKS.due("run with all of it", 7, () -> x.run(0, 1));
    }

    private static void runTime() {
        MouldFloor x = Floors.ready();
        x.order(0, 0, 1, 0);
        x.load(2, 1, 5);
        x.set(0, 80);
        CHECKS.due("run up to the end of the week", 0, () -> x.run(0, 2));
        CHECKS.due("a week has ended", 1, () -> x.account(6));
        CHECKS.due("the pieces come behind the week", 1, () -> x.orderOf(0, 5));
        CHECKS.due("its crate is there", 1, () -> x.stock(0, 0, 0));
        CHECKS.due("another dryer dries in the run", 10, () -> x.dryer(2, 2));
        CHECKS.due("the dryer of the run dries on", 70, () -> x.dryer(0, 2));
        CHECKS.due("the next week", 1, () -> x.pause(80));
        CHECKS.due("delivered", 1, () -> x.orderOf(0, 4));
    }
}
