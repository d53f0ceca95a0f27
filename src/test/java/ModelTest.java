import java.util.Random;

/** Runs of calls by chance, always the same ones, on a floor and on the model of it. */
public final class ModelTest {
    private static final Checks CHECKS = new Checks("ModelTest");
    private static final int RUNS = 1500;
    private static final int CALLS = 512;
    private static final String CHARACTERS = "0123456789 x;mrwlg/:.X";
    private static final int[] WILD = {-1, -2, 6, 8, 10, 50, 99, 100, 200, 999, 1000, 99999, 100000,
        Integer.MIN_VALUE, Integer.MAX_VALUE, 1 << 30, 63, 64, 31, 32};

    private final Random random;
    private final MouldFloor x = new MouldFloor();
    private final Model m = new Model();
    private final StringBuilder calls = new StringBuilder();
    private int left = CALLS;
    private boolean isRight = true;

    private ModelTest(int run) {
        random = new Random(run);
    }

    public static void main(String[] args) {
        int right = 0;
        for (int run = 0; run < RUNS; run++) {
            right += new ModelTest(run).isRight() ? 1 : 0;
        }
        int all = right;
        CHECKS.due("runs as in the model", RUNS, () -> all);
        CHECKS.end();
    }

    private boolean isRight() {
        if (random.nextInt(4) > 0) {
            begin();
        }
        while (left > 0 && isRight) {
            step();
        }
        return isRight;
    }

    private void same(String call, Checks.Question real, Checks.Question model) {
        if (left <= 0 || !isRight) {
            return;
        }
        left--;
        calls.append(call).append(' ');
        Object want = Checks.answerOf(model);
        Object due = want == Model.Refusal.class ? UnsupportedOperationException.class : want;
        Object got = Checks.answerOf(real);
        if (!due.equals(got)) {
            isRight = false;
            System.out.println("not as due: " + calls + "answered " + got + ", due is " + due);
        }
    }

    private void begin() {
        for (int more = 2 + random.nextInt(4); more > 0; more--) {
            int shade = random.nextInt(10);
            same("colour(" + shade + ")", () -> x.colour(shade), () -> m.colour(shade));
        }
        for (int more = 2 + random.nextInt(3); more > 0; more--) {
            int size = 1 + random.nextInt(8);
            same("part(" + size + ")", () -> x.part(size), () -> m.part(size));
        }
        family((1 + random.nextInt(5)) + " " + (1 + random.nextInt(20)) + " 0x" + (1 + random.nextInt(9)) + " 1x2");
        same("mount(0)", () -> x.mount(0), () -> m.mount(0));
    }

    private int near(int most) {
        return random.nextInt(12) == 0 ? WILD[random.nextInt(WILD.length)] : random.nextInt(most + 1);
    }

    private void step() {
        int kind = random.nextInt(100);
        if (kind < 12) {
            family(familyText());
        } else if (kind < 24) {
            program();
        } else if (kind < 70) {
            change(random.nextInt(14));
        } else {
            ask(random.nextInt(19));
        }
        if (random.nextInt(6) == 0) {
            reasons();
        }
    }

    private void type(String text) {
        for (char character : text.toCharArray()) {
            same("'" + character + "'", () -> x.append(character), () -> m.append(character));
        }
    }

    private String spoilt(String text) {
        if (random.nextInt(5) > 0) {
            return text;
        }
        int at = random.nextInt(text.length() + 1);
        char other = CHARACTERS.charAt(random.nextInt(CHARACTERS.length()));
        switch (random.nextInt(3)) {
            case 0: return text.substring(0, at);
            case 1: return text.substring(0, at) + other + text.substring(at);
            default: return text.substring(0, at) + other + text.substring(Math.min(text.length(), at + 1));
        }
    }

    private String familyText() {
        StringBuilder text = new StringBuilder();
        text.append(random.nextInt(12)).append(' ').append(random.nextInt(30));
        for (int part = random.nextInt(12) == 0 ? 4 : 1 + random.nextInt(3); part > 0; part--) {
            text.append(' ').append(random.nextInt(5)).append('x').append(random.nextInt(10));
        }
        return text.toString();
    }

    private void family(String text) {
        type(spoilt(text));
        same("family()", () -> x.family(), () -> m.family());
        same("faultPosition()", () -> x.faultPosition(), () -> m.faultPosition());
    }

    private void program() {
        StringBuilder text = new StringBuilder();
        for (int command = 1 + random.nextInt(4); command > 0; command--) {
            text.append(text.length() > 0 ? ";" : "");
            switch (random.nextInt(5)) {
                case 0: text.append('m').append(random.nextInt(3)); break;
                case 1: text.append('w').append(random.nextInt(200)); break;
                case 2: text.append('l').append(random.nextInt(3)).append(random.nextInt(4)).append('g')
                    .append(random.nextInt(random.nextInt(5) == 0 ? 99999 : 3000)); break;
                default: text.append('r').append(random.nextInt(4)).append('x').append(random.nextInt(12)); break;
            }
        }
        type(spoilt(text.toString()));
        same("program()", () -> x.program(), () -> m.program());
        same("faultPosition()", () -> x.faultPosition(), () -> m.faultPosition());
    }

    private void reasons() {
        int depth = random.nextInt(5) - 1;
        boolean isDetail = random.nextBoolean();
        same("reason(" + depth + ", " + isDetail + ")", () -> x.reason(depth, isDetail),
            () -> m.reason(depth, isDetail));
    }

    private void change(int kind) {
        int a = near(3);
        int b = near(4);
        int c = near(3);
        int d = near(3);
        String told = a + ", " + b + ", " + c + ", " + d + ")";
        switch (kind) {
            case 0: same("colour(" + told, () -> x.colour(a + b), () -> m.colour(a + b)); break;
            case 1: same("part(" + told, () -> x.part(b), () -> m.part(b)); break;
            case 2: same("mount(" + told, () -> x.mount(a), () -> m.mount(a)); break;
            case 3: load(a, b); break;
            case 4: same("empty(" + told, () -> x.empty(a), () -> m.empty(a)); break;
            case 5: wait(near(random.nextBoolean() ? 70 : 600)); break;
            case 6: case 7: case 8: run(b, near(20)); break;
            case 9: same("order(" + told, () -> x.order(a, b, c, d), () -> m.order(a, b, c, d)); break;
            case 10: same("callOff(" + told, () -> x.callOff(a), () -> m.callOff(a)); break;
            case 11: set(); break;
            case 12: undo(); break;
            default: keep(); break;
        }
    }

    private void load(int dryer, int colour) {
        int grams = near(random.nextInt(6) == 0 ? 99999 : 4000);
        same("load(" + dryer + ", " + colour + ", " + grams + ")", () -> x.load(dryer, colour, grams),
            () -> m.load(dryer, colour, grams));
    }

    private void wait(int minutes) {
        same("pause(" + minutes + ")", () -> x.pause(minutes), () -> m.pause(minutes));
    }

    private void run(int colour, int shots) {
        same("run(" + colour + ", " + shots + ")", () -> x.run(colour, shots), () -> m.run(colour, shots));
        same("minutes(" + colour + ", " + shots + ")", () -> x.minutes(colour, shots), () -> m.minutes(colour, shots));
    }

    private void set() {
        int what = near(3);
        int value = what == 0 ? near(600) : what == 1 ? near(90) : what == 2 ? near(5) : near(99);
        same("set(" + what + ", " + value + ")", () -> x.set(what, value), () -> m.set(what, value));
    }

    private void undo() {
        for (int more = random.nextInt(10); more >= 0; more--) {
            same("undo()", () -> x.undo(), () -> m.undo());
            more -= random.nextInt(3);
        }
    }

    private void keep() {
        if (random.nextInt(3) > 0) {
            same("save()", () -> x.save(), () -> m.save());
        } else {
            same("restore()", () -> x.restore(), () -> m.restore());
        }
    }

    private void ask(int kind) {
        int a = near(3);
        int b = near(3);
        int c = near(5);
        int set = near(63);
        String told = a + ", " + b + ", " + c + ", " + set + ")";
        switch (kind) {
            case 0: same("purge(" + told, () -> x.purge(a, b), () -> m.purge(a, b)); break;
            case 1: same("best(" + told, () -> x.best(set), () -> m.best(set)); break;
            case 2: same("bestAgain(" + told, () -> x.bestAgain(set), () -> m.best(set)); break;
            case 3: same("bestColour(" + told, () -> x.bestColour(set, c), () -> m.bestColour(set, c)); break;
            case 4: same("familyOf(" + told, () -> x.familyOf(a, c), () -> m.familyOf(a, c)); break;
            case 5: same("pieces(" + told, () -> x.pieces(a, b), () -> m.pieces(a, b)); break;
            case 6: same("families(" + told, () -> x.families(a), () -> m.families(a)); break;
            case 7: same("dryer(" + told, () -> x.dryer(a, b), () -> m.dryer(a, b)); break;
            case 8: case 9: same("stock(" + told, () -> x.stock(a, b, c), () -> m.stock(a, b, c)); break;
            case 10: same("made(" + told, () -> x.made(a, b), () -> m.made(a, b)); break;
            case 11: same("orderOf(" + told, () -> x.orderOf(a, c), () -> m.orderOf(a, c)); break;
            case 12: same("shots(" + told, () -> x.shots(a), () -> m.shots(a)); break;
            case 13: same("letter(" + told, () -> x.letter(a), () -> m.letter(a)); break;
            case 14: same("due(" + told, () -> x.due(c), () -> m.due(c)); break;
            case 15: same("scrap()", () -> x.scrap(), () -> m.scrap()); break;
            case 16: same("lateness()", () -> x.lateness(), () -> m.lateness()); break;
            default: accounts(); break;
        }
    }

    private void accounts() {
        for (int what = -1; what <= 19; what += 1 + random.nextInt(4)) {
            int place = what;
            same("account(" + what + ")", () -> x.account(place), () -> m.account(place));
        }
    }
}
