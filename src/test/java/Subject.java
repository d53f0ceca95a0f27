import java.util.List;

/** A new floor, for as many calls as the document promises. */
final class Subject {
    private static final int MOST_CALLS = 512;

    private final MouldFloor floor = new MouldFloor();
    private int calls;

    static Subject behind(List<Call> calls) {
        Subject x = new Subject();
        for (Call call : calls) {
            x.answer(call);
        }
        return x;
    }

    Object answer(Call call) {
        calls++;
        if (calls > MOST_CALLS) {
            throw new AssertionError("no answer is promised to a call behind the " + MOST_CALLS + "th");
        }
        return call.on(floor);
    }

    Object answer(String name, Object... arguments) {
        return answer(new Call(name, arguments));
    }

    int number(String name, Object... arguments) {
        Object answer = answer(name, arguments);
        return answer instanceof Integer ? (Integer) answer : 0;
    }
}
