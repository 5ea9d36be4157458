import java.nio.charset.StandardCharsets;

/** The example of README.md, which has these lines and what they print. */
public final class Example {
    private static final String TEXT = "canal gives 12; keep 3;\n"
        + "pool upper holds 40 low 30 high 60 crest 80 delay 1 leak 1 gate 20 by 4 open 6;\n"
        + "pool lower holds 20 low 15 high 40 crest 50 delay 2 leak 0 gate 15 by 3 open 3;\n"
        + "outlet mill at upper takes 4; outlet field at lower takes 6; outlet garden at lower takes 3;\n"
        + "order mill from 2 for 5;\n"
        + "turns 4 field, garden;\n";

    private Example() {
    }

    public static void main(String[] args) {
        CanalKeeper keeper = new CanalKeeper();
        tell(keeper);
        ask(keeper);
        act(keeper);
        lookBack(keeper);
        takeBack(keeper);
    }

    /** Puts bytes on the tape, twenty a call, of each number the highest first; end() cuts off what is too much. */
    private static void feed(CanalKeeper keeper, byte[] bytes) {
        for (int at = 0; at < bytes.length; at += 20) {
            int[] n = new int[5];
            for (int i = 0; i < 20; i++) {
                int b = at + i < bytes.length ? bytes[at + i] & 255 : 0;
                n[i / 4] = n[i / 4] << 8 | b;
            }
            keeper.feed(n[0], n[1], n[2], n[3], n[4]);
        }
        keeper.end(bytes.length);
    }

    private static void feed(CanalKeeper keeper, String text) {
        feed(keeper, text.getBytes(StandardCharsets.ISO_8859_1));
    }

    private static void say(String what, int answer) {
        System.out.println(what + ": " + answer);
    }

    private static void tell(CanalKeeper keeper) {
        feed(keeper, TEXT.replace("high 60", "high 6"));
        say("a text with a fault", keeper.canal());
        say("its kind (2: a number that can't be)", keeper.fault(0));
        say("its place in the text", keeper.fault(1));
        feed(keeper, TEXT);
        say("statements of a whole text", keeper.canal());
        feed(keeper, "field");
        say("the outlet named field", keeper.named(1));
    }

    private static void ask(CanalKeeper keeper) {
        say("volume of upper", keeper.pool(0, 0));
        say("opening of its gate", keeper.gate(0, 0));
        say("what is wanted of it", keeper.gate(0, 3));
        say("load of it at step 3", keeper.load(0, 3));
        say("steps from the head to field", keeper.outlet(1, 5));
        say("volume of lower, 10 steps ahead", keeper.later(1, 10));
        say("lower is below its band, steps ahead", keeper.when(1, 0));
        say("short in 60 steps ahead", keeper.lacks(CanalKeeper.NONE, 60));
    }

    private static void act(CanalKeeper keeper) {
        say("the step behind 5 steps", keeper.steps(5));
        say("number of one more order of mill", keeper.ask(0, 9, 3));
        say("lower's gate told by hand", keeper.hand(1, 12) ? 1 : 0);
        say("upper leaks 2 from now on", keeper.set(0, 0, 2) ? 1 : 0);
        keeper.seed(2026);
        say("the step behind 4 steps with rain", keeper.chance(4));
        say("an order from a step that is over", keeper.ask(0, 1, 3));
        say("acts refused", keeper.status(3));
    }

    private static void lookBack(CanalKeeper keeper) {
        say("taken in all", keeper.account(1));
        say("rained in all", keeper.account(4));
        say("what came to upper in the latest step", keeper.flow(0, 1, 0));
        say("missing of upper in 4 steps: it leaked", keeper.missing(0, 4));
        say("alarms", keeper.has(6));
        // Seen: behind 2 steps from now on upper has as much as it would have with its leak of 2.
        int seen = keeper.later(0, 2);
        feed(keeper, new byte[] {2, (byte) (seen >> 8), (byte) seen});
        say("rows seen", keeper.see(0));
        say("leaks that fit", keeper.leaks(CanalKeeper.NONE));
        say("the first of them", keeper.leaks(0));
    }

    private static void takeBack(CanalKeeper keeper) {
        say("acts that can be undone", keeper.has(8));
        say("the steps with rain undone", keeper.undo() ? 1 : 0);
        say("the step is again", keeper.has(3));
        say("rained in all", keeper.account(4));
        say("the leak undone", keeper.undo() ? 1 : 0);
        say("leak of upper", keeper.pool(0, 5));
    }
}
