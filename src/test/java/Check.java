import java.nio.charset.StandardCharsets;

/** What the tests share: answers compared and counted, texts put on the tape. */
final class Check {
    private static int wrong;
    private static int compared;

    private Check() {
    }

    static void due(String call, long got, long want) {
        compared++;
        if (got != want) {
            wrong++;
            if (wrong <= 50) {
                System.out.println(call + " answered " + got + ", due is " + want);
            }
        }
    }

    static void due(String call, boolean got, boolean want) {
        due(call, got ? 1 : 0, want ? 1 : 0);
    }

    static void finish() {
        System.out.println(compared + " answers compared, " + wrong + " are not as due");
        if (wrong != 0) {
            System.exit(1);
        }
    }

    static int wrongSoFar() {
        return wrong;
    }

    static void tape(CanalKeeper keeper, String text) {
        tape(keeper, text.getBytes(StandardCharsets.ISO_8859_1));
    }

    static void tape(CanalKeeper keeper, byte[] bytes) {
        for (int at = 0; at < bytes.length; at += 20) {
            int[] n = new int[5];
            for (int i = 0; i < 20; i++) {
                int b = at + i < bytes.length ? bytes[at + i] & 255 : 32;
                n[i / 4] = n[i / 4] << 8 | b;
            }
            keeper.feed(n[0], n[1], n[2], n[3], n[4]);
        }
        keeper.end(bytes.length);
    }

    static CanalKeeper told(String text) {
        CanalKeeper keeper = new CanalKeeper();
        tape(keeper, text);
        int statements = keeper.canal();
        if (statements < 1) {
            due("canal() of " + text + " with fault " + keeper.fault(0) + " at " + keeper.fault(1), statements, 1);
        }
        return keeper;
    }

    static int see(CanalKeeper keeper, int pool, int... stepsAndVolumes) {
        byte[] bytes = new byte[stepsAndVolumes.length / 2 * 3];
        for (int i = 0; i < stepsAndVolumes.length / 2; i++) {
            bytes[3 * i] = (byte) stepsAndVolumes[2 * i];
            bytes[3 * i + 1] = (byte) (stepsAndVolumes[2 * i + 1] >> 8);
            bytes[3 * i + 2] = (byte) stepsAndVolumes[2 * i + 1];
        }
        tape(keeper, bytes);
        return keeper.see(pool);
    }
}
