import java.util.Arrays;

/** Counts the answers that are as due and prints every one that is not. */
final class Due {
    private final String test;
    private int passed = 0;
    private int failed = 0;

    Due(String test) {
        this.test = test;
    }

    void is(String call, long got, long want) {
        note(got == want, call, String.valueOf(got), String.valueOf(want));
    }

    void is(String call, boolean got, boolean want) {
        note(got == want, call, String.valueOf(got), String.valueOf(want));
    }

    void is(String call, byte[] got, byte[] want) {
        note(Arrays.equals(got, want), call, text(got), text(want));
    }

    void isTrue(String what, boolean holds) {
        note(holds, what, "false", "true");
    }

    private void note(boolean right, String call, String got, String want) {
        if (right) {
            passed++;
            return;
        }
        failed++;
        System.out.println(test + ": " + call + " answered " + got + ", due is " + want);
    }

    private static String text(byte[] bytes) {
        StringBuilder text = new StringBuilder();
        for (byte b : bytes) {
            text.append(b & 255).append(' ');
        }
        return text.toString();
    }

    void end() {
        System.out.println(test + ": " + passed + " passed, " + failed + " failed");
        if (failed != 0) {
            System.exit(1);
        }
    }
}
