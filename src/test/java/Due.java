/** Notes every answer that is not the one that is due, and ends a test with exit code 1 if there was one. */
final class Due {
    private static final int MOST_TOLD = 40;
    private long asked;
    private long wrong;

    void is(String call, long got, long want) {
        asked++;
        if (got != want) {
            wrong++;
            if (wrong <= MOST_TOLD) {
                System.out.println(call + " answered " + got + ", due is " + want);
            }
        }
    }

    void is(String call, boolean got, boolean want) {
        is(call, got ? 1 : 0, want ? 1 : 0);
    }

    /** Two long tellings that must be equal: told is where they part. */
    void same(String call, String got, String want) {
        int at = 0;
        while (at < got.length() && at < want.length() && got.charAt(at) == want.charAt(at)) {
            at++;
        }
        boolean equal = got.equals(want);
        is(equal ? call : call + ": \"" + around(got, at) + "\" and not \"" + around(want, at) + "\"", equal, true);
    }

    private static String around(String text, int at) {
        return text.substring(Math.max(0, at - 30), Math.min(text.length(), at + 30)).replace('\n', ' ');
    }

    boolean anyWrong() {
        return wrong > 0;
    }

    void end() {
        System.out.println(asked + " answers, " + wrong + " not as due");
        if (wrong > 0 || asked == 0) {
            System.exit(1);
        }
    }
}
