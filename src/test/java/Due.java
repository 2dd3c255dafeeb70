/** Compares answers with those that are due; a test ends with finish(). */
final class Due {
    private String sentence = "";
    private int sentences = 0;
    private int wrong = 0;
    private int asked = 0;

    /** The document's words that the answers from here on are held against. */
    void sentence(String words) {
        sentence = words;
        sentences++;
    }

    void same(String call, long got, long want) {
        judge(call, "answered " + got, "answered " + want);
    }

    void yes(String call, boolean got) {
        same(call, got ? 1 : 0, 1);
    }

    void no(String call, boolean got) {
        same(call, got ? 1 : 0, 0);
    }

    void accepts(String call, Runnable run) {
        judge(call, thrownBy(run), "threw nothing");
    }

    void refuses(String call, Class<? extends RuntimeException> want, Runnable run) {
        judge(call, thrownBy(run), "threw " + want.getName());
    }

    private static String thrownBy(Runnable run) {
        try {
            run.run();
            return "threw nothing";
        } catch (RuntimeException e) {
            return "threw " + e.getClass().getName();
        }
    }

    private void judge(String call, String got, String want) {
        asked++;
        if (!got.equals(want)) {
            wrong++;
            System.out.println("'" + sentence + "': " + call + " " + got + ", due is: " + want);
        }
    }

    void finish() {
        System.out.println(asked + " answers, " + wrong + " not as due"
            + (sentences > 0 ? ", to " + sentences + " sentences" : ""));
        if (wrong != 0 || asked == 0) {
            System.exit(1);
        }
    }
}
