/** What is due of a call, and how many answers were not as due. */
final class Due {
    interface Call {
        long answer();
    }

    interface Act {
        void go();
    }

    private static int wrong = 0;
    private static String about = "";

    private Due() {
    }

    /** A sentence of the document, and the test that would fail if it did not hold. */
    static void sentence(String words, Act test) {
        about = "\"" + words + "\": ";
        int before = wrong;
        test.go();
        about = "";
        if (wrong != before) {
            System.out.println("does not hold: " + words);
        }
    }

    static void is(String call, long want, Call made) {
        same(call, Long.toString(want), answerOf(made));
    }

    static void fails(String call, Class<?> kind, Call made) {
        same(call, "throws." + kind.getSimpleName(), answerOf(made));
    }

    static void goes(String call, Act made) {
        is(call, 0, valueOf(made));
    }

    static void stops(String call, Class<?> kind, Act made) {
        fails(call, kind, valueOf(made));
    }

    static void same(String call, String want, String got) {
        if (!want.equals(got)) {
            wrong++;
            if (wrong <= 50) {
                System.out.println(about + call + " answered " + got + ", due is " + want);
            }
        }
    }

    static String answerOf(Call made) {
        try {
            return Long.toString(made.answer());
        } catch (RuntimeException e) {
            return (isOfTheMachine(e) ? "the machine throws." : "throws.") + e.getClass().getSimpleName();
        }
    }

    /** The class throws what is due itself; the machine's own exceptions of the same names tell the number. */
    private static boolean isOfTheMachine(RuntimeException e) {
        String text = e.getMessage();
        return text != null && (text.startsWith("Index ") || text.matches("-?[0-9]+"));
    }

    static Call valueOf(Act made) {
        return () -> {
            made.go();
            return 0;
        };
    }

    static void end() {
        System.out.println(wrong == 0 ? "all answers are as due" : wrong + " answers are not as due");
        if (wrong != 0) {
            System.exit(1);
        }
    }
}
