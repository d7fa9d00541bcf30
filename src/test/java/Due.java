/** Counts the answers of one test that are not the ones that are due. */
final class Due {
    private final String test;
    private int asked = 0;
    private int wrong = 0;

    Due(String test) {
        this.test = test;
    }

    void same(String what, long got, long want) {
        asked++;
        if (got != want) {
            tell(what + " answered " + got + ", due is " + want);
        }
    }

    void same(String what, double got, double want) {
        asked++;
        if (got != want) {
            tell(what + " answered " + got + ", due is " + want);
        }
    }

    void thrown(String what, Class<? extends RuntimeException> want, Runnable call) {
        asked++;
        Class<?> got = null;
        try {
            call.run();
        } catch (RuntimeException e) {
            got = e.getClass();
        }
        if (got != want) {
            tell(what + " threw " + got + ", due is " + want);
        }
    }

    /** That a call throws so, and that the object tells behind it what it told before. */
    void thrownAndNothingElse(String what, Class<? extends RuntimeException> want, LowForge forge,
            Runnable call) {
        String before = told(forge);
        thrown(what, want, call);
        same(what + ": nothing changes, not " + before, told(forge).equals(before) ? 1 : 0, 1);
    }

    /** What an object tells of its text, its latest compile and its circuit. */
    static String told(LowForge forge) {
        return "where " + forge.where() + " text " + forge.count(0) + toldOfCircuit(forge);
    }

    static String toldOfCircuit(LowForge forge) {
        StringBuilder told = new StringBuilder();
        for (int what = 1; what <= 5; what++) {
            told.append(" count ").append(forge.count(what));
        }
        for (int k = 0; k < forge.count(1); k++) {
            told.append(" signal");
            for (int what = 0; what <= 3; what++) {
                told.append(' ').append(forge.signal(k, what));
            }
            told.append(" depends ").append(forge.depends(k));
            told.append(" value ").append(forge.value(k));
            told.append(" activity ").append(forge.activity(k));
        }
        return told.toString();
    }

    /** A new object with that text compiled. */
    LowForge compiled(String text) {
        LowForge forge = new LowForge();
        write(forge, text);
        try {
            forge.compile();
        } catch (RuntimeException e) {
            tell(text + " threw " + e + " at " + forge.where());
        }
        same(text + ": where", forge.where(), -2);
        return forge;
    }

    /** That compile of that text on a new object throws so, and at that place. */
    void refused(String text, Class<? extends RuntimeException> want, int place) {
        LowForge forge = new LowForge();
        write(forge, text);
        thrown(text + ": compile", want, forge::compile);
        same(text + ": where", forge.where(), place);
        same(text + ": length", forge.count(0), text.length());
        same(text + ": no circuit", forge.count(1), 0);
    }

    void fault(String text, int place) {
        refused(text, IllegalArgumentException.class, place);
    }

    void typeError(String text, int place) {
        refused(text, UnsupportedOperationException.class, place);
    }

    void unresolved(String text) {
        refused(text, IllegalStateException.class, -1);
    }

    void uninitialised(String text, int sink) {
        refused(text, java.util.NoSuchElementException.class, sink);
    }

    void loop(String text, int signal) {
        refused(text, ArithmeticException.class, signal);
    }

    static void write(LowForge forge, String text) {
        for (int i = 0; i < text.length(); i += 8) {
            forge.text(word(text.substring(i, Math.min(i + 8, text.length()))));
        }
    }

    /** Up to eight characters as the bytes of a long. */
    static long word(String letters) {
        long w = 0;
        for (int i = 0; i < letters.length(); i++) {
            w = w << 8 | letters.charAt(i);
        }
        return w;
    }

    private void tell(String line) {
        wrong++;
        System.out.println(test + ": " + line);
    }

    /** Ends the program, with exit code 1 if an answer was wrong. */
    void end() {
        System.out.println(test + ": " + asked + " answers, " + wrong + " wrong");
        if (wrong != 0) {
            System.exit(1);
        }
    }
}
