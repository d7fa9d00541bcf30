import java.util.NoSuchElementException;

/** The bounds of the calls, a test for each sentence of the promises that names one. */
public final class BoundsOfCallsTest {
    private static final Class<IndexOutOfBoundsException> NONE = IndexOutOfBoundsException.class;
    private static final Class<IllegalArgumentException> OTHER = IllegalArgumentException.class;
    private static final Class<UnsupportedOperationException> FIXED =
            UnsupportedOperationException.class;

    // One text for each exception of compile, in the order in which it looks at them.
    private static final String[] REFUSED = {"Ia", "a<=1;", "Wa:U;", "Wa:U1;", "Wa:U1;a<=a;"};
    private static final int[] PLACES = {2, 0, -1, 0, 0};

    public static void main(String[] args) {
        Due due = new Due("BoundsOfCallsTest");
        newObject(due);
        signalsThatAreThere(due);
        signalsOfAnObjectWithout(due);
        whatOfSignal(due);
        namesOfSignal(due);
        dependsNothingWhereNoSink(due);
        setTakesTheLowestBits(due);
        setOfOthers(due);
        setAnswersWhatItHad(due);
        clocksOneTo40(due);
        clocksWithNothingCompiled(due);
        activityWithoutClocks(due);
        activityOfTheFirstClock(due);
        activityFromNoneToAll(due);
        countsOfWhat(due);
        countsWithoutCircuit(due);
        countsAtTheirMost(due);
        due.end();
    }

    private static Class<? extends RuntimeException> exceptionOf(int i) {
        switch (i) {
            case 0:
                return IllegalArgumentException.class;
            case 1:
                return UnsupportedOperationException.class;
            case 2:
                return IllegalStateException.class;
            case 3:
                return NoSuchElementException.class;
            default:
                return ArithmeticException.class;
        }
    }

    /** "An empty text; nothing is compiled." */
    private static void newObject(Due due) {
        LowForge forge = new LowForge();
        due.same("text", forge.count(0), 0);
        due.same("where", forge.where(), -2);
        for (int what = 1; what <= 5; what++) {
            due.same("of the CIRCUIT", forge.count(what), 0);
        }
        due.thrownAndNothingElse("clock", IllegalStateException.class, forge,
                () -> forge.clock(1));
        due.same("clear", forge.clear(), 0);
        due.same("text", forge.text(0), 0);
        due.same("compile", forge.compile(), 0);
        due.same("clock", forge.clock(1), 1);
    }

    /** "IndexOutOfBoundsException if there is none": of 0, 1 and 24 GROUND SIGNALS. */
    private static void signalsThatAreThere(Due due) {
        noneBeyond(due, due.compiled(""));
        noneBeyond(due, due.compiled("Ia:U1;"));
        noneBeyond(due, due.compiled("Ia:U1;Rb:U1;Nc=1;"));
        noneBeyond(due, due.compiled("Ia:U1[4][3][2];"));
        LowForge fewer = due.compiled("Ia:U1[4][3][2];");
        fewer.clear();
        Due.write(fewer, "Ia:U1;");
        fewer.compile();
        noneBeyond(due, fewer);
        due.same("the last", due.compiled("Ia:U1[4][3][2];").signal(23, 1), 1);
    }

    private static void noneBeyond(Due due, LowForge forge) {
        int signals = forge.count(1);
        for (int k = 0; k < signals; k++) {
            due.same("signal " + k, forge.signal(k, 1), 1);
            due.same("depends " + k, forge.depends(k) >> 24, 0);
            due.same("value " + k, forge.value(k) >> 1, 0);
            due.same("activity " + k, forge.activity(k), 0.0);
        }
        for (int k : new int[] {-1, -2, signals, signals + 1, 24, 25, 32, 1 << 16,
            Integer.MIN_VALUE, Integer.MAX_VALUE}) {
            none(due, forge, k);
        }
    }

    private static void none(Due due, LowForge forge, int k) {
        for (int what = 0; what <= 3; what++) {
            int asked = what;
            due.thrownAndNothingElse("signal " + k, NONE, forge, () -> forge.signal(k, asked));
        }
        due.thrownAndNothingElse("depends " + k, NONE, forge, () -> forge.depends(k));
        due.thrownAndNothingElse("set " + k, NONE, forge, () -> forge.set(k, 1));
        due.thrownAndNothingElse("value " + k, NONE, forge, () -> forge.value(k));
        due.thrownAndNothingElse("activity " + k, NONE, forge, () -> forge.activity(k));
    }

    /** Neither a new object nor one whose compile has thrown alone has any. */
    private static void signalsOfAnObjectWithout(Due due) {
        none(due, new LowForge(), 0);
        for (int i = 0; i < REFUSED.length; i++) {
            LowForge forge = new LowForge();
            Due.write(forge, REFUSED[i]);
            due.thrown(REFUSED[i], exceptionOf(i), forge::compile);
            none(due, forge, 0);
        }
    }

    /** "IllegalArgumentException for another what": below 0 and above 3, whatever k is. */
    private static void whatOfSignal(Due due) {
        LowForge forge = due.compiled("Ia:U1;Nb=1;");
        LowForge without = new LowForge();
        for (int what : new int[] {-1, 4, 5, 256, Integer.MIN_VALUE, Integer.MAX_VALUE}) {
            for (int k = -1; k <= 2; k++) {
                int asked = k;
                due.thrownAndNothingElse(k + ", " + what, OTHER, forge,
                        () -> forge.signal(asked, what));
                due.thrownAndNothingElse(k + ", " + what + " without", OTHER, without,
                        () -> without.signal(asked, what));
            }
        }
        for (int what = 0; what <= 3; what++) {
            due.same("what " + what, forge.signal(1, what), what == 0 ? 4 : what == 2 ? 0 : 1);
        }
    }

    /** "0 to 4 for I, O, W, R, N", "the NAME .. (0 to 25)". */
    private static void namesOfSignal(Due due) {
        LowForge forge = due.compiled("Ia:U1;Oz:U2;Wb:U3;Ry:U4;Nm=31;z<=1;b<=1;");
        int[][] want = {{0, 1, 2, 3, 4}, {1, 2, 3, 4, 5}, {0, 1, 1, 1, 0}, {0, 25, 1, 24, 12}};
        for (int what = 0; what <= 3; what++) {
            for (int k = 0; k < 5; k++) {
                due.same(k + ", " + what, forge.signal(k, what), want[what][k]);
            }
        }
        forge = due.compiled("Iq:{a:U1,z:{b:U1}[2]};");
        for (int k = 0; k < 3; k++) {
            due.same("no NAME of a FIELD", forge.signal(k, 3), 16);
        }
    }

    /** "(0 for one of I or O that is no SINK)". */
    private static void dependsNothingWhereNoSink(Due due) {
        String type = "{x:U1,y~:U1}";
        LowForge forge = due.compiled("Ia:" + type + ";Ob:" + type + ";b<=a;");
        int[] want = {0, 8, 1, 0};
        for (int k = 0; k < 4; k++) {
            due.same("depends " + k, forge.depends(k), want[k]);
        }
    }

    /** "has the lowest bits of v from now on", of 1 to 16 bits. */
    private static void setTakesTheLowestBits(Due due) {
        for (int width = 1; width <= 16; width++) {
            LowForge forge = due.compiled("Ia:U" + width + ";Ob:U16;b<=a;");
            int all = (1 << width) - 1;
            int[] set = {0, 1, all, all + 1, all + 2, -1, -all, -all - 1, Integer.MAX_VALUE,
                Integer.MIN_VALUE, Integer.MIN_VALUE + 1};
            int[] want = {0, 1, all, 0, 1, all, 1, 0, all, 0, 1};
            int had = 0;
            for (int i = 0; i < set.length; i++) {
                due.same("had", forge.set(0, set[i]), had);
                due.same(set[i] + " of U" + width, forge.value(0), want[i]);
                due.same("what depends on it", forge.value(1), want[i]);
                had = want[i];
            }
        }
    }

    /** "UnsupportedOperationException if it is another one": each kind, and FLIPPED ones. */
    private static void setOfOthers(Due due) {
        String type = "{x:U2,y~:U2}";
        LowForge forge = due.compiled("Ia:" + type + ";Ob:" + type + ";Wc:" + type + ";Rd:" + type
                + ";Ne=3;b<=a;c<=d;c.y<=1;d.x<=1;");
        boolean[] free = {true, false, false, true, false, false, false, false, false};
        for (int k = 0; k < free.length; k++) {
            int asked = k;
            if (free[k]) {
                due.same("set " + k, forge.set(k, 2), 0);
                due.same("value " + k, forge.value(k), 2);
            } else {
                due.thrownAndNothingElse("set " + k, FIXED, forge, () -> forge.set(asked, 1));
            }
        }
        forge.clock(1);
        due.thrownAndNothingElse("a register, then", FIXED, forge, () -> forge.set(6, 0));
        due.same("has what it took", forge.value(6), 1);
    }

    private static void setAnswersWhatItHad(Due due) {
        LowForge forge = due.compiled("Ia:U4;");
        due.same("0 at first", forge.set(0, 7), 0);
        due.same("then that", forge.set(0, 7), 7);
        forge.clock(40);
        due.same("it stays", forge.set(0, 16), 7);
        due.same("its lowest bits", forge.set(0, 1), 0);
        forge.compile();
        due.same("0 again", forge.set(0, 0), 0);
    }

    /** "n (1 to 40) CLOCKS", "IllegalArgumentException for another n". */
    private static void clocksOneTo40(Due due) {
        LowForge forge = due.compiled("Ra:U15;a<=+(a,1);");
        int clocks = 0;
        for (int n = 1; n <= 40; n++) {
            clocks += n;
            due.same("clock " + n, forge.clock(n), clocks);
            due.same("so often", forge.value(0), clocks);
            for (int other : new int[] {0, -1, 41, -n, 41 + n, 256 + n, Integer.MIN_VALUE,
                Integer.MAX_VALUE}) {
                due.thrownAndNothingElse("clock " + other, OTHER, forge,
                        () -> forge.clock(other));
            }
        }
        due.same("none of them counted", forge.clock(1), 821);
        forge.compile();
        due.same("since the compile", forge.clock(40), 40);
    }

    /** "IllegalStateException if nothing is compiled": nor by a compile that threw. */
    private static void clocksWithNothingCompiled(Due due) {
        for (int i = 0; i < REFUSED.length; i++) {
            LowForge forge = new LowForge();
            Due.write(forge, REFUSED[i]);
            due.thrown(REFUSED[i], exceptionOf(i), forge::compile);
            for (int n : new int[] {1, 40}) {
                due.thrownAndNothingElse("clock " + n, IllegalStateException.class, forge,
                        () -> forge.clock(n));
            }
            for (int n : new int[] {0, 41}) {
                due.thrownAndNothingElse("clock " + n, OTHER, forge, () -> forge.clock(n));
            }
            due.same("its place", forge.where(), PLACES[i]);
            forge.clear();
            forge.compile();
            due.same("the empty one is compiled", forge.clock(40), 40);
        }
    }

    /** "as a part of all CLOCKS since the compile (0 without)". */
    private static void activityWithoutClocks(Due due) {
        LowForge forge = due.compiled("Ia:U1;Nb=1;Rc:U1;");
        forge.set(0, 1);
        for (int k = 0; k < 3; k++) {
            due.same("without", forge.activity(k), 0.0);
        }
        forge.clock(1);
        due.same("of one", forge.activity(1), 1.0);
        forge.compile();
        for (int k = 0; k < 3; k++) {
            due.same("without again", forge.activity(k), 0.0);
        }
    }

    /** "(than 0 for the first one)". */
    private static void activityOfTheFirstClock(Due due) {
        LowForge forge = due.compiled("Ia:U2;Nb=1;Nc=0;Rd:U1;d<=1;");
        forge.set(0, 2);
        forge.clock(1);
        double[] first = {1.0, 1.0, 0.0, 0.0};
        for (int k = 0; k < 4; k++) {
            due.same("first " + k, forge.activity(k), first[k]);
        }
        forge.clock(1);
        double[] second = {0.5, 0.5, 0.0, 0.5};
        for (int k = 0; k < 4; k++) {
            due.same("second " + k, forge.activity(k), second[k]);
        }
        forge.compile();
        forge.clock(1);
        due.same("0 anew, not what it was", forge.activity(0), 0.0);
        due.same("another than 0 anew", forge.activity(1), 1.0);
    }

    /** From no CLOCK to all of them. */
    private static void activityFromNoneToAll(Due due) {
        LowForge forge = due.compiled("Ra:U1;a<=!(a);Nb=!(a);Rc:U1;Id:U1;");
        for (int clocks = 1; clocks <= 80; clocks++) {
            forge.clock(1);
            due.same("every one but the first", forge.activity(0),
                    (double) (clocks - 1) / clocks);
            due.same("every one", forge.activity(1), 1.0);
            due.same("none", forge.activity(2), 0.0);
        }
        forge.set(3, 1);
        due.same("not before the next one", forge.activity(3), 0.0);
        forge.set(3, 0);
        forge.clock(1);
        due.same("nor by what was between", forge.activity(3), 0.0);
        forge.set(3, 1);
        forge.clock(19);
        due.same("once of 100", forge.activity(3), 0.01);
    }

    /** "IllegalArgumentException for others": below 0 and above 5. */
    private static void countsOfWhat(Due due) {
        LowForge without = new LowForge();
        LowForge forge = due.compiled("Ia:U1;");
        for (int what : new int[] {-1, 6, 7, 256, Integer.MIN_VALUE, Integer.MAX_VALUE}) {
            due.thrownAndNothingElse("count " + what, OTHER, forge, () -> forge.count(what));
            due.thrownAndNothingElse("count " + what, OTHER, without, () -> without.count(what));
        }
        due.same("the first", forge.count(0), 6);
        due.same("the last", forge.count(5), 1);
    }

    /** "of the CIRCUIT (0 without one)". */
    private static void countsWithoutCircuit(Due due) {
        for (int i = 0; i < REFUSED.length; i++) {
            LowForge forge = new LowForge();
            Due.write(forge, REFUSED[i]);
            due.thrown(REFUSED[i], exceptionOf(i), forge::compile);
            due.same("the text", forge.count(0), REFUSED[i].length());
            for (int what = 1; what <= 5; what++) {
                due.same("count " + what, forge.count(what), 0);
            }
        }
    }

    /** All 24 of them, and all CONNECTIONS that a text holds. */
    private static void countsAtTheirMost(Due due) {
        counts(due, "Ra:U16[4][3][2];" + "a<=a;".repeat(36), 196, 24, 24, 24, 864, 384);
        counts(due, "Wa:U1;" + "a<=1;".repeat(38), 196, 1, 1, 0, 38, 1);
        counts(due, "?1{}".repeat(50), 200, 0, 0, 0, 0, 0);
        counts(due, "Ia:U16[4][3][2];", 16, 24, 0, 0, 0, 384);
        counts(due, "Oa:{x:U1,y~:U2};Wb:{x:U1,y~:U2};a<=b;b.x<=0;", 44, 4, 3, 0, 3, 6);
    }

    private static void counts(Due due, String text, int... want) {
        LowForge forge = due.compiled(text);
        for (int what = 0; what < want.length; what++) {
            due.same(text + ": count " + what, forge.count(what), want[what]);
        }
    }
}
