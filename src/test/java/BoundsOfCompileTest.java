import java.util.NoSuchElementException;

/** Promises 4 and 5 at their bounds: what is refused, in which order, and what stays then. */
public final class BoundsOfCompileTest {
    private static final String BEFORE = "Ia:U4;Rb:U4;Oc:U5;b<=+(b,a);c<=b;";

    public static void main(String[] args) {
        Due due = new Due("BoundsOfCompileTest");
        refusedOneByOne(due);
        inThisOrder(due);
        allThatCanBeSetIs0(due);
        theTextStays(due);
        noneWasThere(due);
        latestThatThrew(due);
        placesFrom0(due);
        otherCallsLeaveWhere(due);
        nothingOfTextsBefore(due);
        nothingOfAnOpenChoice(due);
        calls512(due);
        due.end();
    }

    /** "The CIRCUIT that was there stays then", for each of the five exceptions. */
    private static void refusedOneByOne(Due due) {
        stays(due, "Ia:U1", IllegalArgumentException.class, 5);
        stays(due, "Ia:U0;", IllegalArgumentException.class, 4);
        stays(due, "Rz:U9[4];z[4]<=1;", UnsupportedOperationException.class, 9);
        stays(due, "Ia:U1[4][3][2];Nb=1;", UnsupportedOperationException.class, 15);
        stays(due, "Rz:U9[4];z[3]<=1;Wa:U;", IllegalStateException.class, -1);
        stays(due, "Rz:U16;Na=+(z,1);", IllegalStateException.class, -1);
        stays(due, "Rz:U9[4];z[3]<=1;Wa:U1;", NoSuchElementException.class, 4);
        stays(due, "Rz:U9[4];z[3]<=1;Wa:U1;a<=a;", ArithmeticException.class, 4);
    }

    private static void stays(Due due, String text, Class<? extends RuntimeException> want,
            int place) {
        LowForge forge = due.compiled(BEFORE);
        forge.set(0, 3);
        forge.clock(4);
        String told = Due.toldOfCircuit(forge);
        forge.clear();
        Due.write(forge, text);
        for (int time = 0; time < 2; time++) {
            due.thrown(text, want, forge::compile);
            due.same(text + ": where", forge.where(), place);
            due.same(text + ": the text stays", forge.count(0), text.length());
            due.same(text + ": the CIRCUIT stays, " + told,
                    Due.toldOfCircuit(forge).equals(told) ? 1 : 0, 1);
        }
        due.same(text + ": what is set", forge.set(0, 2), 3);
        due.same(text + ": its CLOCKS", forge.clock(1), 5);
        due.same(text + ": it runs on", forge.value(1), 14);
        due.same(text + ": what depends on it", forge.value(2), 14);
    }

    /** "(looked at in this order)": each with all that are looked at later. */
    private static void inThisOrder(Due due) {
        String loop = "Wz:U1;z<=z;";
        String uninitialised = "Wy:U1;";
        String unresolved = "Wx:U;";
        String typeError = "w<=1;";
        due.loop(loop, 0);
        due.uninitialised(loop + uninitialised, 1);
        due.unresolved(loop + uninitialised + unresolved);
        due.unresolved(loop + unresolved);
        due.typeError(loop + uninitialised + unresolved + typeError, 22);
        due.typeError(loop + typeError, 11);
        due.typeError(uninitialised + typeError, 6);
        due.fault(loop + uninitialised + unresolved + typeError + ";", 27);
        due.fault(typeError + loop + "@", 16);
        due.fault(typeError + "Wa:U0;", 9);
        due.uninitialised("Wa:U1;Wb:U1;b<=b;", 0);
        due.uninitialised("Wa:U1;Wb:U1;a<=a;", 1);
        due.unresolved("Ia:U16;Wb:U1;Nc=+(a,b);");
        due.typeError("Ia:U16;Nb=+(a,1);Nb=1;", 17);
    }

    /** "all that can be set, and registers, 0", also of the same text. */
    private static void allThatCanBeSetIs0(Due due) {
        LowForge forge = due.compiled("Ia:{x:U4,y~:U4};Ob:{x:U4,y~:U4};Rc:U4[2];b<=a;c[0]<=!(c[0]);");
        forge.set(0, 15);
        forge.set(3, 9);
        forge.clock(3);
        due.same("before, I", forge.value(0), 15);
        due.same("before, O", forge.value(3), 9);
        due.same("before, R", forge.value(4), 15);
        due.same("compile", forge.compile(), 6);
        for (int k = 0; k < 6; k++) {
            due.same("GROUND SIGNAL " + k, forge.value(k), 0);
            due.same("its activity", forge.activity(k), 0.0);
        }
        due.same("CLOCKS", forge.clock(1), 1);
    }

    /** "that of the text (which stays)". */
    private static void theTextStays(Due due) {
        LowForge forge = due.compiled("Ia:U1;");
        due.same("six", forge.count(0), 6);
        due.same("again", forge.compile(), 1);
        Due.write(forge, "Ib:U1;");
        due.same("with more", forge.compile(), 2);
        forge.text('@');
        due.thrown("with a FAULT", IllegalArgumentException.class, forge::compile);
        due.same("behind it", forge.where(), 12);
        due.same("13", forge.count(0), 13);
        due.same("the CIRCUIT of before", forge.count(1), 2);
        due.same("cleared", forge.clear(), 13);
        due.same("the CIRCUIT of before, too", forge.count(1), 2);
        due.same("then none", forge.compile(), 0);
        due.same("none", forge.count(1), 0);
    }

    /** "-2 if the latest one did not throw, or there was none." */
    private static void noneWasThere(Due due) {
        LowForge forge = new LowForge();
        due.same("new", forge.where(), -2);
        forge.text('I');
        due.same("behind text", forge.where(), -2);
        forge.clear();
        due.same("behind clear", forge.where(), -2);
        due.thrown("clock", IllegalStateException.class, () -> forge.clock(1));
        due.thrown("signal", IndexOutOfBoundsException.class, () -> forge.signal(0, 0));
        due.same("behind what threw, but no compile", forge.where(), -2);
    }

    /** "Of the latest compile that threw": each behind each, and -2 behind none. */
    private static void latestThatThrew(Due due) {
        String[] texts = {"Ia", " a<=1;", "Wa:U;", "Ib:U1;Wa:U1;", "Ib:U1[3];Wa:U1;a<=a;", ""};
        int[] places = {2, 1, -1, 1, 3, -2};
        LowForge forge = new LowForge();
        for (int i = 0; i < 6; i++) {
            for (int j = 0; j < 6; j++) {
                again(due, forge, texts[i], places[i]);
                again(due, forge, texts[j], places[j]);
            }
        }
    }

    private static void again(Due due, LowForge forge, String text, int place) {
        forge.clear();
        Due.write(forge, text);
        int signals = -1;
        try {
            signals = forge.compile();
        } catch (RuntimeException e) {
            due.same(text + ": threw", place == -2 ? 1 : 0, 0);
        }
        due.same(text + ": answered", signals, place == -2 ? 0 : -1);
        due.same(text + ": where", forge.where(), place);
    }

    /** "the place (0 the first character)", up to the length of the text. */
    private static void placesFrom0(Due due) {
        due.fault("@", 0);
        due.fault("I", 1);
        due.typeError("a<=1;", 0);
        due.typeError("  a<=1;", 2);
        for (int place = 0; place < 200; place++) {
            due.fault(" ".repeat(place) + "@" + " ".repeat(199 - place), place);
        }
        for (int place = 0; place <= 194; place++) {
            due.typeError(" ".repeat(place) + "Na=b;" + " ".repeat(194 - place), place);
        }
        due.fault(" ".repeat(199) + "I", 200);
    }

    private static void otherCallsLeaveWhere(Due due) {
        LowForge forge = due.compiled("Ia:U1;Rb:U1;b<=a;");
        forge.text('@');
        due.thrown("a FAULT", IllegalArgumentException.class, forge::compile);
        forge.set(0, 1);
        forge.clock(2);
        forge.text(' ');
        due.thrown("another text", IllegalArgumentException.class, () -> forge.text(1));
        due.same("17 and 2", forge.clear(), 19);
        due.same("it is still that place", forge.where(), 17);
    }

    /** "The CIRCUIT becomes that of the text": whatever was compiled before, or refused. */
    private static void nothingOfTextsBefore(Due due) {
        String[] texts = {"", "Na=1;Nb=a;", "Ia:U1[2];Rb:{x:U2,y~:U3}[2];b[1]<=b[0];",
            "Ia:{a:U16};Wb:U;Nc=M(!(a.a),#(7,7),T(a.a,3,1));b<=c;?c{b<=1;?b{}}",
            "Ra:U1[4][3][2];?1{?1{?1{a<=a;}:{a[0]<=a[1];}}}", "Oa:{b~:U4};Nb=a.b;Wc:U;c<=b;",
            "Ra:U16;Nb=+(a,1);", "Wb:U1;Ra:U;a<=7;b<=b;", "Ia:U1;Wb:{x:U1};", "Ra:U;?a{a<=a;}",
            "Na=+(1,!(2));Ob:U2;?a{b<=a;}:{b<=3;}", "b<=1;", "Ia:U1;?a{?a{?a{}}}", "Ia:U1;?a{@",
            "Ia:U16;Nb=!(a);", "Ia:U1;Nb=65535;Wc:U1;", "Ia:U1[2];"};
        String[] alone = new String[texts.length];
        for (int i = 0; i < texts.length; i++) {
            alone[i] = outcome(new LowForge(), texts[i]);
        }
        for (String first : texts) {
            for (String second : texts) {
                for (int i = 0; i < texts.length; i++) {
                    LowForge forge = new LowForge();
                    outcome(forge, first);
                    outcome(forge, second);
                    String got = outcome(forge, texts[i]);
                    due.same(texts[i] + " behind " + first + " and " + second + ": " + got
                            + ", due is " + alone[i], got.equals(alone[i]) ? 1 : 0, 1);
                }
            }
        }
    }

    /** What comes of a text: where it is refused, or how its CIRCUIT runs. */
    private static String outcome(LowForge forge, String text) {
        forge.clear();
        Due.write(forge, text);
        try {
            forge.compile();
        } catch (RuntimeException e) {
            return e.getClass() + " " + forge.where();
        }
        StringBuilder outcome = new StringBuilder(Due.toldOfCircuit(forge));
        for (int round = 1; round <= 3; round++) {
            for (int k = 0; k < forge.count(1); k++) {
                if (forge.signal(k, 0) < 2 && forge.signal(k, 2) == 0) {
                    outcome.append(" had ").append(forge.set(k, 5 * round + k));
                }
            }
            outcome.append(" CLOCKS ").append(forge.clock(round));
            outcome.append(Due.toldOfCircuit(forge));
        }
        return outcome.toString();
    }

    /** A FAULT in one, two or three open ? leaves none of them open. */
    private static void nothingOfAnOpenChoice(Due due) {
        for (String open : new String[] {"?1{", "?1{?1{", "?1{?1{?1{", "?1{}:{", "?1{?1{}:{@"}) {
            LowForge forge = new LowForge();
            Due.write(forge, open);
            due.thrown(open, IllegalArgumentException.class, forge::compile);
            due.same("where", forge.where(), open.length() - (open.endsWith("@") ? 1 : 0));
            forge.clear();
            Due.write(forge, "Ia:U1;");
            due.same("an ITEM behind it", forge.compile(), 1);
            Due.write(forge, "?1{?1{?1{}}}");
            due.same("three ? behind it", forge.compile(), 1);
            Due.write(forge, "}");
            due.thrown("none to end", IllegalArgumentException.class, forge::compile);
            due.same("where", forge.where(), 18);
        }
    }

    /** "An object is used for at most 512 calls": the 512th is answered, be they the dearest. */
    private static void calls512(Due due) {
        calls512(due, "Ra:U16[4][3][2];" + "?1{?1{?1{a<=a;}}}".repeat(9) + "a[0]<=a[1];");
        calls512(due, "Ra:{x:U16,y:{z:U16,x~:U16}}[4];Rb:{x:U16,y:{z:U16,x~:U16}}[4];"
                + "a[0].y.x<=M(b[0].x,!(a[3].y.z),T(-(b[1].x,1),15,0));"
                + "a[1]<=b[2];b<=a;?a[0].x{a<=b;}:{b[1].y<=a[2].y;}");
    }

    private static void calls512(Due due, String text) {
        LowForge forge = new LowForge();
        int calls = 0;
        for (int i = 0; i < text.length(); i += 8) {
            forge.text(Due.word(text.substring(i, Math.min(i + 8, text.length()))));
            calls++;
        }
        for (; calls < 509; calls += 2) {
            due.same("compile", forge.compile(), 24);
            due.same("clock", forge.clock(40), 40);
        }
        for (; calls < 511; calls++) {
            due.same("where", forge.where(), -2);
        }
        due.same("the 512th", forge.signal(23, 1), 16);
    }
}
