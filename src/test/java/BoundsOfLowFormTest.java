/** The bounds of THE LOW FORM, of what is UNINITIALISED and of LOOPS, sentence by sentence. */
public final class BoundsOfLowFormTest {
    public static void main(String[] args) {
        Due due = new Due("BoundsOfLowFormTest");
        lastCounts(due);
        choicesOfWhatOneConnected(due);
        withoutTheSecondWhatItWas(due);
        threeDeep(due);
        asManyAsATextHolds(due);
        unconnectedOnOneOfEightPaths(due);
        whateverTheExprsAre(due);
        leastUninitialised(due);
        registersAreNever(due);
        dependsOnFirstAndLast(due);
        dependsOnItsChoices(due);
        registersDependOnThemselves(due);
        notOfSinksOnNothing(due);
        loopOfOne(due);
        loopOfMany(due);
        leastOfALoop(due);
        noneOfRegisters(due);
        due.end();
    }

    private static void becomes(Due due, String text, int k, int want) {
        due.same(text, due.compiled(text).value(k), want);
    }

    /** "What a SINK is CONNECTED with last counts." */
    private static void lastCounts(Due due) {
        becomes(due, "Wa:U3;a<=1;", 0, 1);
        becomes(due, "Wa:U3;a<=1;a<=2;", 0, 2);
        becomes(due, "Wa:U3;a<=1;?0{a<=2;}a<=3;", 0, 3);
        becomes(due, "Wa:U3;a<=1;?1{a<=2;a<=4;}", 0, 4);
        becomes(due, "Wa:U3[2];Wb:U3[2];b[0]<=5;b[1]<=6;a[1]<=1;a<=b;a[0]<=2;", 0, 2);
        becomes(due, "Wa:U3[2];Wb:U3[2];b[0]<=5;b[1]<=6;a[1]<=1;a<=b;a[0]<=2;", 1, 6);
    }

    /** "each SINK that one of both CONNECTED is a CHOICE": by the first, the second, both, none. */
    private static void choicesOfWhatOneConnected(Due due) {
        String in = "Ia:U1;Wb:U3;b<=1;";
        String[] steps = {"?a{b<=2;}", "?a{b<=2;}:{}", "?a{}:{b<=3;}", "?a{b<=2;}:{b<=3;}",
            "?a{}:{}", "?a{}"};
        int[] ifNotZero = {2, 2, 1, 2, 1, 1};
        int[] ifZero = {1, 1, 3, 3, 1, 1};
        for (int i = 0; i < steps.length; i++) {
            LowForge forge = due.compiled(in + steps[i]);
            due.same(steps[i] + " 0", forge.value(1), ifZero[i]);
            forge.set(0, 1);
            due.same(steps[i] + " 1", forge.value(1), ifNotZero[i]);
            due.same(steps[i] + " depends", forge.depends(1), i < 4 ? 1 : 0);
        }
    }

    /** "if c is not 0": 1, and any other; "(without it: what it was before)". */
    private static void withoutTheSecondWhatItWas(Due due) {
        LowForge forge = due.compiled("Ia:U16;Wb:U3;b<=1;?a{b<=2;b<=3;}");
        int[] set = {0, 1, 2, 32768, 65535, 65536};
        int[] want = {1, 3, 3, 3, 3, 1};
        for (int i = 0; i < set.length; i++) {
            forge.set(0, set[i]);
            due.same("c " + set[i], forge.value(1), want[i]);
        }
        forge = due.compiled("Ia:U1;Wb:U3;b<=1;?a{b<=2;}:{?a{b<=3;}}");
        due.same("before it all", forge.value(1), 1);
        forge = due.compiled("Ia:U1;Rb:U3;?a{b<=2;}");
        forge.set(0, 1);
        forge.clock(1);
        forge.set(0, 0);
        forge.clock(1);
        due.same("a register stays", forge.value(1), 2);
    }

    /** All eight paths of three ? in one another. */
    private static void threeDeep(Due due) {
        LowForge forge = due.compiled("Ic:U1[3];Wd:U3;?c[0]{?c[1]{?c[2]{d<=7;}:{d<=6;}}:{?c[2]"
                + "{d<=5;}:{d<=4;}}}:{?c[1]{?c[2]{d<=3;}:{d<=2;}}:{?c[2]{d<=1;}:{d<=0;}}}");
        for (int path = 0; path < 8; path++) {
            for (int k = 0; k < 3; k++) {
                forge.set(k, path >> 2 - k);
            }
            due.same("path " + path, forge.value(3), path);
        }
        due.same("depends on all", forge.depends(3), 7);
    }

    /** As many CHOICES as 200 characters hold, each of 24 SINKS. */
    private static void asManyAsATextHolds(Due due) {
        LowForge forge = due.compiled("Ra:U1[4][3][2];" + "?1{?1{?1{a<=a;}}}".repeat(10));
        due.same("CONNECTIONS", forge.count(4), 240);
        due.same("the first", forge.depends(0), 1);
        due.same("the last", forge.depends(23), 1 << 23);
        forge.clock(40);
        due.same("runs", forge.value(23), 0);
        forge = due.compiled("Ra:U1[4][3][2];" + "?1{a<=a;}".repeat(20));
        due.same("side by side", forge.depends(23), 1 << 23);
        forge = due.compiled("Ra:U1[4][4];Wb:U9;b<=1;?1{?1{?1{" + "b<=0;".repeat(30) + "}}}");
        due.same("30 STEPS in three", forge.value(16), 0);
    }

    /** "not CONNECTED then on every path": one of eight is missing, each in turn. */
    private static void unconnectedOnOneOfEightPaths(Due due) {
        String shape = "Ic:U1[3];Wd:U1;?c[0]{?c[1]{?c[2]{0}:{1}}:{?c[2]{2}:{3}}}:{?c[1]{?c[2]{4}"
                + ":{5}}:{?c[2]{6}:{7}}}";
        for (int missing = -1; missing < 8; missing++) {
            String text = shape;
            for (int path = 0; path < 8; path++) {
                text = text.replace("{" + path + "}", path == missing ? "{}" : "{d<=1;}");
            }
            if (missing < 0) {
                due.same("none is missing", due.compiled(text).value(3), 1);
            } else {
                due.uninitialised(text, 3);
                due.same("CONNECTED behind it", due.compiled(text + "d<=0;").value(3), 0);
                String before = text.replace("?c[0]", "d<=0;?c[0]");
                due.same("CONNECTED before it", due.compiled(before).value(3),
                        missing == 7 ? 0 : 1);
            }
        }
    }

    /** "(whatever the EXPRS of ? are)". */
    private static void whateverTheExprsAre(Due due) {
        due.uninitialised("Wa:U1;?1{a<=1;}", 0);
        due.uninitialised("Wa:U1;?0{}:{a<=1;}", 0);
        due.uninitialised("Wa:U1;?=(1,1){a<=1;}", 0);
        due.uninitialised("Ib:U1;Wa:U1;?b{a<=1;}?b{}:{a<=0;}", 1);
        due.uninitialised("Ib:U1;Wa:U1;?b{a<=1;}?!(b){a<=0;}", 1);
        due.uninitialised("Ib:U1;Wa:U1;?b{?b{a<=1;}}:{a<=0;}", 1);
        due.same("on both", due.compiled("Wa:U1;?1{a<=1;}:{a<=0;}").value(0), 1);
        due.same("on both of 0", due.compiled("Wa:U1;?0{a<=1;}:{a<=0;}").value(0), 0);
    }

    /** "the least SINK that is UNINITIALISED": from 0 to 23. */
    private static void leastUninitialised(Due due) {
        due.uninitialised("Wa:U1;", 0);
        due.uninitialised("Oa:U1;", 0);
        due.uninitialised("Wa:U1[4][3][2];", 0);
        due.uninitialised("Wa:U1[4][3][2];a[0]<=a[1];", 12);
        for (int k = 0; k < 4; k++) {
            StringBuilder text = new StringBuilder("Wa:U1[4];");
            for (int other = 0; other < 4; other++) {
                text.append(other == k ? "" : "a[" + other + "]<=1;");
            }
            due.uninitialised(text.toString(), k);
        }
        due.uninitialised("Ia:U1[4][4];Ib:U1[4];Ic:U1[3];Od:U1;", 23);
        due.uninitialised("Ia:U1[4][4];Ib:U1[4];Ic:U1[2];Wd:U1[2];d[0]<=1;", 23);
        due.uninitialised("Oa:{x~:U1,y:U1,z~:U1};", 1);
        due.uninitialised("Ia:{x:U1,y~:U1,z:U1};", 1);
        due.same("one of I is none", due.compiled("Ia:{x:U1};Ob:{x~:U1};").count(2), 0);
    }

    /** "a SINK, not of R". */
    private static void registersAreNever(Due due) {
        due.same("not CONNECTED", due.compiled("Ra:U1;").count(1), 1);
        due.same("CONNECTED on a path", due.compiled("Ra:U1;?1{a<=1;}").count(1), 1);
        due.same("FLIPPED", due.compiled("Ra:{x~:U1};").count(2), 1);
        due.uninitialised("Ra:U1;Wb:U1;", 1);
    }

    /** "On which GROUND SIGNALS it DEPENDS, as bits": the 0th and the 23rd, all, none. */
    private static void dependsOnFirstAndLast(Due due) {
        String in = "Ia:U1[4][4];Ib:U1[4];Ic:U1[3];";
        due.same("the 0th", due.compiled(in + "Nd=a[0][0];").depends(23), 1);
        due.same("the 22nd", due.compiled(in + "Nd=c[2];").depends(23), 1 << 22);
        due.same("the 23rd", due.compiled(in + "Rd:U1;").depends(23), 1 << 23);
        due.same("none", due.compiled(in + "Nd=1;").depends(23), 0);
        due.same("of the 0th on the 23rd",
                due.compiled("Wa:U1;Ib:U1[4][4];Ic:U1[4];Id:U1[3];a<=d[2];").depends(0), 1 << 23);
        due.same("of I that is no SINK", due.compiled(in).depends(0), 0);
        due.same("of O that is no SINK", due.compiled("Oa:{x~:U1};").depends(0), 0);
    }

    /** "with those in the EXPRS of its CHOICES (a node on those of its EXPR". */
    private static void dependsOnItsChoices(Due due) {
        String in = "Ia:U1;Ib:U1;Ic:U1;Wd:U1;";
        due.same("both and its EXPR", due.compiled(in + "?a{d<=b;}:{d<=c;}").depends(3), 7);
        due.same("its EXPR alone", due.compiled(in + "?a{d<=1;}:{d<=1;}").depends(3), 1);
        due.same("of an outer one", due.compiled(in + "d<=c;?a{?b{d<=1;}}").depends(3), 7);
        due.same("not of one that is none of its",
                due.compiled(in + "d<=c;?a{?b{}d<=1;}").depends(3), 5);
        due.same("not of what counts no more", due.compiled(in + "?a{d<=b;}d<=c;").depends(3), 4);
        due.same("of all parts of an EXPR", due.compiled(in + "d<=M(0,+(a,1),T(b,9,9));")
                .depends(3), 3);
        due.same("a node not through others", due.compiled("Ia:U1;Nb=a;Nc=b;").depends(2), 2);
    }

    /** "a register, where it stays on some path, on itself". */
    private static void registersDependOnThemselves(Due due) {
        due.same("on all", due.compiled("Ra:U1;").depends(0), 1);
        due.same("on one", due.compiled("Ia:U1;Rb:U1;?a{b<=1;}").depends(1), 3);
        due.same("on the other one", due.compiled("Ia:U1;Rb:U1;?a{}:{b<=1;}").depends(1), 3);
        due.same("on none", due.compiled("Ia:U1;Rb:U1;?a{b<=1;}:{b<=0;}").depends(1), 1);
        due.same("on none, by one before", due.compiled("Ia:U1;Rb:U1;b<=0;?a{b<=1;}").depends(1),
                1);
        due.same("on none, by one behind", due.compiled("Ia:U1;Rb:U1;?a{b<=1;}b<=0;").depends(1),
                0);
        due.same("on one of four", due.compiled("Ia:U1;Rb:U1;?a{b<=1;}:{?a{b<=0;}}").depends(1),
                3);
    }

    private static void notOfSinksOnNothing(Due due) {
        due.same("a wire", due.compiled("Wa:U1;a<=1;").depends(0), 0);
        due.same("of NUMBERS alone", due.compiled("Wa:U9;a<=+(1,#(2,3));").depends(0), 0);
    }

    /** "A LOOP is a row of GROUND SIGNALS": of one. */
    private static void loopOfOne(Due due) {
        due.loop("Wa:U1;a<=a;", 0);
        due.loop("Oa:U1;a<=!(a);", 0);
        due.loop("Ia:{x~:U1};a.x<=a.x;", 0);
        due.loop("Wa:U1;a<=M(0,a,1);", 0);
        due.loop("Wa:U1;a<=0;?a{a<=1;}", 0);
        due.loop("Wa:U1;?0{a<=a;}:{a<=1;}", 0);
        due.same("overridden", due.compiled("Wa:U1;a<=a;a<=1;").value(0), 1);
    }

    /** Of two, and of all 24; and a row that does not come back. */
    private static void loopOfMany(Due due) {
        due.loop("Wa:U1;Wb:U1;a<=b;b<=a;", 0);
        due.loop("Wa:U1;Wb:U1;Nc=b;b<=a;a<=c;", 0);
        String row = "Wa:U1[4][3][2];a[0][0]<=a[0][1];a[0][1]<=a[0][2];a[0][2]<=a[1][0];"
                + "a[1][0]<=a[1][1];a[1][1]<=a[1][2];";
        due.loop(row + "a[1][2]<=a[0][0];", 0);
        String places = "a[1][2][0]<=a[0][0][1];a[1][2][1]<=a[0][0][2];a[1][2][2]<=a[0][0][3];";
        due.loop(row + places + "a[1][2][3]<=a[0][0][0];", 0);
        LowForge forge = due.compiled(row + places + "a[1][2][3]<=1;");
        due.same("none", forge.count(1), 24);
        for (int k = 0; k < 24; k++) {
            due.same("1 comes to " + k, forge.value(k), 1);
        }
    }

    /** "the least GROUND SIGNAL in a LOOP": none that only leads to one, or comes from it. */
    private static void leastOfALoop(Due due) {
        due.loop("Wa:U1;Wb:U1;Wc:U1;a<=b;b<=c;c<=b;", 1);
        due.loop("Wa:U1;Wb:U1;Wc:U1;a<=1;b<=c;c<=b;", 1);
        due.loop("Wa:U1;Wb:U1;Wc:U1;c<=b;b<=a;a<=1;c<=c;", 2);
        due.loop("Wa:U1[4];a[0]<=a[3];a[3]<=a[1];a[1]<=a[3];a[2]<=a[2];", 1);
        due.loop("Ia:U1[4][4];Ib:U1[4];Ic:U1[3];Wd:U1;d<=d;", 23);
        due.loop("Ia:U1[4][4];Ib:U1[4];Ic:U1[2];Wd:U1;Ne=d;d<=e;", 22);
        due.loop("Nz=1;Wa:U1;Wb:U1;Nc=a;Nd=b;b<=c;a<=d;", 1);
    }

    /** "none of R". */
    private static void noneOfRegisters(Due due) {
        due.same("of one", due.compiled("Ra:U1;a<=!(a);").depends(0), 1);
        due.same("of two", due.compiled("Ra:U1;Rb:U1;a<=b;b<=a;").depends(0), 2);
        due.same("through one", due.compiled("Ra:U1;Wb:U1;a<=b;b<=a;").depends(0), 2);
        due.loop("Ra:U1;Wb:U1;Wc:U1;a<=b;b<=+(a,c);c<=b;", 1);
        due.loop("Ra:U1[4][4];Rb:U1[4];Wc:U1;Wd:U1;c<=#(a[0][0],d);d<=#(c,b[3]);", 20);
    }
}
