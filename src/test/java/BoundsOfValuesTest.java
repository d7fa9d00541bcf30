/** The bounds of VALUES, a test for each sentence that names one. */
public final class BoundsOfValuesTest {
    private static final int[] EDGES = {0, 1, 2, 3, 32767, 32768, 32769, 65534, 65535};
    private static final String[] OPS = {"+", "-", "&", "|", "^", "=", "<", "#"};

    public static void main(String[] args) {
        Due due = new Due("BoundsOfValuesTest");
        opsOfNarrowOnes(due);
        opsOfSixteenBits(due);
        wrapWithinTheirWidth(due);
        notByBits(due);
        firstOneAbove(due);
        secondIfTheFirstIsNot0(due);
        bitsHighToLow(due);
        bitsBeyondTheWidth(due);
        sinksTakeTheLowestBits(due);
        sinksOfMoreBits(due);
        registersAre0AtFirst(due);
        registersWrap(due);
        registersAllAtOnce(due);
        due.end();
    }

    private static int model(int op, int a, int b, int wideA, int wideB) {
        int both = (1 << Math.max(wideA, wideB)) - 1;
        switch (op) {
            case 0:
                return a + b;
            case 1:
                return a >= b ? a - b : a - b + both + 1;
            case 2:
                return a & b;
            case 3:
                return a | b;
            case 4:
                return a ^ b;
            case 5:
                return a == b ? 1 : 0;
            case 6:
                return a < b ? 1 : 0;
            default:
                return a * (1 << wideB) + b;
        }
    }

    /** Every pair of VALUES of 1 to 3 bits, by every op. */
    private static void opsOfNarrowOnes(Due due) {
        for (int wideA = 1; wideA <= 3; wideA++) {
            for (int wideB = 1; wideB <= 3; wideB++) {
                LowForge forge = due.compiled(circuitOf(wideA, wideB, OPS.length));
                for (int a = 0; a < 1 << wideA; a++) {
                    for (int b = 0; b < 1 << wideB; b++) {
                        compare(due, forge, a, b, wideA, wideB);
                    }
                }
            }
        }
    }

    /** "- & | ^ = <" of 16 bits at their edges; + and # of so many would be too wide. */
    private static void opsOfSixteenBits(Due due) {
        String text = "Ia:U16;Ib:U16;Nc=1;Nd=-(a,b);Ne=&(a,b);Nf=|(a,b);Ng=^(a,b);Nh==(a,b);"
                + "Ni=<(a,b);";
        LowForge forge = due.compiled(text);
        for (int a : EDGES) {
            for (int b : EDGES) {
                forge.set(0, a);
                forge.set(1, b);
                for (int op = 1; op < 7; op++) {
                    due.same(OPS[op] + "(" + a + "," + b + ")", forge.value(2 + op),
                            model(op, a, b, 16, 16));
                }
            }
        }
    }

    private static String circuitOf(int wideA, int wideB, int ops) {
        StringBuilder text = new StringBuilder("Ia:U" + wideA + ";Ib:U" + wideB + ";");
        for (int op = 0; op < ops; op++) {
            text.append('N').append((char) ('c' + op)).append('=').append(OPS[op]).append("(a,b);");
        }
        return text.toString();
    }

    private static void compare(Due due, LowForge forge, int a, int b, int wideA, int wideB) {
        forge.set(0, a);
        forge.set(1, b);
        for (int op = 0; op < OPS.length; op++) {
            due.same(OPS[op] + "(" + a + "," + b + ") of " + wideA + " and " + wideB,
                    forge.value(2 + op), model(op, a, b, wideA, wideB));
        }
    }

    private static void expr(Due due, String expr, int want) {
        due.same(expr, due.compiled("Na=" + expr + ";").value(0), want);
    }

    /** "+ - wrap within their WIDTH (- modulo 2 to it)". */
    private static void wrapWithinTheirWidth(Due due) {
        expr(due, "+(1,1)", 2);
        expr(due, "+(32767,32767)", 65534);
        expr(due, "-(0,0)", 0);
        expr(due, "-(0,1)", 1);
        expr(due, "-(1,1)", 0);
        expr(due, "-(1,2)", 3);
        expr(due, "-(0,65535)", 1);
        expr(due, "-(0,65534)", 2);
        expr(due, "-(65535,65535)", 0);
        expr(due, "-(#(0,T(0,14,0)),1)", 65535);
        expr(due, "-(T(0,7,0),1)", 255);
        expr(due, "-(T(0,7,0),255)", 1);
        expr(due, "-(T(0,7,0),256)", 256);
        expr(due, "+(-(0,1),-(0,1))", 2);
        expr(due, "-(-(0,1),2)", 3);
    }

    /** "! by bits": of 0 and of all bits, of 1 and of 16. */
    private static void notByBits(Due due) {
        expr(due, "!(0)", 1);
        expr(due, "!(1)", 0);
        expr(due, "!(65535)", 0);
        expr(due, "!(T(0,15,0))", 65535);
        expr(due, "!(32768)", 32767);
        expr(due, "!(2)", 1);
    }

    /** "# with the first one above". */
    private static void firstOneAbove(Due due) {
        expr(due, "#(1,0)", 2);
        expr(due, "#(0,1)", 1);
        expr(due, "#(255,0)", 510);
        expr(due, "#(255,255)", 65535);
        expr(due, "#(128,T(0,7,0))", 32768);
        expr(due, "#(T(0,7,0),255)", 255);
        expr(due, "#(1,T(0,14,0))", 32768);
    }

    /** "M the second if the first is not 0, else the third". */
    private static void secondIfTheFirstIsNot0(Due due) {
        expr(due, "M(0,5,9)", 9);
        expr(due, "M(1,5,9)", 5);
        expr(due, "M(2,5,9)", 5);
        expr(due, "M(32768,5,9)", 5);
        expr(due, "M(65535,5,9)", 5);
        expr(due, "M(T(2,0,0),5,9)", 9);
        expr(due, "M(-(3,3),5,9)", 9);
    }

    /** "T the bits h to l". */
    private static void bitsHighToLow(Due due) {
        for (int high = 0; high <= 15; high++) {
            for (int low = 0; low <= high; low++) {
                int bits = 1 << high - low + 1;
                expr(due, "T(45678," + high + "," + low + ")", (45678 >> low) % bits);
            }
        }
    }

    /** "(0 beyond the WIDTH)". */
    private static void bitsBeyondTheWidth(Due due) {
        expr(due, "T(1,0,0)", 1);
        expr(due, "T(1,1,0)", 1);
        expr(due, "T(1,1,1)", 0);
        expr(due, "T(1,15,1)", 0);
        expr(due, "T(31,4,4)", 1);
        expr(due, "T(31,5,4)", 1);
        expr(due, "T(31,5,5)", 0);
        expr(due, "T(!(0),15,0)", 1);
        expr(due, "T(-(0,1),15,0)", 1);
        expr(due, "T(T(31,1,0),4,0)", 3);
    }

    /** "A SINK takes the lowest bits of what it is." */
    private static void sinksTakeTheLowestBits(Due due) {
        for (int width = 1; width <= 16; width++) {
            LowForge forge = due.compiled("Ia:U16;Ob:U" + width + ";Rc:U" + width + ";b<=a;c<=a;");
            for (int value : EDGES) {
                forge.set(0, value);
                forge.clock(1);
                due.same(value + " of O" + width, forge.value(1), value % (1 << width));
                due.same(value + " of R" + width, forge.value(2), value % (1 << width));
            }
        }
        due.same("by a CHOICE, too", due.compiled("Wa:U2;?1{a<=7;}:{a<=0;}").value(0), 3);
    }

    /** Of less bits it takes all, with 0 above. */
    private static void sinksOfMoreBits(Due due) {
        due.same("one bit", due.compiled("Wa:U16;a<=1;").value(0), 1);
        due.same("- has wrapped before", due.compiled("Wa:U16;a<=-(0,1);").value(0), 1);
        due.same("! has no more bits", due.compiled("Wa:U16;a<=!(0);").value(0), 1);
        due.same("one less", due.compiled("Wa:U16;a<=32767;").value(0), 32767);
        due.same("as many", due.compiled("Wa:U16;a<=65535;").value(0), 65535);
    }

    /** "Registers are 0 at first, and take what they are then with a CLOCK". */
    private static void registersAre0AtFirst(Due due) {
        LowForge forge = due.compiled("Ra:U16;Rb:U1;a<=65535;b<=!(b);Oc:U16;c<=a;");
        due.same("a at first", forge.value(0), 0);
        due.same("b at first", forge.value(1), 0);
        due.same("c at first", forge.value(2), 0);
        forge.clock(1);
        due.same("a then", forge.value(0), 65535);
        due.same("b then", forge.value(1), 1);
        due.same("c then", forge.value(2), 65535);
        forge.clock(1);
        due.same("b behind two", forge.value(1), 0);
    }

    /** Their lowest bits, up to all and on to 0. */
    private static void registersWrap(Due due) {
        LowForge forge = due.compiled("Ra:U1;Rb:U4;Rc:U16;a<=+(a,1);b<=+(b,1);c<=-(c,1);");
        for (int clock = 1; clock <= 34; clock++) {
            forge.clock(1);
            due.same("one bit", forge.value(0), clock % 2);
            due.same("four bits", forge.value(1), clock % 16);
            due.same("16 bits, downwards", forge.value(2), 65536 - clock);
        }
    }

    /** "all at once". */
    private static void registersAllAtOnce(Due due) {
        LowForge forge = due.compiled("Ra:U1[4];a[0]<=!(a[3]);a[1]<=a[0];a[2]<=a[1];a[3]<=a[2];");
        int[] rows = {1, 3, 7, 15, 14, 12, 8, 0, 1};
        for (int row : rows) {
            forge.clock(1);
            int got = 0;
            for (int k = 0; k < 4; k++) {
                got |= forge.value(k) << k;
            }
            due.same("the row", got, row);
        }
        forge = due.compiled("Ra:U4;Rb:U4;Ic:U1;Id:U4;a<=b;b<=a;?c{a<=d;}");
        forge.set(2, 1);
        forge.set(3, 9);
        forge.clock(1);
        forge.set(2, 0);
        forge.clock(39);
        due.same("swapped 39 times", forge.value(1), 9);
        due.same("the other one", forge.value(0), 0);
    }
}
