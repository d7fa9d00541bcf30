/** The bounds of THE TEXT and its TOKENS, a test for each sentence that names one. */
public final class BoundsOfTextTest {
    private static final int MOST = 200;

    public static void main(String[] args) {
        Due due = new Due("BoundsOfTextTest");
        holdsTwoHundred(due);
        refusesOneMore(due);
        compilesTheFullText(due);
        compilesTheEmptyText(due);
        takesCharacters32To126(due);
        refusesOtherBytes(due);
        changesNothingForABadByte(due);
        leavesZerosOut(due);
        takesTheHighestFirst(due);
        clearsEmptyAndFull(due);
        blanksBetweenTokens(due);
        blanksInNoToken(due);
        namesAreAToZ(due);
        numbersHaveOneToFiveDigits(due);
        numbersAreAtMost65535(due);
        due.end();
    }

    private static LowForge blanks(int length) {
        LowForge forge = new LowForge();
        Due.write(forge, " ".repeat(length));
        return forge;
    }

    /** "THE TEXT is a row of at most 200 characters": up to it, by words of each length. */
    private static void holdsTwoHundred(Due due) {
        for (int more = 0; more <= 8; more++) {
            long w = Due.word(" ".repeat(more));
            LowForge under = blanks(MOST - more - 1);
            due.same(more + " up to 199", under.text(w), MOST - 1);
            due.same("199 in count", under.count(0), MOST - 1);
            LowForge forge = blanks(MOST - more);
            due.same(more + " up to 200", forge.text(w), MOST);
            due.same("200 in count", forge.count(0), MOST);
            due.same("none more to 200", forge.text(0), MOST);
        }
    }

    /** "IllegalStateException if there would be more than 200; nothing changes then." */
    private static void refusesOneMore(Due due) {
        for (int more = 1; more <= 8; more++) {
            long w = Due.word("@".repeat(more));
            for (int length = MOST - more + 1; length <= MOST; length++) {
                LowForge forge = blanks(length);
                due.thrownAndNothingElse(more + " behind " + length, IllegalStateException.class,
                        forge, () -> forge.text(w));
                due.same("none of them came", forge.compile(), 0);
                Due.write(forge, " ".repeat(MOST - length));
                due.same("there is still the room for others", forge.compile(), 0);
            }
        }
    }

    private static void compilesTheFullText(Due due) {
        String item = "Ia:U1;";
        due.same("199", due.compiled(" ".repeat(193) + item).count(1), 1);
        due.same("200", due.compiled(" ".repeat(194) + item).count(1), 1);
        due.same("200, blanks behind", due.compiled(item + " ".repeat(194)).count(1), 1);
        due.fault(" ".repeat(198) + "@", 198);
        due.fault(" ".repeat(199) + "@", 199);
        due.fault(" ".repeat(194) + "Ia:U1", 199);
        due.fault(" ".repeat(195) + "Ia:U1", 200);
        due.fault("Ia:U1" + " ".repeat(195), 200);
        due.typeError(" ".repeat(195) + "a<=1;", 195);
        due.typeError("a<=1;" + " ".repeat(195), 0);
    }

    /** "An empty text", "The text is empty": it is a CIRCUIT of no ITEM. */
    private static void compilesTheEmptyText(Due due) {
        LowForge forge = new LowForge();
        due.same("no ITEM", forge.compile(), 0);
        due.same("did not throw", forge.where(), -2);
        due.same("blanks alone", blanks(1).compile(), 0);
        due.same("200 blanks alone", blanks(MOST).compile(), 0);
        Due.write(forge, "Ia:U1;");
        due.same("one ITEM", forge.compile(), 1);
        forge.clear();
        due.same("none again", forge.compile(), 0);
        due.same("nor a GROUND SIGNAL", forge.count(1), 0);
    }

    /** "characters (32 to 126)". */
    private static void takesCharacters32To126(Due due) {
        LowForge forge = new LowForge();
        for (int letter = 32; letter <= 126; letter++) {
            due.same("character " + letter, forge.text(letter), letter - 31);
        }
        due.same("all of them", forge.count(0), 95);
        due.same("both bounds in one word", new LowForge().text(0x207E_7E20_207E_7E20L), 8);
    }

    /** "IllegalArgumentException if another byte is not as said", at each place of the word. */
    private static void refusesOtherBytes(Due due) {
        for (int letter = 1; letter <= 255; letter++) {
            if (letter < 32 || letter > 126) {
                for (int shift = 0; shift <= 56; shift += 8) {
                    LowForge forge = new LowForge();
                    long alone = (long) letter << shift;
                    long among = 0x6161_6161_6161_6161L & ~(255L << shift) | alone;
                    due.thrownAndNothingElse(letter + " alone", IllegalArgumentException.class,
                            forge, () -> forge.text(alone));
                    due.thrownAndNothingElse(letter + " among", IllegalArgumentException.class,
                            forge, () -> forge.text(among));
                }
            }
        }
    }

    /** "nothing changes then": neither the text nor what comes behind it. */
    private static void changesNothingForABadByte(Due due) {
        LowForge forge = new LowForge();
        Due.write(forge, "Ia:U1");
        long bad = Due.word(";Ib:U1") << 8 | 127;
        due.thrownAndNothingElse("a bad byte", IllegalArgumentException.class, forge,
                () -> forge.text(bad));
        due.fault("Ia:U1", 5);
        due.thrown("the end is still missing", IllegalArgumentException.class, forge::compile);
        due.same("at its place", forge.where(), 5);
        due.same("it comes to what was there", forge.text(';'), 6);
        due.same("and nothing else did", forge.compile(), 1);
        LowForge full = blanks(MOST);
        due.thrownAndNothingElse("a bad byte, too, when it is full",
                IllegalArgumentException.class, full, () -> full.text(31));
    }

    /** "zeros left out": before, between and behind characters, and alone. */
    private static void leavesZerosOut(Due due) {
        LowForge forge = new LowForge();
        due.same("zeros alone", forge.text(0), 0);
        due.same("before it", forge.text(0x4E), 1);
        due.same("behind it", forge.text(0x6100_0000_0000_0000L), 2);
        due.same("on both sides", forge.text(0x0000_003D_0000_0000L), 3);
        due.same("between", forge.text(0x3900_0000_0000_003BL), 5);
        due.same("Na=9;", forge.compile(), 1);
        due.same("its value", forge.value(0), 9);
    }

    /** "The characters in the bytes of w, the highest first". */
    private static void takesTheHighestFirst(Due due) {
        LowForge forge = new LowForge();
        due.same("eight", forge.text(0x4E61_3D31_3233_3435L), 8);
        due.same("the last one", forge.text(0x3BL), 9);
        due.same("Na=12345;", forge.compile(), 1);
        due.same("its value", forge.value(0), 12345);
    }

    /** "The text is empty: how many characters it had." */
    private static void clearsEmptyAndFull(Due due) {
        for (int length : new int[] {0, 1, 199, 200}) {
            LowForge forge = blanks(length);
            due.same("it had", forge.clear(), length);
            due.same("it has none", forge.count(0), 0);
            due.same("it had none", forge.clear(), 0);
            Due.write(forge, " ".repeat(194) + "Ia:U1;");
            due.same("it can be full again", forge.count(0), MOST);
            due.same("of what came since", forge.compile(), 1);
        }
    }

    /** "Blanks may stand between TOKENS": nowhere, and between all of them. */
    private static void blanksBetweenTokens(Due due) {
        String tight = "Ia:{x~:U4,y:U[2]}[1];Nb=M(a[0].x,3,T(1,2,0));?b{}:{}a[0].x<=1;";
        String wide = " I a : { x ~ : U 4 , y : U 7 [ 2 ] } [ 1 ] ; N b = M ( a [ 0 ] . x ,"
                + " 3 , T ( 1 , 2 , 0 ) ) ; ? b { } : { } a [ 0 ] . x <= 1 ;   ";
        LowForge one = due.compiled(tight.replace("U[", "U7["));
        LowForge other = due.compiled(wide);
        due.same("the same circuit",
                Due.toldOfCircuit(one).equals(Due.toldOfCircuit(other)) ? 1 : 0, 1);
        due.same("many of them", due.compiled("I   a   :   U   1   ;").count(1), 1);
    }

    /** Blanks stand between TOKENS alone: a NUMBER and <= are one. */
    private static void blanksInNoToken(Due due) {
        due.fault("Na=1 2;", 5);
        due.fault("Ia:U1 6;", 6);
        due.fault("Wa:U1;a< =1;", 7);
        due.fault("Wa:U1;a <  =1;", 8);
    }

    /** "NAMES a to z". */
    private static void namesAreAToZ(Due due) {
        LowForge forge = due.compiled("Ia:U1;Ib:U1;Iy:U1;Iz:U1;");
        int[] want = {0, 1, 24, 25};
        for (int k = 0; k < want.length; k++) {
            due.same("name", forge.signal(k, 3), want[k]);
        }
        due.fault("I`:U1;", 1);
        due.fault("I{:U1;", 1);
        due.fault("IA:U1;", 1);
        due.fault("IZ:U1;", 1);
        due.fault("I1:U1;", 1);
        due.fault("I:U1;", 1);
        due.fault("Iaa:U1;", 2);
        due.same("fields, too", due.compiled("Ia:{a:U1,z:U1};Nb=a.a;Nc=a.z;").depends(3), 2);
        due.fault("Ia:{`:U1};", 4);
        due.fault("Ia:{{:U1};", 4);
        due.fault("Ia:U1;Nb=a.`;", 11);
        due.fault("Ia:U1;Nb=a.{;", 11);
    }

    /** "NUMBERS, one to five digits", "with six digits its first one", wherever one may stand. */
    private static void numbersHaveOneToFiveDigits(Due due) {
        String[] starts = {"Ia:U", "Ia:U1[", "Nb=", "Nb=T(9,", "Nb=T(9,5,", "Ia:U1[2];Nb=a["};
        String[] ends = {";", "];", ";", ",0);", ");", "];"};
        for (int i = 0; i < starts.length; i++) {
            for (String zeros : new String[] {"", "0", "00", "000", "0000"}) {
                String text = starts[i] + zeros + "1" + ends[i];
                due.same(text, due.compiled(text).where(), -2);
            }
            due.fault(starts[i] + "000001" + ends[i], starts[i].length());
            due.fault(starts[i] + " 000001" + ends[i], starts[i].length() + 1);
            due.fault(starts[i] + "0000001" + ends[i], starts[i].length());
        }
        due.same("a U may have none", due.compiled("Ra:U;a<=1;").signal(0, 1), 1);
        due.fault("Ia:U1[];", 6);
        due.fault("Nb=;", 3);
    }

    /** "at most 65535", "for a NUMBER above 65535 .. its first one". */
    private static void numbersAreAtMost65535(Due due) {
        due.same("0", due.compiled("Na=0;").value(0), 0);
        due.same("65534", due.compiled("Na=65534;").value(0), 65534);
        due.same("65535", due.compiled("Na=65535;").value(0), 65535);
        for (String above : new String[] {"65536", "65540", "65600", "66000", "70000", "99999",
            "100000", "655350", "4294967296", "18446744073709551616"}) {
            due.fault("Na=" + above + ";", 3);
            due.fault("Na=+(1, " + above + ");", 8);
            due.fault("Na=" + above, 3);
        }
        due.typeError("Wa:U1[4];a[65535]<=1;", 9);
        due.fault("Wa:U1[4];a[65536]<=1;", 11);
        due.fault("65536", 0);
    }
}
