/** The largest texts, and texts made of anything: no call throws by itself. */
public final class LimitsTest {
    private static final String LETTERS =
            "IOWRNUabcxyzMT+-&|^=<#!?:;,.[](){}~0123456789 @";

    public static void main(String[] args) {
        Due due = new Due("LimitsTest");
        fullTexts(due);
        anyTexts(due);
        manyCalls(due);
        due.end();
    }

    private static void fullTexts(Due due) {
        String[] starts = {"", "Wa:U1[4][3][2];", "Wa:U1[4][3][2];", "Wa:U1[4][3][2];?1{", "Na=",
            "Ia:U", "Ia:{", "Na=b", "Ra:U1[4][3][2];", "", "?1{?1{?1{", "Ra:U1;", "Na=1;"};
        String[] parts = {"?1{}", "a<=a;", "?1{?1{?1{a<=a;}}}", "a<=a;", "+(", "[1]", "x:U,", ".c",
            "?1{?1{?1{a<=a;}}}", "Na=1;", "}:{", "?a{?a{?a{a<=1;}}}", "?1{}:{}"};
        for (int i = 0; i < starts.length; i++) {
            StringBuilder text = new StringBuilder(starts[i]);
            while (text.length() + parts[i].length() <= 200) {
                text.append(parts[i]);
            }
            due.same(text.toString(), answers(text.toString()) ? 1 : 0, 1);
        }
        StringBuilder choices = new StringBuilder("Ra:U1[4][3][2];");
        for (int i = 0; i < 10; i++) {
            choices.append("?1{?1{?1{a<=a;}}}");
        }
        LowForge forge = due.compiled(choices.toString());
        due.same("connections", forge.count(4), 240);
        due.same("the last one", forge.depends(23), 1 << 23);
    }

    /** Puts texts together that are nearly circuits by a fixed rule, the same each time. */
    private static void anyTexts(Due due) {
        String[] parts = {"Ia:U2;", "Wb:{x:U,y~:U3}[2];", "Rc:U4[2];", "Od:U;", "Ne=+(a,c[1]);",
            "b[0]<=b[1];", "c[0]<=T(e,2,0);", "d<=#(a,e);", "?=(a,1){", "}", ":{", "c<=c;",
            "b[1].x<=a;", "b[0].y<=!(a);"};
        long seed = 20261118;
        for (int i = 0; i < 20000; i++) {
            StringBuilder text = new StringBuilder();
            while (text.length() < 150) {
                seed = seed * 6364136223846793005L + 1442695040888963407L;
                int drawn = (int) (seed >>> 33);
                boolean letter = i % 3 == 0 || drawn % 31 == 0;
                text.append(letter ? "" + LETTERS.charAt(drawn % LETTERS.length())
                        : parts[drawn % parts.length]);
                if (drawn % 17 == 0) {
                    break;
                }
            }
            if (!answers(text.toString())) {
                due.same(text.toString(), 0, 1);
            }
        }
        due.same("any texts", 1, 1);
    }

    /** Whether all calls answer as the document says that they may. */
    private static boolean answers(String text) {
        LowForge forge = new LowForge();
        Due.write(forge, text);
        try {
            int signals = forge.compile();
            return forge.where() == -2 && runs(forge, signals);
        } catch (UnsupportedOperationException e) {
            return forge.where() >= 0 && forge.where() < text.length();
        } catch (java.util.NoSuchElementException | ArithmeticException e) {
            return forge.where() >= 0 && forge.where() < 24;
        } catch (IllegalStateException e) {
            return forge.where() == -1;
        } catch (IllegalArgumentException e) {
            return forge.where() >= 0 && forge.where() <= text.length();
        } catch (RuntimeException e) {
            return false;
        }
    }

    private static boolean runs(LowForge forge, int signals) {
        forge.clock(3);
        for (int k = 0; k < signals; k++) {
            int width = forge.signal(k, 1);
            if (width < 1 || width > 16 || forge.value(k) >> width != 0 || forge.depends(k) < 0
                    || forge.depends(k) >> signals != 0) {
                return false;
            }
        }
        return signals <= 24;
    }

    private static void manyCalls(Due due) {
        LowForge forge = due.compiled("Ra:U16[4][3][2];?1{a[0]<=a[1];}a[0][0][0]<=-(a[1][2][3],1);");
        for (int i = 0; i < 500; i++) {
            forge.compile();
            forge.clock(40);
        }
        due.same("clocks", forge.clock(1), 41);
    }
}
