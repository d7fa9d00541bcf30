/** Promise 2: characters come to the text. */
public final class TextTest {
    public static void main(String[] args) {
        Due due = new Due("TextTest");
        takesBytesHighestFirst(due);
        refusesOtherBytes(due);
        holdsTwoHundred(due);
        due.end();
    }

    private static void takesBytesHighestFirst(Due due) {
        LowForge forge = new LowForge();
        due.same("no byte", forge.text(0), 0);
        due.same("one byte", forge.text('I'), 1);
        due.same("zeros between", forge.text(0x0061_0000_3A00_0055L), 4);
        due.same("the highest byte", forge.text(0x3700_0000_0000_0000L), 5);
        due.same("eight bytes", forge.text(Due.word(";       ")), 13);
        due.same("Ia:U7; compiles", forge.compile(), 1);
        due.same("its width", forge.signal(0, 1), 7);
        due.same("the text stays", forge.text(' '), 14);
        due.same("count", forge.count(0), 14);
    }

    private static void refusesOtherBytes(Due due) {
        LowForge forge = new LowForge();
        forge.text('I');
        long[] others = {31, 127, 9, 1, 128, 255, -1L, 0x6161_6161_6161_611FL,
            0x1F61_6161_6161_6161L, 0x6161_617F_6161_6161L, 0x8061_6161_6161_6161L};
        for (long w : others) {
            due.thrown("text(" + w + ")", IllegalArgumentException.class, () -> forge.text(w));
            due.same("nothing changes", forge.count(0), 1);
        }
        due.same("32 and 126", forge.text(0x207E), 3);
    }

    private static void holdsTwoHundred(Due due) {
        LowForge forge = new LowForge();
        for (int i = 0; i < 24; i++) {
            forge.text(Due.word("        "));
        }
        forge.text(Due.word("       "));
        due.same("199", forge.count(0), 199);
        due.thrown("two more", IllegalStateException.class, () -> forge.text(Due.word("ab")));
        due.thrown("a bad byte and two more", IllegalArgumentException.class,
                () -> forge.text(0x6162_01L));
        due.same("nothing changes", forge.count(0), 199);
        due.same("nothing of it came", forge.compile(), 0);
        due.same("the last one", forge.text(' '), 200);
        due.same("none more", forge.text(0), 200);
        due.thrown("one more", IllegalStateException.class, () -> forge.text(' '));
        due.same("count", forge.count(0), 200);
        due.same("cleared", forge.clear(), 200);
        due.same("room again", forge.text(' '), 1);
    }
}
