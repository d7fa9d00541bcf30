/** Promise 3: the text is empty. */
public final class ClearTest {
    public static void main(String[] args) {
        Due due = new Due("ClearTest");
        LowForge forge = new LowForge();
        due.same("nothing there", forge.clear(), 0);
        Due.write(forge, "Ia:U4;");
        forge.compile();
        forge.set(0, 9);
        due.same("six", forge.clear(), 6);
        due.same("none left", forge.clear(), 0);
        due.same("count", forge.count(0), 0);
        due.same("the circuit stays", forge.value(0), 9);
        Due.write(forge, "Ib");
        due.thrown("only the new text", IllegalArgumentException.class, forge::compile);
        due.same("its place", forge.where(), 2);
        forge.clear();
        due.same("where stays", forge.where(), 2);
        due.same("the empty text compiles", forge.compile(), 0);
        due.end();
    }
}
