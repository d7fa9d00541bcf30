/** Promise 1: an empty text; nothing is compiled. */
public final class NewObjectTest {
    public static void main(String[] args) {
        Due due = new Due("NewObjectTest");
        LowForge forge = new LowForge();
        for (int what = 0; what <= 5; what++) {
            due.same("count(" + what + ")", forge.count(what), 0);
        }
        due.same("where", forge.where(), -2);
        due.same("clear", forge.clear(), 0);
        Class<IndexOutOfBoundsException> none = IndexOutOfBoundsException.class;
        for (int k = -1; k <= 1; k++) {
            int signal = k;
            due.thrown("signal", none, () -> forge.signal(signal, 0));
            due.thrown("depends", none, () -> forge.depends(signal));
            due.thrown("set", none, () -> forge.set(signal, 1));
            due.thrown("value", none, () -> forge.value(signal));
            due.thrown("activity", none, () -> forge.activity(signal));
        }
        due.thrown("clock", IllegalStateException.class, () -> forge.clock(1));

        LowForge other = new LowForge();
        Due.write(other, "Ia:U1;");
        due.same("another object's text", forge.count(0), 0);
        due.end();
    }
}
