/** Promises 1 to 5: a new object, the tape and its texts. */
public final class TextsTest {
    private static final Due due = new Due("TextsTest");

    public static void main(String[] args) {
        newObject();
        feed();
        due.end();
    }

    private static void newObject() {
        due.promise(1, "a new object");
        FormMill mill = new FormMill();
        for (int what = 0; what <= 8; what++) {
            due.is("count(" + what + ")", mill.count(what), 0);
        }
        due.is("sort()", mill.sort(), FormMill.NONE);
    }

    private static void feed() {
        due.promise(2, "feed");
        FormMill mill = new FormMill();
        due.is("feed(0)", mill.feed(0, 1), FormMill.BAD);
        due.is("feed(9)", mill.feed(9, 1), FormMill.BAD);
    }
}
