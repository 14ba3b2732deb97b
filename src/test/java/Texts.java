/** Puts whole texts into the text buffer. */
final class Texts {
    private Texts() {
    }

    static void put(Story x, String text) {
        x.clearText();
        for (int i = 0; i < text.length(); i++) {
            x.appendText(text.charAt(i));
        }
    }

    static int run(Story x, String text) {
        put(x, text);
        return x.runText();
    }

    static int errorOf(String text) {
        Story x = new Story();
        put(x, text);
        return x.errorPosition();
    }
}
