/** Small steps that several tests take on an object, and all that can be told of one. */
final class Scenes {
    private Scenes() {
    }

    static void passTo(StandTugs x, int minute) {
        while (x.value(3) < minute) {
            x.pass(Math.min(500, minute - x.value(3)));
        }
    }

    static void write(StandTugs x, String text) {
        x.clearText();
        for (int i = 0; i < text.length(); i++) {
            x.append(text.charAt(i));
        }
    }

    static String repeated(String piece, int times) {
        StringBuilder text = new StringBuilder();
        for (int i = 0; i < times; i++) {
            text.append(piece);
        }
        return text.toString();
    }

    /** The numbers just below and above a range, and those at the ends of int. */
    static int[] outside(int least, int most) {
        return new int[] {least - 1, most + 1, Integer.MIN_VALUE, Integer.MAX_VALUE};
    }

    /**
     * Everything that can be told of an object: the state, each saved one, and the text. (The digest tells all of a
     * state.) Uses the object up.
     */
    static String whole(StandTugs x) {
        StringBuilder all = new StringBuilder("now ").append(x.digest());
        boolean isSaved = true;
        while (isSaved) {
            try {
                all.append(", undo ").append(x.undo()).append(": ").append(x.digest());
            } catch (IllegalStateException e) {
                isSaved = false;
            }
        }
        all.append(", parse ").append(x.parse()).append(": ").append(x.digest());
        return all.append(", text ").append(x.clearText()).toString();
    }
}
