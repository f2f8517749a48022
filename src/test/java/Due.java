/** What all tests of the project share: comparing an answer with the one that is due, and typing a text. */
final class Due {
    private static int wrong = 0;
    private static int asked = 0;

    private Due() {
    }

    static void is(String call, long got, long want) {
        asked++;
        if (got != want) {
            wrong++;
            System.out.println(call + " answered " + got + ", due is " + want);
        }
    }

    static void type(UnlikeRoofs roofs, String text) {
        for (int i = 0; i < text.length(); i += 8) {
            String part = text.substring(i, Math.min(text.length(), i + 8));
            long v = 0;
            for (int k = 0; k < part.length(); k++) {
                v = v << 8 | part.charAt(k) & 255;
            }
            roofs.type(v, part.length());
        }
    }

    /** A new object whose town the text tells. */
    static UnlikeRoofs town(String text) {
        UnlikeRoofs roofs = new UnlikeRoofs();
        type(roofs, text);
        int items = roofs.town();
        if (items < 0) {
            wrong++;
            System.out.println("town() of '" + text + "' answered " + items);
        }
        return roofs;
    }

    static void finish() {
        System.out.println(wrong == 0 ? asked + " answers are as due" : wrong + " answers are not as due");
        if (wrong != 0) {
            System.exit(1);
        }
    }
}
