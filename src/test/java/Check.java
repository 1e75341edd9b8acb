/** What the tests share: feeding a text, and comparing answers with those that are due. */
final class Check {
    private static int wrong = 0;
    private static int asked = 0;
    private static String sentence = "";
    private static int askedBefore = 0;

    private Check() {
    }

    static void due(String call, long got, long want) {
        asked++;
        if (got != want) {
            wrong++;
            if (wrong <= 40) {
                System.out.println(sentence + call + " answered " + got + ", due is " + want);
            }
        }
    }

    /** The answers from here on are due by these words of the document. */
    static void of(String words) {
        endSentence();
        sentence = "\"" + words + "\": ";
        askedBefore = asked;
    }

    private static void endSentence() {
        if (!sentence.isEmpty() && asked == askedBefore) {
            wrong++;
            System.out.println(sentence + "nothing was asked");
        }
    }

    /** Numbers that are not within least .. most: the nearest, the farthest, and some that cut bits would make of them. */
    static int[] outside(int least, int most) {
        int[] tried = {Integer.MIN_VALUE, Integer.MIN_VALUE + least, -1000000, -65536 + least, -256 + least, -32 + least,
            least - 1, most + 1, least + 32, least + 64, least + 256, least + 65536, 1000000, Integer.MAX_VALUE};
        return java.util.Arrays.stream(tried).filter(n -> n < least || n > most).toArray();
    }

    static void due(String call, boolean got, boolean want) {
        due(call, got ? 1 : 0, want ? 1 : 0);
    }

    static boolean anyWrong() {
        return wrong != 0;
    }

    /** Puts a text on the tape, its last bytes filled up and cut off again. */
    static void feed(DogDecrees x, byte[] text) {
        for (int i = 0; i < text.length; i += 20) {
            int[] numbers = new int[5];
            for (int j = 0; j < 20; j++) {
                int b = i + j < text.length ? text[i + j] & 255 : 0;
                numbers[j / 4] = numbers[j / 4] << 8 | b;
            }
            x.feed(numbers[0], numbers[1], numbers[2], numbers[3], numbers[4]);
        }
        x.end(text.length);
    }

    static byte[] bytes(String text) {
        byte[] all = new byte[text.length()];
        for (int i = 0; i < all.length; i++) {
            all[i] = (byte) text.charAt(i);
        }
        return all;
    }

    static int tell(DogDecrees x, String text) {
        feed(x, bytes(text));
        return x.village();
    }

    static DogDecrees village(String text) {
        DogDecrees x = new DogDecrees();
        if (tell(x, text) < 0) {
            due("a text that is told for a test: '" + text + "' at " + x.fault(1), x.fault(0), 0);
        }
        return x;
    }

    /** The text is refused by this FAULT at this place, or (0) taken. */
    static void fault(String text, int fault, int place) {
        DogDecrees x = new DogDecrees();
        int answer = tell(x, text);
        due("village of '" + text + "' < 0", answer < 0, fault != 0);
        due("fault(0) of '" + text + "'", x.fault(0), fault);
        due("fault(1) of '" + text + "'", x.fault(1), place);
    }

    /** What lies there is just this. */
    static void lie(DogDecrees x, int... due) {
        due("how many lie there", x.about(16), due.length);
        for (int i = 0; i < due.length; i++) {
            due("lies(" + i + ")", x.lies(i), due[i]);
        }
        due("lies(" + due.length + ")", x.lies(due.length), DogDecrees.GAP);
        due("lies(-1)", x.lies(-1), DogDecrees.GAP);
    }

    static void odds(String call, long upper, long lower, long dueUpper, long dueLower) {
        due(call + ", the upper part", upper, dueUpper);
        due(call + ", the lower part", lower, dueLower);
    }

    static String times(String text, int n) {
        return text.repeat(n);
    }

    static void end(String test) {
        endSentence();
        System.out.println(test + ": " + asked + " answers, " + wrong + " wrong");
        if (wrong != 0) {
            System.exit(1);
        }
    }
}
