/** What the tests share: answers against what is due, and texts put into a sheet. */
final class Due {
    private static int wrong = 0;

    private Due() {
    }

    static void is(String call, long got, long want) {
        if (got == want) return;
        wrong++;
        System.out.println(call + " answered " + got + ", due is " + want);
    }

    static void holds(String what, boolean so) {
        if (so) return;
        wrong++;
        System.out.println("not so: " + what);
    }

    static void end() {
        System.out.println(wrong == 0 ? "all answers are as due" : wrong + " answers are not as due");
        if (wrong != 0) System.exit(1);
    }

    /** What gardens() answers to a text, told in a sheet of ints. */
    static int told(WordHedges x, int sheet, String text) {
        x.sheet(sheet, 2, text.length());
        for (int i = 0; i < text.length(); i++) x.put(sheet, i, text.charAt(i));
        return x.gardens(sheet, 2, 0, text.length());
    }

    static WordHedges planted(String text) {
        WordHedges x = new WordHedges();
        holds(text + " is a text", told(x, 3, text) >= 2);
        return x;
    }
}
