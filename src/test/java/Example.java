/** The example of README.md: a voice says ba, a face says ga, and da is what is told of it. */
public final class Example {
    /** A text goes in by 20 bytes a call, filled with blanks, and is cut to its length. It has at most 500 bytes. */
    private static void tell(LipsVoice x, String text) {
        x.end(0);
        for (int from = 0; from < text.length(); from += 20) {
            int[] n = new int[5];
            for (int k = 0; k < 20; k++) {
                int one = from + k < text.length() ? text.charAt(from + k) : ' ';
                n[k / 4] = n[k / 4] << 8 | one;
            }
            x.feed(n[0], n[1], n[2], n[3], n[4]);
        }
        x.end(text.length());
    }

    private static void show(String what, int number) {
        System.out.println(what + ": " + number);
    }

    public static void main(String[] args) {
        LipsVoice x = new LipsVoice();
        tell(x, "sound ba 10 50; sound ba 30 50; voice 30 5; face 25 5;");
        show("a name told twice is a fault at byte", x.fault(0));
        tell(x, "sound ba 10 50; sound da 30 50; sound ga 50 50; voice 30 5; face 25 5;");
        show("no fault", x.fault(0));
        show("sounds", x.scene());

        int who = 0 * 100 + 0 * 10 + 2;   // person 0, the voice of sound 0 (ba), the face of sound 2 (ga)
        int setting = 0 * 10 + 0;         // noise 0, dark 0
        show("weight of ba by VOICE", x.weight(0, who, setting, 0, 0));
        show("chance of 1000 of ba by VOICE", x.chance(0, who, setting, 0, 0));
        show("likely by ONE", x.likely(3, who, setting, 0));
        show("chance of a THIRD by ODDS, the voice 99 late", x.kind(4, who, setting, 99, 3));

        show("a person of land 2, P 8", x.person(5, -5, 2 * 100 + 8));
        show("answers, with da", x.answer(100 + who, setting, 0, 1));
        show("answers, with ba, noticed", x.answer(100 + who, setting, 99, 100));
        show("the law that fits best", x.best(LipsVoice.NONE));
        show("of 1000, noticed in land 2", x.share(2, 4));

        tell(x, "call fused if noticed < 300 and third = 1000; call apart if 1 = 1;");
        show("lines", x.rules());
        show("called fused", x.called(who, setting, 0, 0));
        show("called apart, 99 late", x.called(who, setting, 99, 0));
        show("a person that is not there", x.best(9));
    }
}
