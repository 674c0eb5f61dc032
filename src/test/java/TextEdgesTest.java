/** Texts at their edges: every character at every place, every number, every text that ends too early, the full text. */
public final class TextEdgesTest {
    private static final String FROM_1 = "123456789";
    private static final String FROM_0 = "0123456789";
    private static final int BAD_VALUE = -2;
    private static final int FULL = -3;

    /** What is read already, and the characters that are allowed behind it. */
    private static final String[][] PLACES = {
        {"", "pis"}, {"s1;", "pis"}, {"p1*40/40;", "pis"}, {"p1*40/40!;", "pis"},
        {"p", FROM_1}, {"p1", FROM_0 + "*"}, {"p3", FROM_0 + "*"}, {"p4", "0*"}, {"p5", "*"}, {"p9", "*"},
        {"p10", "*"}, {"p39", "*"}, {"p40", "*"},
        {"p1*", FROM_1}, {"p1*3", FROM_0 + "/"}, {"p1*9", FROM_0 + "/"}, {"p1*39", FROM_0 + "/"}, {"p1*40", "0/"},
        {"p1*41", "/"}, {"p1*99", "/"}, {"p1*399", "/"}, {"p1*400", "/"},
        {"p1*40/", FROM_1}, {"p1*40/9", FROM_0 + "!;"}, {"p1*40/59", FROM_0 + "!;"}, {"p1*40/60", "0!;"},
        {"p1*40/61", "!;"}, {"p1*40/99", "!;"}, {"p1*40/599", "!;"}, {"p1*40/600", "!;"},
        {"p1*40/40!", ";"}, {"p1*40/600!", ";"},
        {"i", FROM_1}, {"i9", FROM_0 + ";"}, {"i99", FROM_0 + ";"}, {"i299", FROM_0 + ";"}, {"i300", "0;"},
        {"i301", ";"}, {"i999", ";"}, {"i2999", ";"}, {"i3000", ";"},
        {"s", FROM_1}, {"s9", FROM_0 + ";"}, {"s99", FROM_0 + ";"}, {"s299", FROM_0 + ";"}, {"s300", "0;"},
        {"s301", ";"}, {"s999", ";"}, {"s2999", ";"}, {"s3000", ";"}};

    public static void main(String[] args) {
        everyCharacterAtEveryPlace();
        endsTooEarly();
        everyNumberOfLines();
        everySize();
        everyLeading();
        everyHeight();
        theFullText();
        faultsAtTheEndOfTheFullText();
        anyCharacterIsTyped();
        Due.end();
    }

    private static void faultOf(String text, int fault) {
        Due.is("putAll of '" + text + "'", Due.putAllOf(text), -100 - fault);
    }

    /** "The fault of the text is the index, from 0, of the first character that is not allowed at its place". */
    private static void everyCharacterAtEveryPlace() {
        for (String[] place : PLACES) {
            String ahead = place[0];
            for (int c = 0; c < 300; c++) {
                String text = ahead + (char) c;
                boolean isFault = Due.putAllOf(text) == -100 - ahead.length();
                boolean allowed = place[1].indexOf(c) >= 0;
                Due.is("'" + ahead + "' and the character " + c + ": a fault", isFault ? 1 : 0, allowed ? 0 : 1);
            }
            for (char c : new char[] {0x661, 0xff11, 0xff50, 32767, 65535, 'p' + 256, '1' + 256, ';' + 256}) {
                faultOf(ahead + c, ahead.length());
                faultOf(ahead + c + "i1", ahead.length());
            }
        }
    }

    /** "or the length of the text if it ends too early (the empty text does)": every beginning of a text. */
    private static void endsTooEarly() {
        String text = "p12*100/120!;i30;s40";
        // With "/1" and "/12" the text has no fault, but the leading is below the size.
        int[] due = {-100, -101, -102, -103, -104, -105, -106, -107, -108, BAD_VALUE, BAD_VALUE, 1, 1, -113, -114, 2, 2,
            -117, -118, 3, 3};
        for (int length = 0; length <= text.length(); length++) {
            String part = text.substring(0, length);
            Due.is("putAll of '" + part + "'", Due.putAllOf(part), due[length]);
        }
    }

    /** "a digit by which lines would be more than 40 .. is not allowed"; "no zero in front and are not 0". */
    private static void everyNumberOfLines() {
        for (int n = 0; n < 1000; n++) {
            String text = "p" + n + "*40/40";
            int due = n == 0 ? -101 : n <= 40 ? 1 : n < 100 ? -102 : n / 10 <= 40 ? -103 : -102;
            Due.is(text, Due.putAllOf(text), due);
            faultOf("p0" + n + "*40/40", 1);
        }
    }

    /** "a size more than 400"; "BAD_VALUE if any size is below 40". */
    private static void everySize() {
        for (int n = 0; n < 1000; n++) {
            String text = "p1*" + n + "/600";
            Due.is(text, Due.putAllOf(text), n == 0 ? -103 : n < 40 ? BAD_VALUE : n <= 400 ? 1 : -105);
            faultOf("p1*0" + n + "/600", 3);
        }
        faultOf("p1*4000/600", 6);
    }

    /** "a leading more than 600"; "BAD_VALUE if .. any leading below its size". */
    private static void everyLeading() {
        for (int n = 0; n < 1000; n++) {
            String text = "p1*100/" + n;
            Due.is(text, Due.putAllOf(text), n == 0 ? -107 : n < 100 ? BAD_VALUE : n <= 600 ? 1 : -109);
            Due.is(text + "!", Due.putAllOf(text + "!"), n == 0 ? -107 : n < 100 ? BAD_VALUE : n <= 600 ? 1 : -109);
            faultOf("p1*100/0" + n, 7);
        }
        faultOf("p1*100/6000", 10);
        for (int size = 39; size <= 400; size++) {
            String text = "i1;p1*" + size + "/" + size + ";s1";
            Due.is(text, Due.putAllOf(text), size < 40 ? BAD_VALUE : 3);
            String less = "i1;p1*" + size + "/" + (size - 1) + ";s1";
            Due.is(less, Due.putAllOf(less), BAD_VALUE);
        }
    }

    /** "or a height more than 3000 is not allowed". */
    private static void everyHeight() {
        for (int n = 0; n < 10000; n++) {
            for (char kind : new char[] {'i', 's'}) {
                String text = kind + "" + n;
                Due.is(text, Due.putAllOf(text), n == 0 ? -101 : n <= 3000 ? 1 : -104);
            }
        }
        for (char kind : new char[] {'i', 's'}) {
            faultOf(kind + "01", 1);
            faultOf(kind + "30000", 5);
            faultOf(kind + "10000", 5);
        }
    }

    /** "There is a text of at most 60 characters"; "FULL if it has 60 characters". */
    private static void theFullText() {
        String good = "i1000;s1000;i1000;s1000;i1000;s1000;i1000;s1000;p10*100/100!";
        BaselineGrid x = new BaselineGrid();
        for (int i = 0; i < 59; i++) {
            x.type(good.charAt(i));
        }
        Due.is("the 60th character", x.type(good.charAt(59)), 60);
        for (int c = 0; c < 300; c++) {
            Due.is("the 61st character, " + c, x.type((char) c), FULL);
        }
        Due.is("the length stays", x.count(8), 60);
        Due.is("the text stays", x.putAll(0), 9);
        Due.is("its last block", x.block(0, 8, 4), 1);
        Due.is("clearText()", x.clearText(), 60);
        Due.is("the empty text", x.putAll(0), -100);
        Due.is("type then", x.type('i'), 1);
        Due.is("the old characters are gone", x.putAll(0), -101);
    }

    /** Faults at the index of the last character, and at the length, of a text of 60 characters. */
    private static void faultsAtTheEndOfTheFullText() {
        String spaces = "s1000;s1000;s1000;s1000;s1000;s1000;s1000;s1000;s1000;";
        faultOf(spaces + "p1*40;", 59);
        faultOf(spaces + "p1*40/", 60);
        faultOf(spaces + "s1000;", 60);
        faultOf(spaces + "s3000x", 59);
        faultOf(spaces + "s30000", 59);
        Due.is("a good text of 59", Due.putAllOf(spaces + "s1000"), 10);
        Due.is("a size of 4 in a text of 60", Due.putAllOf(spaces + "p1*4/4"), BAD_VALUE);
    }

    /** "character: any character". */
    private static void anyCharacterIsTyped() {
        for (int from = 0; from < 65536; from += 32) {
            BaselineGrid x = new BaselineGrid();
            for (int i = 0; i < 32; i++) {
                Due.is("type " + (from + i), x.type((char) (from + i)), i + 1);
                Due.is("count(8)", x.count(8), i + 1);
            }
            Due.is("clearText()", x.clearText(), 32);
        }
    }
}
