import java.nio.charset.StandardCharsets;

/** What the tests share: feeding a text, looking at answers, closing. */
final class Due {
    private static int right = 0;
    private static int wrong = 0;

    private Due() {
    }

    static void is(String what, long got, long want) {
        if (got == want) {
            right++;
        } else {
            wrong++;
            if (wrong <= 50) {
                System.out.println(what + " answered " + got + ", due is " + want);
            }
        }
    }

    static void is(String what, boolean got, boolean want) {
        is(what, got ? 1 : 0, want ? 1 : 0);
    }

    /** Puts a text on the tape behind what is there. */
    static void feed(SoarHouse house, String text) {
        byte[] bytes = text.getBytes(StandardCharsets.ISO_8859_1);
        int before = house.about(9);
        for (int at = 0; at < bytes.length; at += 20) {
            house.feed(four(bytes, at), four(bytes, at + 4), four(bytes, at + 8), four(bytes, at + 12), four(bytes, at + 16));
        }
        is("end of a fed text", house.end(before + bytes.length), before + bytes.length);
    }

    static int four(byte[] bytes, int at) {
        int value = 0;
        for (int i = at; i < at + 4; i++) {
            value = value << 8 | (i < bytes.length ? bytes[i] & 255 : 32);
        }
        return value;
    }

    static int map(SoarHouse house, String text) {
        feed(house, text);
        return house.map();
    }

    static int law(SoarHouse house, String text) {
        feed(house, text);
        return house.law();
    }

    static SoarHouse on(String text) {
        SoarHouse house = new SoarHouse();
        is("map " + text, map(house, text) >= 0, true);
        return house;
    }

    static void mapFault(String text, int fault, int place) {
        SoarHouse house = new SoarHouse();
        is("map " + text, map(house, text), SoarHouse.NONE);
        is("fault of " + text, house.fault(0), fault);
        is("place in " + text, house.fault(1), place);
    }

    static void lawFault(String text, int fault, int place) {
        SoarHouse house = new SoarHouse();
        is("law " + text, law(house, text), SoarHouse.NONE);
        is("fault of " + text, house.fault(0), fault);
        is("place in " + text, house.fault(1), place);
        is("no law of " + text, house.about(11), 0);
    }

    static void close() {
        System.out.println(right + " answers right, " + wrong + " wrong");
        if (wrong != 0) {
            System.exit(1);
        }
    }
}
