/** Objects in which something of everything stands, and such in which all is full. */
final class Scene {
    private Scene() {
    }

    static void feed(LeverCurtain x, String text) {
        x.end(0);
        for (int i = 0; i < text.length(); i += 20) {
            int[] numbers = new int[5];
            for (int j = 0; j < Math.min(20, text.length() - i); j++) {
                numbers[j / 4] |= text.charAt(i + j) << 24 - j % 4 * 8;
            }
            x.feed(numbers[0], numbers[1], numbers[2], numbers[3], numbers[4]);
        }
    }

    static void law(LeverCurtain x, String text) {
        feed(x, text);
        x.law();
    }

    static void name(LeverCurtain x, String text) {
        feed(x, text);
        x.known();
    }

    static void read(LeverCurtain x, int hand, int paper, String text) {
        feed(x, text);
        x.read(hand, paper);
    }

    /** Five LEVERS, two OFFICES (LEVER 4 is of none), two or three of the rest; "anna" is on the TAPE. */
    static LeverCurtain some() {
        LeverCurtain x = new LeverCurtain(5);
        x.office(0b00011, 1);
        x.office(0b01100, 2);
        x.strap(0b00011, 1);
        x.strap(0b10100, 1);
        law(x, "y:s-x");
        law(x, "y:p>5?9;y:p");
        x.use(0);
        x.machine(60, 2, 1, 0, 58);
        x.machine(40, 0, 0, 3, 9);
        x.machine(30, 9, 0, 0, 21);
        x.show(0, 0, 30);
        x.show(0, 1, 11);
        x.show(0, 2, 40);
        x.show(0, 3, 5);
        x.show(1, 0, 7);
        x.show(1, 1, 5);
        x.show(1, 2, 30);
        x.show(1, 3, 10);
        x.show(2, 0, 22);
        x.trouble(0, 1, 0, 1);
        x.trouble(0, 0, 3, 0);
        x.trouble(1, 1, 1, 0);
        x.trouble(1, 1, 2, 3);
        x.trouble(2, 1, 0, 1);
        x.trouble(2, 3, 0, 5);
        x.open(2, 2);
        x.cost(0, 4);
        x.cost(1, 3);
        x.test(1, 12);
        x.test(12, 3);
        x.limit(2);
        name(x, "anna");
        name(x, "hanna");
        read(x, 0, 0, "ann");
        read(x, 1, 0, "h.nna");
        read(x, 3, 2, "bob");
        x.absent(0, 3, 8);
        x.absent(1, 0, 4);
        x.event(0, 10, 0, 7);
        x.event(0, 40, 3, 2);
        x.event(0, 50, 1, 8);
        x.event(1, 9, 3, 1);
        x.recount(0, 0, 21);
        x.recount(0, 0, 20);
        x.recount(1, 1, 6);
        feed(x, "anna");
        return x;
    }

    /** Six OFFICES and MACHINES, ten STRAPS, four LAWS, eight of all else there; "full" is on the TAPE. */
    static LeverCurtain full() {
        LeverCurtain x = new LeverCurtain(8);
        for (int i = 0; i < 6; i++) {
            x.office(i == 0 ? 3 : 2 << i, 1);
        }
        for (int i = 0; i < 10; i++) {
            x.strap(i < 8 ? 1 << i | 2 : 3, 1);
        }
        for (int i = 0; i < 4; i++) {
            law(x, "y:s-" + i);
        }
        x.use(3);
        for (int i = 0; i < 6; i++) {
            x.machine(20 + i, 0, 0, 0, 20);
        }
        x.show(0, 0, 9);
        x.show(0, 1, 8);
        for (int i = 0; i < 8; i++) {
            x.trouble(0, i == 7 ? 1 : 2, i, 0);
            x.test(1 << i, 2);
            name(x, "abcdefgh".substring(0, i + 1));
            x.recount(0, 0, i);
        }
        for (int i = 0; i < 20; i++) {
            x.event(0, 3 * i, i % 4, i % 4);
        }
        feed(x, "full");
        return x;
    }
}
