/** Objects in states that tests of refusals begin with: all made within 320 calls. */
final class States {
    private States() {
    }

    static BeachIsRelaid fresh() {
        return new BeachIsRelaid();
    }

    /** Two of staff, three texts, half a text on the tape, an image of what was ahead, sheets that all tell 0, 1, 2. */
    static BeachIsRelaid some() {
        BeachIsRelaid x = new BeachIsRelaid();
        Due.read(x, "takes mark + 1 ; lays mark ; leaves tide ;");
        Due.read(x, "takes beside + row ; lays 9 - mark ; leaves mark - 1 ;");
        x.staff(1, 3, 14);
        x.staff(5, 4, 20);
        x.set(1, 35, 2);
        x.set(0, 0, 3);
        x.image();
        x.force(1);
        x.set(0, 0, 5);
        x.set(3, 0, 6);
        x.set(4, 1, 21);
        Due.plans(x, 7, 0, 8, 15);
        Due.marks(x, 4, 30, 31);
        x.relay(1, 8);
        for (int s = 0; s < 4; s++) {
            Due.row(x, s, 0, 0, 1, 2);
        }
        Due.feed(x, "takes mark + 6 ; lays 7 ; leaves");
        return x;
    }

    /** Four of staff, six texts, a tape of 160 bytes, all tides, eight cells wrong; sheets of 37, of shorts, of none, none. */
    static BeachIsRelaid full() {
        BeachIsRelaid x = new BeachIsRelaid();
        for (int i = 1; i < 6; i++) {
            Due.read(x, "takes" + i + ";lays" + i + ";leaves" + i + ";");
        }
        for (int i = 0; i < 4; i++) {
            x.staff(i, i + 1, 7 * i);
        }
        x.force(5);
        x.set(0, 0, 999);
        Due.plans(x, 3, 1, 2, 3, 9, 15, 28, 29, 35);
        x.sheet(0, 0, 37);
        Due.row(x, 1, 1, 35, 5, 30);
        x.sheet(2, 2, 0);
        x.image();
        x.set(1, 0, 3);
        x.set(2, 0, 3);
        for (int i = 0; i < 160; i++) {
            x.feed(i % 40 < 39 ? "takes 2 + mark ; lays mark ; leaves 0 ;".charAt(i % 40) : 10);
        }
        return x;
    }
}
