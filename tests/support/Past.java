/** Pasts of objects, for Twins. */
final class Past {
    private Past() {
    }

    private static void card(RidgeBureau x, int name, int... fingersAndPrints) {
        int c = x.card(name);
        for (int i = 0; i < fingersAndPrints.length; i += 2) {
            x.finger(c, fingersAndPrints[i], fingersAndPrints[i + 1]);
        }
    }

    /** Three prints, three marks (mark 0 grave), two texts, three cards (card 2 struck on day 2), hits, an image. */
    static void rich(RidgeBureau x) {
        Due.print(x, Due.LEFT);
        Due.print(x, Due.RIGHT);
        Due.print(x, Due.LEFT);
        x.point(0, 20, 20, 0, 0);
        x.point(0, 30, 30, 1, 4);
        x.point(1, 25, 25, 2, 3);
        x.point(2, 20, 21, 0, 1);
        x.mark(0, 0, 63, 63, true);
        x.spot(0, 20, 20, 0, 0);
        x.mark(10, 10, 40, 40, false);
        x.spot(1, 21, 20, 0, 1);
        x.spot(1, 33, 30, 1, 4);
        x.mark(0, 0, 9, 9, false);
        Due.rules(x, 0,
                "doubt if pairs<9;same if pairs>1;need 1;fingers 1;keep 20;keep 30 if guilty;strike if cleared");
        Due.rules(x, 3, "doubt if pairs>0;same if pairs>0;fingers 2;keep 9;keep 12 if child");
        card(x, 5, 0, 0, 5, 1);
        card(x, 6, 0, 0, 1, 2, 9, 1);
        card(x, 5, 0, 1, 1, 0);
        x.doubt(0, 0, 4);
        x.doubt(1, 2, 3);
        x.desk(4);
        x.days(1);
        x.say(0, 0, 0, 0, 1);
        x.say(5, 1, 1, 1, 2);
        x.tell(2, 1);
        x.tell(0, 0);
        x.days(1);
        x.tear(0, 5);
        x.image();
        card(x, 9, 0, 0, 4, 1);
        x.slack(2);
        x.tell(1, 2);
        x.say(0, 1, 1, 9, 0);
        x.days(1);
        x.tear(4, 3);
        Due.write(x, "0/");
        Due.illegal("a wrong text", x::print);
        Due.write(x, " " + Due.WHORL);
    }
}
