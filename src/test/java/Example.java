/** A land of two cells with two gods, two prayers that clash, and what is asked of it. */
public final class Example {
    private static final String TEXT = "land wide 2 high 1 law first; row ab; thing rain; thing figs;"
            + "god sun plain price 2 serves 1 from 6 to 18; god sea proud price 0 serves 1 from 0 to 24;"
            + "holds sun figs any 0 to 24; holds sea rain any 0 to 24; sends sea figs sun;"
            + "prayer corn rain at 0,0 hour 9 starts sea 8 gift 1 need 5;"
            + "prayer wine figs at 1,0 hour 9 starts sea 8 gift 5 need 1; clash corn wine";

    public static void main(String[] args) {
        PrayerWay way = new PrayerWay();
        System.out.println("gods: " + tell(way, TEXT));
        for (int prayer = 0; prayer < way.size(6); prayer++) {
            System.out.println("prayer " + prayer + ": fate " + way.fate(prayer) + " in hour " + way.when(prayer)
                    + " by god " + way.whom(prayer) + ", altars " + way.altars(prayer) + ", late " + way.late(prayer));
        }
        System.out.println("had better begin with god " + way.start(1) + "; together, as bits: " + way.together());

        System.out.println("god 0 put to sleep: " + way.sleep(0, true) + ", fate " + way.fate(1));
        System.out.println("undone: " + way.undo() + ", fate " + way.fate(1));

        System.out.println("a price of 100: " + way.price(0, 100) + ", trouble " + way.trouble());
        System.out.println("a faulty text: " + tell(way, "land wide 7") + ", trouble " + way.trouble()
                + ", fault " + way.fault() + " at byte " + way.where() + "; the land stays: " + way.size(4) + " gods");
    }

    /** Feeds a text twenty bytes at a time, filled up with blanks, and takes what was written as the land. */
    private static int tell(PrayerWay way, String text) {
        String tape = text + " ".repeat(20);
        for (int i = 0; i < text.length(); i += 20) {
            way.feed(four(tape, i), four(tape, i + 4), four(tape, i + 8), four(tape, i + 12), four(tape, i + 16));
        }
        return way.land(text.length());
    }

    /** Four bytes as one number, the highest first. */
    private static int four(String tape, int i) {
        return tape.charAt(i) << 24 | tape.charAt(i + 1) << 16 | tape.charAt(i + 2) << 8 | tape.charAt(i + 3);
    }
}
