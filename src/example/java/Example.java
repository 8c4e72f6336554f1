/** A pump and a heater that needs it start, and start again after a blackout. */
public final class Example {
    public static void main(String[] args) {
        BlackoutStart house = new BlackoutStart();
        bringIn(house, "fuse 100; outlet pump 30 60 50 2 5; outlet heater 40 70 65 3 1; need heater pump; loss 0001000;");
        System.out.println("outlets: " + house.load());
        bringIn(house, "heater");
        int heater = house.find();

        System.out.println("the heater runs in " + house.runsIn(heater) + " ticks, all in " + house.allIn(0));
        System.out.println("running after 4 ticks: " + house.run(4));
        System.out.println("mark of the heater: " + house.known(heater, 0) + ", why it is not granted: " + house.why(heater));
        System.out.println("running after 12 more: " + house.run(12) + ", load: " + house.load(0));

        System.out.println("dark until tick " + house.blackout(10) + ", then all in " + house.allIn(0) + " ticks");
        System.out.println("the blackout undone, changes left: " + house.undo() + ", power: " + house.count(3));

        bringIn(house, "fuse 100; outlet pump 30 20 20 2 5;");
        try {
            house.load();
        } catch (IllegalArgumentException e) {
            System.out.println("error " + house.errorCode() + " at byte " + house.errorPosition());
        }
    }

    /** Puts the text into the empty buffer, 20 bytes at a time, and cuts off what filled up the last 20. */
    static void bringIn(BlackoutStart house, String text) {
        for (int k = 0; k < text.length(); k += 20) {
            house.append(four(text, k), four(text, k + 4), four(text, k + 8), four(text, k + 12), four(text, k + 16));
        }
        house.truncate(text.length());
    }

    static int four(String text, int start) {
        int bytes = 0;
        for (int k = start; k < start + 4; k++) {
            bytes = bytes << 8 | (k < text.length() ? text.charAt(k) : ' ');
        }
        return bytes;
    }
}
