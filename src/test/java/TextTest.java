/** Promise 2: the text of a day. */
public final class TextTest {
    public static void main(String[] args) {
        statements();
        tellsOnTopOfWhatIs();
        faultsOfForm();
        faultsOfSense();
        formComesFirst();
        withFaultNothingComes();
        refusals();
        Check.end();
    }

    private static long day(SlowerForTheLate x, String text) {
        Check.write(x, 0, text);
        return x.day(0);
    }

    private static void fault(String text, long want) {
        Check.due("day of " + text, day(new SlowerForTheLate(), text), want);
    }

    private static void statements() {
        SlowerForTheLate x = new SlowerForTheLate();
        Check.due("all letters", day(x, "r007;r360;t3009;p7924017;l30;g30;s9;h8;x0;"), 9);
        Check.due("run 0", x.run(0, 1), 7);
        Check.due("run 1", x.run(1, 1), 10);
        Check.due("run 3", x.run(3, 1), 60);
        Check.due("start", x.about(0, 0), 300);
        Check.due("seats", x.about(0, 1), 9);
        Check.due("cancelled", x.about(0, 2), 1);
        int[] person = {7, 9, 2, 4, 17};
        for (int what = 0; what < 5; what++) {
            Check.due("person " + what, x.traveller(0, what), person[what]);
        }
        Check.due("late", x.count(3), 30);
        Check.due("gap", x.count(4), 30);
        Check.due("slow", x.count(5), 9);
        Check.due("halt", x.count(6), 8);
        Check.due("the text stays", x.element(0, 0), 'r');
        Check.due("one statement", day(x, "s0;"), 1);
        Check.due("slow is told", x.count(5), 0);
    }

    private static void tellsOnTopOfWhatIs() {
        SlowerForTheLate x = new SlowerForTheLate();
        x.train(5, 1);
        x.run(1, 33);
        Check.due("one more train", day(x, "t0062;x0;x1;"), 3);
        Check.due("trains", x.count(1), 2);
        Check.due("cancelled ones", x.count(2), 3);
        Check.due("start of the first", x.about(0, 0), 5);
        Check.due("start of the second", x.about(1, 0), 6);
        Check.due("run as it was", x.count(7), 63);
        Check.due("told again it is not", day(x, "x0;"), 1);
        Check.due("cancelled ones then", x.count(2), 2);
        Check.due("twice in one text", day(x, "x0;x0;"), 2);
        Check.due("cancelled ones after twice", x.count(2), 2);
        Check.due("the same text again", day(x, "p0001000;"), 1);
        Check.due("and again", x.day(0), 1);
        Check.due("people", x.count(0), 2);
    }

    private static void faultsOfForm() {
        String[] whole = {"r210;", "t0202;", "p5404021;", "l11;", "g07;", "s4;", "h3;", "x0;"};
        for (String statement : whole) {
            for (int n = 0; n < statement.length(); n++) {
                fault(statement.substring(0, n), -1000 - n);
                fault("s1;" + statement.substring(0, n), n == 0 ? 1 : -1003 - n);
                fault(statement.substring(0, n) + " " + statement.substring(n), -1000 - n);
                fault("h1;" + statement.substring(0, n) + "/", -1003 - n);
                fault(statement.substring(0, n) + ":", -1000 - n);
                fault(statement.substring(0, n) + (char) 0, -1000 - n);
                fault(statement.substring(0, n) + (char) 200, -1000 - n);
            }
            fault("s1;" + statement + ";", -1003 - statement.length());
            fault("s1;" + statement + "0", -1003 - statement.length());
        }
        fault("R010;", -1000);
        fault("q;", -1000);
        fault("s;", -1001);
        fault("s12;", -1002);
        fault("l1;", -1002);
        fault("l123;", -1003);
        fault("g-1;", -1001);
        StringBuilder longest = new StringBuilder();
        for (int k = 0; k < 33; k++) {
            longest.append("s0;");
        }
        fault(longest.toString(), 33);
        fault(longest + "s", -1100);
    }

    private static void faultsOfSense() {
        String[] bad = {
            "r410;", "r910;", "r000;", "r061;", "r399;", "t3010;", "t9990;", "p8001000;", "p9001000;", "p0051000;", "p0005000;",
            "p0034301;", "p0034999;", "p0000000;", "p0021000;", "p0044000;", "p0040000;", "p0055000;", "l31;", "l99;",
            "g00;", "g31;", "g99;", "x0;"};
        for (String statement : bad) {
            fault(statement, -2000);
            fault("h1;" + statement, -2003);
            fault("h1;" + statement + "x9;", -2003);
        }
        String[] good = {
            "r301;", "r060;", "t0000;", "t3009;", "p7934300;", "p0001000;", "l00;", "l30;", "g01;", "g30;", "s0;", "s9;", "h0;", "h9;"};
        for (String statement : good) {
            fault(statement, 1);
        }
        fault("t0000;x0;", 2);
        fault("t0000;x1;", -2006);
        fault("x0;t0000;", -2000);
        fault("t0000;t0000;t0000;t0000;x3;", 5);
        fault("t0000;t0000;t0000;t0000;t0000;", -2024);
        fault("t0000;t0000;t0000;t0000;x4;", -2024);
        StringBuilder eight = new StringBuilder();
        for (int k = 0; k < 8; k++) {
            eight.append("p0001000;");
        }
        fault(eight.toString(), 8);
        fault(eight + "p0001000;", -2072);
        fault(eight + "s1;p0001000;x0;", -2075);
    }

    private static void formComesFirst() {
        fault("x0;s", -1004);
        fault("x0;q", -1003);
        fault("r000;t9990;l3", -1013);
        fault("g00", -1003);
    }

    private static void withFaultNothingComes() {
        SlowerForTheLate x = new SlowerForTheLate();
        Check.due("a fault behind much", day(x, "r007;t0202;p5404021;l11;g07;s4;h3;x0;x1;"), -2000 - 37);
        Check.due("people", x.count(0), 0);
        Check.due("trains", x.count(1), 0);
        Check.due("late", x.count(3), 10);
        Check.due("gap", x.count(4), 8);
        Check.due("slow", x.count(5), 5);
        Check.due("halt", x.count(6), 2);
        Check.due("runs", x.count(7), 40);
        x.train(1, 1);
        Check.due("a fault behind x", day(x, "x0;l31;"), -2003);
        Check.due("not cancelled", x.count(2), 0);
        Check.due("the text stays", x.element(0, 6), ';');
    }

    private static void refusals() {
        SlowerForTheLate x = new SlowerForTheLate();
        Check.due("day(-1)", x.day(-1), -1);
        Check.due("day(8)", x.day(8), -1);
        Check.due("day(least)", x.day(Integer.MIN_VALUE), -1);
        Check.due("day(most)", x.day(Integer.MAX_VALUE), -1);
        Check.due("nothing", x.day(7), -11);
        x.row(7, 1, 3);
        Check.due("shorts", x.day(7), -12);
        x.row(7, 2, 3);
        Check.due("ints", x.day(7), -12);
        x.row(7, 2, 0);
        Check.due("no ints", x.day(7), -12);
        x.row(7, 0, 0);
        Check.due("no bytes", x.day(7), -1000);
        x.keep(7, 1, 0, 0);
        Check.due("a traveller", x.day(7), -12);
        x.keep(7, 0, 0, 0);
        Check.due("nothing again", x.day(7), -11);
    }
}
