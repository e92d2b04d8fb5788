/** Promises 26 to 28: note, ruled, look. */
public final class NotesTest {
    private static final String TOWN = "town 20 9 0;heat 3;house 0;house 5;house 10;join 0 1 3;join 1 2 3;rock 1 9";

    public static void main(String[] args) {
        ToffeeTown x = Due.made(TOWN, "pour 1 if one=0");
        Due.rule(x, "pour 1 if one=1");
        Due.rule(x, "pour 0");
        for (int times = 0; times < 2; times++) {
            guess(x);
            x.note(-1, 0, 0);
            // What was done since the begin is nothing to these
            x.ice(9);
            x.crack(0, 1);
            x.day();
            x.day();
            x.force(1);
        }
        notes();
        wrong(x);
        lastDay();
        Due.end();
    }

    private static void asked(ToffeeTown x, int many, int first, int n, int house, int alike) {
        Due.due("ruled(0)", x.ruled(0), many);
        Due.due("ruled(1)", x.ruled(1), first);
        Due.due("look(" + n + ", 0)", x.look(n, 0), house);
        Due.due("look(" + n + ", 1)", x.look(n, 1), alike);
    }

    private static void guess(ToffeeTown x) {
        asked(x, 4, -1, 0, 0, 4);
        asked(x, 4, -1, 1, 0, 3);
        asked(x, 4, -1, 60, 0, 3);
        Due.due("note(1, 2, 13)", x.note(1, 2, 13), 1);
        asked(x, 3, -1, 1, 0, 2);
        Due.due("note(60, 0, 0)", x.note(60, 0, 0), 2);
        asked(x, 1, 0, 1, 0, 1);
        Due.due("note(0, 1, 4)", x.note(0, 1, 4), 3);
        asked(x, 0, -2, 1, -2, -2);
        Due.due("note(-1, 9, 9)", x.note(-1, 9, 9), 0);
        Due.due("note(1, 0, 3)", x.note(1, 0, 3), 1);
        asked(x, 3, -1, 1, 2, 2);
        Due.due("note(1, 2, 10)", x.note(1, 2, 10), 2);
        asked(x, 1, 1, 0, 0, 1);
    }

    private static void notes() {
        ToffeeTown x = Due.made("town 20 9 0;heat 3;house 17", null);
        Due.due("note(1, 0, 20)", x.note(1, 0, 20), 1);
        for (int many = 2; many <= 10; many++) {
            Due.due("note(0, 0, 17)", x.note(0, 0, 17), many);
        }
        Due.due("ruled(0)", x.ruled(0), 1);
        Due.due("an eleventh", x.note(0, 0, 17), -2);
        Due.due("NOTES", x.count(12), 10);
        Due.due("none", x.note(-1, 0, 0), 0);
        Due.due("NOTES", x.count(12), 0);
        Due.due("note", x.note(0, 0, 0), 1);
    }

    private static void wrong(ToffeeTown x) {
        x.note(-1, 0, 0);
        Due.due("note(-2, 0, 0)", x.note(-2, 0, 0), -2);
        Due.due("note(61, 0, 0)", x.note(61, 0, 0), -2);
        Due.due("note(0, 3, 0)", x.note(0, 3, 0), -2);
        Due.due("note(0, -1, 0)", x.note(0, -1, 0), -2);
        Due.due("note(0, 0, 21)", x.note(0, 0, 21), -2);
        Due.due("note(0, 0, -1)", x.note(0, 0, -1), -2);
        Due.due("NOTES", x.count(12), 0);
        Due.due("ruled(2)", x.ruled(2), -3);
        Due.due("ruled(-1)", x.ruled(-1), -3);
        Due.due("look(61, 0)", x.look(61, 0), -1);
        Due.due("look(-1, 0)", x.look(-1, 0), -1);
        Due.due("look(0, 2)", x.look(0, 2), -1);
        Due.due("look(0, -1)", x.look(0, -1), -1);
        ToffeeTown none = new ToffeeTown();
        Due.due("without a TOWN", none.note(0, 0, 0), -2);
        Due.due("without a TOWN", none.note(-1, 0, 0), 0);
        Due.due("without a TOWN", none.ruled(0), -3);
        Due.due("without a TOWN", none.look(0, 0), -1);
        ToffeeTown empty = Due.made("town 5 0 0", "pour 1");
        Due.due("without HOUSES", empty.ruled(0), 2);
        Due.due("without HOUSES", empty.ruled(1), -1);
        Due.due("without HOUSES", empty.look(0, 0), -2);
        Due.due("without HOUSES", empty.look(0, 1), -2);
    }

    private static void lastDay() {
        ToffeeTown x = Due.made("town 60 9 0;heat 1;house 0", null);
        x.note(59, 0, 59);
        Due.due("DAY 59", x.ruled(0), 1);
        x.note(60, 0, 59);
        Due.due("DAY 60", x.ruled(0), 0);
        x.note(-1, 0, 0);
        x.note(60, 0, 60);
        Due.due("DAY 60", x.ruled(0), 1);
    }
}
