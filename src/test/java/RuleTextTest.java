/** Promises 5 and 6: rule, the FAULTS of its text, and force. */
public final class RuleTextTest {
    public static void main(String[] args) {
        six();
        force();
        faultsOfBytes();
        faultsOfNumbers();
        faultsOfDepth();
        faultsOfMany();
        Due.end();
    }

    private static void six() {
        ToffeeTown x = new ToffeeTown();
        Due.due("a FAULT takes no number", Due.rule(x, "pour"), Due.fault(4, 0));
        for (int k = 0; k < 6; k++) {
            Due.due("rule " + k, Due.rule(x, "pour " + k), k);
            Due.due("RULES", x.count(4), k + 1);
            Due.due("the TAPE is empty", x.count(15), 0);
        }
        Due.due("a seventh", Due.rule(x, "pour 1"), -1);
        Due.due("the TAPE stays", x.count(15), 6);
        Due.due("RULES", x.count(4), 6);
        x.end(4);
        Due.due("a seventh with a FAULT", x.rule(), -1);
        Due.due("the TAPE stays", x.count(15), 4);
    }

    private static void force() {
        ToffeeTown x = new ToffeeTown();
        Due.due("force(-1)", x.force(-1), -1);
        Due.due("force(0)", x.force(0), -2);
        Due.rule(x, "pour 1");
        Due.rule(x, "pour 2");
        Due.due("none by itself", x.count(5), -1);
        Due.due("force(1)", x.force(1), -1);
        Due.due("force(0)", x.force(0), 1);
        Due.due("force(2)", x.force(2), -2);
        Due.due("force(-2)", x.force(-2), -2);
        Due.due("in force", x.count(5), 0);
        Due.due("force(NONE)", x.force(-1), 0);
        Due.due("in force", x.count(5), -1);
    }

    private static void good(String text) {
        Due.due("rule '" + text + "'", Due.rule(new ToffeeTown(), text), 0);
    }

    private static void faulty(String text, int place, int kind) {
        ToffeeTown x = new ToffeeTown();
        Due.due("rule '" + text + "'", Due.rule(x, text), Due.fault(place, kind));
        Due.due("no RULE behind '" + text + "'", x.count(4), 0);
        Due.due("no TAPE behind '" + text + "'", x.count(15), 0);
    }

    private static void faultsOfBytes() {
        good("pour1if1=1or1<2and not[heat>=next];pour hard");
        good(" pour one + other - hard * place / placeo % apart if rock <= rocko and heat > next or sugar = day ");
        faulty("", 0, 0);
        faulty("pour", 4, 0);
        faulty("pour ", 5, 0);
        faulty("pours 1", 0, 0);
        faulty("town 5 0 0", 0, 0);
        faulty("pour -1", 5, 0);
        faulty("pour har", 5, 0);
        faulty("pour hards", 5, 0);
        faulty("pour town", 5, 0);
        faulty("pour if", 5, 0);
        faulty("pour [1]", 5, 0);
        faulty("pour 1 2", 7, 0);
        faulty("pour 1 hard", 7, 0);
        faulty("pour 1+", 7, 0);
        faulty("pour 1*-1", 7, 0);
        faulty("pour 1 if", 9, 0);
        faulty("pour 1 if 1", 11, 0);
        faulty("pour 1 if 1 and 2", 12, 0);
        faulty("pour 1 if 1<", 12, 0);
        faulty("pour 1 if 1< =2", 13, 0);
        faulty("pour 1 if 1=<2", 12, 0);
        faulty("pour 1 if 1<>2", 12, 0);
        faulty("pour 1 if 1<2<3", 13, 0);
        faulty("pour 1 if 1=1]", 13, 0);
        faulty("pour 1 if [1=1", 14, 0);
        faulty("pour 1 if [1]=1", 12, 0);
        faulty("pour 1 if not", 13, 0);
        faulty("pour 1 if not;", 13, 0);
        faulty("pour 1 if 1=1 and", 17, 0);
        faulty("pour 1 if 1=1 or or", 17, 0);
        faulty("pour 1 if 1=1 if 1=1", 14, 0);
        faulty("pour 1 if 1+not 1=1", 12, 0);
        faulty("pour 1;", 7, 0);
        faulty("pour 1;;pour 1", 7, 0);
        faulty("pour 1;heat", 7, 0);
        faulty("pour 1,", 6, 0);
        faulty("pour 1" + (char) 255, 6, 0);
        faulty("pour 1 if 1 ! 2", 12, 0);
    }

    private static void faultsOfNumbers() {
        good("pour 99999");
        good("pour 00000");
        faulty("pour 100000", 5, 1);
        faulty("pour 000000", 5, 1);
        faulty("pour 1 if 1<99999999999999999999", 12, 1);
    }

    private static void faultsOfDepth() {
        good("pour 1 if " + Due.times("[", 10) + "1=1" + Due.times("]", 10));
        good("pour 1 if " + Due.times("not ", 10) + "1=1");
        good("pour 1 if " + Due.times("not[", 5) + "1=1" + Due.times("]", 5));
        good("pour 1 if not not [[1=1]] and " + Due.times("[", 10) + "1=1" + Due.times("]", 10) + " or not 1=1");
        faulty("pour 1 if " + Due.times("[", 11) + "1=1", 20, 2);
        faulty("pour 1 if " + Due.times("not ", 11) + "1=1", 10 + 40, 2);
        faulty("pour 1 if " + Due.times("not[", 5) + "not 1=1", 30, 2);
        faulty("pour 1 if " + Due.times("not[", 5) + " [ 1=1", 31, 2);
        faulty("pour 1 if " + Due.times("[", 10) + "1=1 or [", 10 + 10 + 7, 2);
    }

    private static void faultsOfMany() {
        good("pour 1" + Due.times("%1", 59));
        faulty("pour 1" + Due.times("%1", 60), 125, 3);
        faulty("pour 1" + Due.times("%1", 59) + "%hard", 125, 3);
        faulty("pour 1" + Due.times("%1", 59) + "%hards", 125, 0);
        faulty("pour 1" + Due.times("%1", 59) + "%111111", 125, 1);
        faulty("pour 1" + Due.times("%1", 59) + ";pour 1", 125 + 5, 3);
        // 57 VALUES, then two VALUES and their SIGN
        good("pour 1" + Due.times("+1", 56) + " if 1=1");
        faulty("pour 1" + Due.times("+1", 58) + " if 1=1", 122 + 5, 3);
        faulty("pour 1" + Due.times("+1", 57) + " if 1=1", 120 + 6, 3);
        // 19 FACTS and 3 VALUES are 60: one more SIGN or VALUE is too many
        String facts = "pour 1+1+1 if 1=1" + Due.times("or 1=1", 18);
        good(facts);
        faulty(facts + "or 1=1", facts.length() + 3, 3);
        String fewer = "pour 1+1 if 1=1" + Due.times("or 1=1", 18);
        faulty(fewer + "or 1=1", fewer.length() + 4, 3);
        fewer = "pour 1 if 1=1" + Due.times("or 1=1", 18);
        faulty(fewer + "or 1=1", fewer.length() + 5, 3);
        String twelve = "pour 1" + Due.times(";pour 1", 11);
        good(twelve);
        faulty(twelve + "; pour 1", twelve.length() + 2, 4);
        faulty(twelve + ";pours 1", twelve.length() + 1, 0);
        faulty(twelve + ";", twelve.length() + 1, 0);
    }
}
