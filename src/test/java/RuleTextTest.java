/** Promises 5 and 6: rule, the FAULTS of its text, and force. */
public final class RuleTextTest {
    public static void main(String[] args) {
        six();
        force();
        faultsOfBytes();
        faultsOfNumbers();
        faultsOfDepth();
        faultsOfMany();
        Due.end();
    }

    private static void six() {
        ToffeeTown x = new ToffeeTown();
        Due.due("a FAULT takes no number", Due.rule(x, "pour"), Due.fault(4, 0));
        for (int k = 0; k < 6; k++) {
            Due.due("rule " + k, Due.rule(x, "pour " + k), k);
            Due.due("RULES", x.count(4), k + 1);
            Due.due("the TAPE is empty", x.count(15), 0);
        }
        Due.due("a seventh", Due.rule(x, "pour 1"), -1);
        Due.due("the TAPE stays", x.count(15), 6);
        Due.due("RULES", x.count(4), 6);
        x.end(4);
        Due.due("a seventh with a FAULT", x.rule(), -1);
        Due.due("the TAPE stays", x.count(15), 4);
    }

    private static void force() {
        ToffeeTown x = new ToffeeTown();
        Due.due("force(-1)", x.force(-1), -1);
        Due.due("force(0)", x.force(0), -2);
        Due.rule(x, "pour 1");
        Due.rule(x, "pour 2");
        Due.due("none by itself", x.count(5), -1);
        Due.due("force(1)", x.force(1), -1);
        Due.due("force(0)", x.force(0), 1);
        Due.due("force(2)", x.force(2), -2);
        Due.due("force(-2)", x.force(-2), -2);
        Due.due("in force", x.count(5), 0);
        Due.due("force(NONE)", x.force(-1), 0);
        Due.due("in force", x.count(5), -1);
    }

    private static void faultsOfBytes() {
        Due.isRule("pour1if1=1or1<2and not[heat>=next];pour hard");
        Due.isRule(" pour one + other - hard * place / placeo % apart if rock <= rocko and heat > next or sugar = day ");
        Due.ruleFault("", 0, 0);
        Due.ruleFault("pour", 4, 0);
        Due.ruleFault("pour ", 5, 0);
        Due.ruleFault("pours 1", 0, 0);
        Due.ruleFault("town 5 0 0", 0, 0);
        Due.ruleFault("pour -1", 5, 0);
        Due.ruleFault("pour har", 5, 0);
        Due.ruleFault("pour hards", 5, 0);
        Due.ruleFault("pour town", 5, 0);
        Due.ruleFault("pour if", 5, 0);
        Due.ruleFault("pour [1]", 5, 0);
        Due.ruleFault("pour 1 2", 7, 0);
        Due.ruleFault("pour 1 hard", 7, 0);
        Due.ruleFault("pour 1+", 7, 0);
        Due.ruleFault("pour 1*-1", 7, 0);
        Due.ruleFault("pour 1 if", 9, 0);
        Due.ruleFault("pour 1 if 1", 11, 0);
        Due.ruleFault("pour 1 if 1 and 2", 12, 0);
        Due.ruleFault("pour 1 if 1<", 12, 0);
        Due.ruleFault("pour 1 if 1< =2", 13, 0);
        Due.ruleFault("pour 1 if 1=<2", 12, 0);
        Due.ruleFault("pour 1 if 1<>2", 12, 0);
        Due.ruleFault("pour 1 if 1<2<3", 13, 0);
        Due.ruleFault("pour 1 if 1=1]", 13, 0);
        Due.ruleFault("pour 1 if [1=1", 14, 0);
        Due.ruleFault("pour 1 if [1]=1", 12, 0);
        Due.ruleFault("pour 1 if not", 13, 0);
        Due.ruleFault("pour 1 if not;", 13, 0);
        Due.ruleFault("pour 1 if 1=1 and", 17, 0);
        Due.ruleFault("pour 1 if 1=1 or or", 17, 0);
        Due.ruleFault("pour 1 if 1=1 if 1=1", 14, 0);
        Due.ruleFault("pour 1 if 1+not 1=1", 12, 0);
        Due.ruleFault("pour 1;", 7, 0);
        Due.ruleFault("pour 1;;pour 1", 7, 0);
        Due.ruleFault("pour 1;heat", 7, 0);
        Due.ruleFault("pour 1,", 6, 0);
        Due.ruleFault("pour 1" + (char) 255, 6, 0);
        Due.ruleFault("pour 1 if 1 ! 2", 12, 0);
    }

    private static void faultsOfNumbers() {
        Due.isRule("pour 99999");
        Due.isRule("pour 00000");
        Due.ruleFault("pour 100000", 5, 1);
        Due.ruleFault("pour 000000", 5, 1);
        Due.ruleFault("pour 1 if 1<99999999999999999999", 12, 1);
    }

    private static void faultsOfDepth() {
        Due.isRule("pour 1 if " + Due.times("[", 10) + "1=1" + Due.times("]", 10));
        Due.isRule("pour 1 if " + Due.times("not ", 10) + "1=1");
        Due.isRule("pour 1 if " + Due.times("not[", 5) + "1=1" + Due.times("]", 5));
        Due.isRule("pour 1 if not not [[1=1]] and " + Due.times("[", 10) + "1=1" + Due.times("]", 10) + " or not 1=1");
        Due.ruleFault("pour 1 if " + Due.times("[", 11) + "1=1", 20, 2);
        Due.ruleFault("pour 1 if " + Due.times("not ", 11) + "1=1", 10 + 40, 2);
        Due.ruleFault("pour 1 if " + Due.times("not[", 5) + "not 1=1", 30, 2);
        Due.ruleFault("pour 1 if " + Due.times("not[", 5) + " [ 1=1", 31, 2);
        Due.ruleFault("pour 1 if " + Due.times("[", 10) + "1=1 or [", 10 + 10 + 7, 2);
    }

    private static void faultsOfMany() {
        Due.isRule("pour 1" + Due.times("%1", 59));
        Due.ruleFault("pour 1" + Due.times("%1", 60), 125, 3);
        Due.ruleFault("pour 1" + Due.times("%1", 59) + "%hard", 125, 3);
        Due.ruleFault("pour 1" + Due.times("%1", 59) + "%hards", 125, 0);
        Due.ruleFault("pour 1" + Due.times("%1", 59) + "%111111", 125, 1);
        Due.ruleFault("pour 1" + Due.times("%1", 59) + ";pour 1", 125 + 5, 3);
        // 57 VALUES, then two VALUES and their SIGN
        Due.isRule("pour 1" + Due.times("+1", 56) + " if 1=1");
        Due.ruleFault("pour 1" + Due.times("+1", 58) + " if 1=1", 122 + 5, 3);
        Due.ruleFault("pour 1" + Due.times("+1", 57) + " if 1=1", 120 + 6, 3);
        // 19 FACTS and 3 VALUES are 60: one more SIGN or VALUE is too many
        String facts = "pour 1+1+1 if 1=1" + Due.times("or 1=1", 18);
        Due.isRule(facts);
        Due.ruleFault(facts + "or 1=1", facts.length() + 3, 3);
        String fewer = "pour 1+1 if 1=1" + Due.times("or 1=1", 18);
        Due.ruleFault(fewer + "or 1=1", fewer.length() + 4, 3);
        fewer = "pour 1 if 1=1" + Due.times("or 1=1", 18);
        Due.ruleFault(fewer + "or 1=1", fewer.length() + 5, 3);
        String twelve = "pour 1" + Due.times(";pour 1", 11);
        Due.isRule(twelve);
        Due.ruleFault(twelve + "; pour 1", twelve.length() + 2, 4);
        Due.ruleFault(twelve + ";pours 1", twelve.length() + 1, 0);
        Due.ruleFault(twelve + ";", twelve.length() + 1, 0);
    }
}
