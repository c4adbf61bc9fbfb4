/** Promises 5 to 8, 19 and 23: person, master, force, set, veils, hides. */
public final class RulesTest {
    public static void main(String[] args) {
        person();
        master();
        force();
        set();
        veilsByRank();
        veilsByPlace();
        veilsByValue();
        veilsByMaster();
        veilsWrong();
        hides();
        Check.end("RulesTest");
    }

    private static void person() {
        RowVeils x = new RowVeils();
        Check.due("person: previous rank", x.person(2, 3, 1), 0);
        Check.due("person: and again", x.person(2, 1, 3), 3);
        Check.due("person: rank", x.personOf(2, 0), 1);
        Check.due("person: home", x.personOf(2, 1), 3);
        Check.due("person: another's rank", x.personOf(1, 0), 0);
        Check.due("person: saved states, also without a change", x.person(2, 1, 3) + x.count(9), 1 + 3);
        Check.dueIndex(x, "person: 5", () -> x.person(5, 0, 0));
        Check.dueIndex(x, "person: -1", () -> x.person(-1, 0, 0));
        Check.dueIndex(x, "person: home 4, rank 4", () -> x.person(0, 4, 4));
        Check.dueIndex(x, "person: home -1", () -> x.person(0, 0, -1));
        Check.dueArgument(x, "person: rank 4", () -> x.person(4, 4, 3));
        Check.dueArgument(x, "person: rank -1", () -> x.person(0, -1, 0));
    }

    private static void master() {
        RowVeils x = new RowVeils();
        Check.due("master: there was none", x.master(0, 4), RowVeils.NONE);
        Check.due("master: previous one", x.master(0, 1), 4);
        Check.due("master: one's own master's master", x.master(1, 0), RowVeils.NONE);
        Check.due("master: to none", x.master(0, RowVeils.NONE), 1);
        Check.due("master: none", x.personOf(0, 2), RowVeils.NONE);
        Check.due("master: the other stays", x.personOf(1, 2), 0);
        Check.due("master: saved states", x.count(9), 4);
        Check.dueIndex(x, "master: of 5", () -> x.master(5, 5));
        Check.dueIndex(x, "master: of -1", () -> x.master(-1, -1));
        Check.dueIndex(x, "master: 5", () -> x.master(0, 5));
        Check.dueIndex(x, "master: -2", () -> x.master(0, -2));
        Check.dueArgument(x, "master: the same", () -> x.master(3, 3));
    }

    private static void force() {
        RowVeils x = new RowVeils();
        Check.due("force: out of it", x.force(2, false), 1);
        Check.due("force: the mask", x.count(1), 11);
        Check.due("force: out of it again", x.force(2, false), 0);
        Check.due("force: the others", x.force(0, false), 1);
        Check.due("force: the mask then", x.count(1), 10);
        Check.due("force: into it", x.force(2, true), 0);
        Check.due("force: into it again", x.force(2, true), 1);
        Check.due("force: the mask at last", x.count(1), 14);
        Check.due("force: saved states", x.count(9), 5);
        Check.dueIndex(x, "force: 4", () -> x.force(4, true));
        Check.dueIndex(x, "force: -1", () -> x.force(-1, false));
        Check.dueIndex(x, "force: 32", () -> x.force(32, true));
    }

    private static void set() {
        RowVeils x = new RowVeils();
        Check.due("set: the least count", x.set(0, 9), 1);
        Check.due("set: the coarseness", x.set(1, 8), 1);
        Check.due("set: differences", x.set(2, 1), 0);
        Check.due("set: back", x.set(2, 0), 1);
        Check.due("set: least count again", x.set(0, 1), 9);
        Check.due("set: coarseness again", x.set(1, 9), 8);
        Check.due("set: count(2)", x.count(2), 1);
        Check.due("set: count(3)", x.count(3), 9);
        Check.due("set: count(4)", x.count(4), 0);
        Check.due("set: saved states", x.count(9), 6);
        for (int setting = 0; setting < 2; setting++) {
            int s = setting;
            Check.dueArgument(x, "set: 0", () -> x.set(s, 0));
            Check.dueArgument(x, "set: 10", () -> x.set(s, 10));
        }
        Check.dueArgument(x, "set: differences 2", () -> x.set(2, 2));
        Check.dueArgument(x, "set: differences -1", () -> x.set(2, -1));
        Check.dueIndex(x, "set: setting 3", () -> x.set(3, 100));
        Check.dueIndex(x, "set: setting -1", () -> x.set(-1, 1));
    }

    /** Puts just one rule in force. */
    private static void only(RowVeils x, int rule) {
        for (int k = 0; k < 4; k++) {
            x.force(k, k == rule);
        }
    }

    private static void veilsByRank() {
        RowVeils x = new RowVeils();
        Check.add(x, "0n95,0e95!,0s95!!,0w95!!!");
        only(x, 0);
        for (int rank = 0; rank < 4; rank++) {
            x.person(1, rank, 0);
            for (int secrecy = 0; secrecy < 4; secrecy++) {
                Check.due("veils: secrecy " + secrecy + ", rank " + rank, x.veils(1, secrecy), secrecy > rank ? 1 : 0);
                Check.due("veils: one's own", x.veils(0, secrecy), 0);
            }
        }
    }

    private static void veilsByPlace() {
        RowVeils x = new RowVeils();
        Check.add(x, "0n5,0n5!,0n5!!,0n5!!!,0w5!!");
        only(x, 1);
        x.person(2, 0, 3);
        int[] away = {0, 0, 2, 2, 0};
        int[] home = {0, 0, 0, 0, 2};
        for (int row = 0; row < 5; row++) {
            Check.due("veils: away, row " + row, x.veils(2, row), away[row]);
            Check.due("veils: at home, row " + row, x.veils(1, row), home[row]);
            Check.due("veils: one's own", x.veils(0, row), 0);
        }
    }

    private static void veilsByValue() {
        RowVeils x = new RowVeils();
        Check.add(x, "3n89,3n90,3n99!!!");
        only(x, 2);
        int[] due = {0, 4, 4};
        for (int row = 0; row < 3; row++) {
            Check.due("veils: value of row " + row, x.veils(1, row), due[row]);
            Check.due("veils: one's own", x.veils(3, row), 0);
        }
        x.change(0, 90);
        Check.due("veils: after a change", x.veils(1, 0), 4);
    }

    private static void veilsByMaster() {
        RowVeils x = new RowVeils();
        Check.add(x, "0n95!!!,0n95!!,1n5!!!");
        only(x, 3);
        Check.due("veils: without masters", x.hides(3), 0);
        x.master(0, 1);
        x.master(1, 2);
        x.master(2, 3);
        int[] row0 = {0, 8, 8, 0, 0};
        int[] row2 = {0, 0, 8, 8, 0};
        for (int asker = 0; asker < 5; asker++) {
            Check.due("veils: masters of 0, asker " + asker, x.veils(asker, 0), row0[asker]);
            Check.due("veils: secrecy 2, asker " + asker, x.veils(asker, 1), 0);
            Check.due("veils: masters of 1, asker " + asker, x.veils(asker, 2), row2[asker]);
        }
        x.master(1, 0);
        Check.due("veils: one's own master's master", x.veils(0, 0), 0);
        Check.due("veils: the master still", x.veils(1, 0), 8);
        Check.due("veils: no longer above", x.veils(2, 0), 0);
        x.master(0, RowVeils.NONE);
        Check.due("veils: without a master", x.veils(1, 0), 0);
        Check.due("veils: master of the owner of row 2", x.veils(0, 2), 8);
        Check.due("veils: the master has none", x.veils(4, 2), 0);
        for (int rule = 0; rule < 4; rule++) {
            x.force(rule, true);
        }
        x.person(0, 3, 0);
        Check.due("veils: by a rank of 3, at home, by masters alone", x.veils(0, 2), 8);
        Check.due("hides: by masters alone", x.hides(3), 1);
    }

    private static void veilsWrong() {
        RowVeils x = new RowVeils();
        Check.dueIndex(x, "veils: without rows", () -> x.veils(0, 0));
        Check.add(x, "0w95!!!");
        x.master(0, 1);
        Check.due("veils: all rules", x.veils(1, 0), 15);
        Check.dueLook(x, "veils: all but the master's", 7, () -> x.veils(2, 0));
        x.force(0, false);
        Check.due("veils: a rule out of force", x.veils(1, 0), 14);
        Check.dueIndex(x, "veils: asker 5", () -> x.veils(5, 0));
        Check.dueIndex(x, "veils: asker -1", () -> x.veils(-1, 0));
        Check.dueIndex(x, "veils: row 1", () -> x.veils(0, 1));
        Check.dueIndex(x, "veils: row -1", () -> x.veils(0, -1));
    }

    private static void hides() {
        RowVeils x = new RowVeils();
        for (int rule = 0; rule < 4; rule++) {
            Check.due("hides: without rows", x.hides(rule), 0);
        }
        Check.add(x, "0n95,1n5!,2w5!!");
        Check.due("hides: by rank alone", x.hides(0), 4);
        Check.due("hides: by place alone", x.hides(1), 0);
        Check.due("hides: by value alone", x.hides(2), 4);
        Check.due("hides: by masters alone", x.hides(3), 0);
        x.person(0, 2, 0);
        x.person(1, 0, 3);
        Check.due("hides: by rank, with a rank and a home", x.hides(0), 4);
        Check.due("hides: by place, with a rank and a home", x.hides(1), 1);
        x.force(0, false);
        Check.due("hides: out of force", x.hides(0), 0);
        Check.dueLook(x, "hides: the other one then", 3, () -> x.hides(1));
        x.drop(2);
        Check.due("hides: a dropped row no longer", x.hides(1), 0);
        Check.dueIndex(x, "hides: 4", () -> x.hides(4));
        Check.dueIndex(x, "hides: -1", () -> x.hides(-1));
    }
}
