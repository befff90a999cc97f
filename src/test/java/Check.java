/** Counts the answers that are not as due; the tests share it. */
final class Check {
    private static int wrong = 0;
    private static int looked = 0;

    private Check() {
    }

    static void due(String call, long got, long due) {
        looked++;
        if (got != due) {
            tell(call, Long.toString(got), Long.toString(due));
        }
    }

    static void dueMean(String call, double got, double due) {
        looked++;
        if (Double.compare(got, due) != 0) {
            tell(call, Double.toString(got), Double.toString(due));
        }
    }

    static void dueTrue(String what, boolean holds) {
        looked++;
        if (!holds) {
            tell(what, "no", "yes");
        }
    }

    private static void tell(String call, String got, String due) {
        wrong++;
        if (wrong <= 40) {
            System.out.println(call + " answered " + got + ", due is " + due);
        }
    }

    /** Puts a text on the pad, in place of what was there. */
    static void write(ColdPanes panes, String text) {
        panes.clear();
        for (int at = 0; at < text.length(); at++) {
            due("append(" + (int) text.charAt(at) + ")", panes.append(text.charAt(at)), at + 1);
        }
    }

    /** A pane in which no heat flows, so that every stress is as flames made it. */
    static ColdPanes still() {
        ColdPanes panes = new ColdPanes();
        panes.set(ColdPanes.LEAD, 0);
        panes.set(ColdPanes.RIM, 0);
        return panes;
    }

    /** A pane all of whose joints cracked, one in each of 60 minutes: its cells are hot and cold by turns. */
    static ColdPanes shattered() {
        ColdPanes panes = still();
        for (int cell = 0; cell < 36; cell++) {
            if ((cell / 6 + cell % 6) % 2 == 0) {
                panes.heat(cell, 150);
            }
        }
        due("pass(60) of a shattered pane", panes.pass(60), 60);
        return panes;
    }

    static String repeated(String text, int times) {
        StringBuilder all = new StringBuilder();
        for (int time = 0; time < times; time++) {
            all.append(text);
        }
        return all.toString();
    }

    static void end() {
        System.out.println(looked + " answers, " + wrong + " not as due");
        if (wrong > 0) {
            System.exit(1);
        }
    }
}
