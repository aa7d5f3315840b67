/** Promise 8: gates. */
public final class GatesTest {
    public static void main(String[] args) {
        counts();
        chipsCountOften();
        oneBehindTheOther();
        ticks();
        nandsThatGiveOne();
        wrongWhats();
        Check.end();
    }

    private static void all(ChipDesk desk, int... wants) {
        for (int what = 0; what < wants.length; what++) {
            Check.due("gates(" + what + ")", desk.gates(what), wants[what]);
        }
    }

    private static void counts() {
        all(Check.board("CHIP A{IN a[16],b,c;OUT o[4],p;PARTS:Nand(a=b,b=c,out=p);Dff(in=b);Dff(in=c);}"),
                1, 2, 3, 2, 1, 1, 0, 1);
        all(Check.board("CHIP A{IN a;OUT o;PARTS:}"), 0, 0, 1, 1, 1, 0, 0, 0);
    }

    private static void chipsCountOften() {
        all(Check.board("CHIP U{IN a;OUT o;PARTS:Nand(a=a);}"
                + "CHIP T{IN a;OUT o;PARTS:Nand(a=a,out=o);Nand(a=a);Dff(in=a);}"
                + "CHIP A{IN a;OUT o,p;PARTS:T(a=a);T(a=a,o=o);Nand(a=true,b=true);}"), 5, 2, 1, 2, 3, 1, 0, 4);
    }

    private static void oneBehindTheOther() {
        String not = "CHIP Not{IN a;OUT o;PARTS:Nand(a=a,b=a,out=o);}";
        String chain = "CHIP A{IN a;OUT o;PARTS:Not(a=z,o=o);Not(a=y,o=z);Not(a=x,o=y);Not(a=a,o=x);}";
        Check.due("gates(5) of a chain", Check.board(not + chain).gates(5), 4);
        // A Dff in the chain parts it into 1 and 3.
        String parted = "CHIP A{IN a;OUT o;PARTS:Not(a=z,o=o);Not(a=y,o=z);Not(a=w,o=y);Dff(in=x,out=w);Not(a=a,o=x);}";
        Check.due("gates(5) of a parted chain", Check.board(not + parted).gates(5), 3);
        // The longer of two ways to one Nand.
        String two = "CHIP A{IN a;OUT o;PARTS:Nand(a=a,b=y,out=o);Not(a=x,o=y);Not(a=a,o=x);}";
        Check.due("gates(5) of two ways", Check.board(not + two).gates(5), 3);
        String turned = "CHIP A{IN a;OUT o;PARTS:Nand(a=y,b=a,out=o);Not(a=x,o=y);Not(a=a,o=x);}";
        Check.due("gates(5) of two ways, turned", Check.board(not + turned).gates(5), 3);
        Check.due("gates(5) of a loop by a Dff",
                Check.board(not + "CHIP A{IN a;OUT o;PARTS:Not(a=x,o=y);Not(a=y,o=z);Dff(in=z,out=x);}").gates(5), 2);
        Check.due("gates(5) of Dffs", Check.board("CHIP A{IN a;OUT o;PARTS:Dff(in=a,out=o);}").gates(5), 0);
        longestChain(not);
    }

    /** 300 Nands, each behind the other, the last one first in the text. */
    private static void longestChain(String not) {
        StringBuilder text = new StringBuilder(not);
        text.append(chain("Five", "Not", 5)).append(chain("Sixty", "Five", 12)).append(chain("All", "Sixty", 5));
        ChipDesk desk = Check.board(text.toString());
        all(desk, 300, 0, 1, 1, 4, 300, 0, 150);
        Check.outIs(desk, 0, 1, 1);
        Check.outIs(desk, 0, 0, 0);
    }

    private static String chain(String name, String part, int n) {
        StringBuilder text = new StringBuilder("CHIP " + name + "{IN a;OUT o;PARTS:");
        for (int i = n; i >= 1; i--) {
            text.append(part + "(a=" + (i == 1 ? "a" : "x" + (i - 1)) + ",o=" + (i == n ? "o" : "x" + i) + ");");
        }
        return text.append('}').toString();
    }

    private static void ticks() {
        ChipDesk desk = Check.board("CHIP A{IN a;OUT o;PARTS:}");
        for (int i = 0; i < 30; i++) {
            Check.due("gates(6)", desk.gates(6), i);
            Check.due("tick()", desk.tick(), 0);
        }
        Check.write(desk, "CHIP A{IN a;OUT o;PARTS:}");
        Check.due("read()", desk.read(), 0);
        Check.due("gates(6) of a new board", desk.gates(6), 0);
    }

    private static void nandsThatGiveOne() {
        ChipDesk desk = Check.board("CHIP A{IN a,b;OUT o;PARTS:Nand(a=a,b=true,out=x);Nand(a=x,b=true);"
                + "Nand(a=a,b=b);Dff(in=a,out=d);Nand(a=d,b=d);}");
        Check.due("gates(7)", desk.gates(7), 3);
        Check.due("drive", desk.drive(0, 1), true);
        Check.due("gates(7)", desk.gates(7), 3);
        Check.due("drive", desk.drive(1, 1), true);
        Check.due("gates(7)", desk.gates(7), 2);
        Check.due("tick()", desk.tick(), 1);
        Check.due("gates(7)", desk.gates(7), 1);
    }

    private static void wrongWhats() {
        ChipDesk desk = Check.board("CHIP A{IN a;OUT o;PARTS:}");
        int[] wrong = {-1, 8, 9, 100, Integer.MAX_VALUE, Integer.MIN_VALUE};
        for (int what : wrong) {
            Check.due("gates(" + what + ")", desk.gates(what), -1);
        }
        for (int what = 0; what < 8; what++) {
            Check.due("gates of no board", new ChipDesk().gates(what), -1);
        }
    }
}
