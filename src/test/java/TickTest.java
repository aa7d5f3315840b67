/** Promise 7: tick. */
public final class TickTest {
    public static void main(String[] args) {
        keepsForATick();
        allTogether();
        howManyChanged();
        throughNandsAndChips();
        withoutBoard();
        Check.end();
    }

    private static void keepsForATick() {
        ChipDesk desk = Check.board("CHIP A{IN a;OUT o;PARTS:Dff(in=a,out=o);}");
        Check.outIs(desk, 0, 0, 1);
        Check.due("tick()", desk.tick(), 1);
        Check.due("pin(0)", desk.pin(0), 1);
        Check.outIs(desk, 0, 1, 0);
        Check.due("tick()", desk.tick(), 1);
        Check.due("pin(0)", desk.pin(0), 0);
        Check.due("tick()", desk.tick(), 0);
    }

    /** A chain of Dffs moves by one a tick, whatever the order of its parts. */
    private static void allTogether() {
        String[] chains = {
            "Dff(in=a,out=o[0],out=x);Dff(in=x,out=o[1],out=y);Dff(in=y,out=o[2]);",
            "Dff(in=y,out=o[2]);Dff(in=x,out=o[1],out=y);Dff(in=a,out=o[0],out=x);"};
        for (String chain : chains) {
            ChipDesk desk = Check.board("CHIP A{IN a;OUT o[3];PARTS:" + chain + "}");
            int[] ins = {1, 0, 1, 1, 0, 0, 0, 1};
            int held = 0;
            for (int in : ins) {
                Check.due("drive", desk.drive(0, in), true);
                int next = held << 1 & 7 | in;
                Check.due("tick()", desk.tick(), Integer.bitCount(held ^ next));
                Check.due("pin(0)", desk.pin(0), next);
                held = next;
            }
        }
        ChipDesk swap = Check.board("CHIP S{IN a;OUT o,p;PARTS:Dff(in=y,out=x,out=o);Nand(a=x,b=true,out=z);"
                + "Dff(in=z,out=y,out=p);}");
        Check.due("tick()", swap.tick(), 1);
        Check.due("pins", swap.pin(0) + 2 * swap.pin(1), 2);
        Check.due("tick()", swap.tick(), 1);
        Check.due("pins", swap.pin(0) + 2 * swap.pin(1), 3);
        Check.due("tick()", swap.tick(), 1);
        Check.due("pins", swap.pin(0) + 2 * swap.pin(1), 1);
    }

    private static void howManyChanged() {
        ChipDesk desk = Check.board("CHIP A{IN a[4];OUT o[4];PARTS:Dff(in=a[0],out=o[0]);Dff(in=a[1],out=o[1]);"
                + "Dff(in=a[2],out=o[2]);Dff(in=a[3],out=o[3]);Dff(in=true);Dff(out=x);Nand(a=x);}");
        Check.due("drive", desk.drive(0, 13), true);
        Check.due("tick()", desk.tick(), 4);
        Check.due("tick()", desk.tick(), 0);
        Check.due("drive", desk.drive(0, 2), true);
        Check.due("tick()", desk.tick(), 4);
        Check.due("pin(0)", desk.pin(0), 2);
    }

    /** Two bits that count, in chips of their own. */
    private static void throughNandsAndChips() {
        ChipDesk desk = Check.board("CHIP Xor{IN a,b;OUT o;PARTS:Nand(a=a,b=b,out=n);Nand(a=a,b=n,out=x);"
                + "Nand(a=b,b=n,out=y);Nand(a=x,b=y,out=o);}"
                + "CHIP Flip{IN t;OUT q;PARTS:Xor(a=t,b=x,o=y);Dff(in=y,out=x,out=q);}"
                + "CHIP Count{IN e;OUT o[2];PARTS:Flip(t=c,q=o[1]);Flip(t=e,q=l,q=o[0]);"
                + "Nand(a=l,b=e,out=n);Nand(a=n,b=n,out=c);}");
        int count = 0;
        for (int i = 0; i < 20; i++) {
            int enabled = i % 5 == 3 ? 0 : 1;
            Check.due("drive", desk.drive(0, enabled), true);
            int next = count + enabled & 3;
            Check.due("tick()", desk.tick(), Integer.bitCount(next ^ count));
            Check.due("pin(0)", desk.pin(0), next);
            count = next;
        }
    }

    private static void withoutBoard() {
        ChipDesk desk = new ChipDesk();
        Check.due("tick()", desk.tick(), -1);
        desk = Check.board("CHIP A{IN a;OUT o;PARTS:Dff(in=true,out=o);}");
        Check.due("tick()", desk.tick(), 1);
        Check.due("read()", desk.read(), 1);
        Check.due("tick()", desk.tick(), -1);
        Check.due("gates(6)", desk.gates(6), -1);
    }
}
