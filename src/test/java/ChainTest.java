/** Promise 23: chain. */
public final class ChainTest {
    private static final Checks CHECKS = new Checks("ChainTest");
    private static final int BAD = DimensionLines.BAD;
    private static final int NONE = DimensionLines.NONE;

    public static void main(String[] args) {
        promise23Properties();
        promise23BehindDrop();
        promise23WithoutDimensions();
        promise23WrongArguments();
        promise23Closed();
        promise23Over();
        CHECKS.finish();
    }

    private static void due(String call, long got, long want) {
        CHECKS.due(call, got, want);
    }

    private static void properties(String text, int chain, int... properties) {
        DimensionLines x = Checks.drawn(text);
        for (int what = 0; what < properties.length; what++) {
            due(text + ": chain " + chain + ", " + what, x.chain(chain, what), properties[what]);
        }
    }

    private static void promise23Properties() {
        String text = "p10,40,60,130,200;1-2+1-2c1;0-1+3-4c1;2-3+5-6c1;0-3;3-4+9c5;0-2+20-20";
        properties(text, 1, 3, 10, 130, 1, 120, 12, 9, 3, 1);
        properties(text, 5, 1, 130, 200, 1, 70, 0, 9, NONE, 0);
        properties("p10,40,60,130;0-2c3;1-3c3", 3, 2, 10, 130, 0, 140, 0, 0, NONE, 0);
        properties("p10,40,60,130;1-3c2;0-1c2;0-3;0-3c4;0-3c4", 2, 2, 10, 130, 1, 120, 0, 0, 2, 0);
        properties("p10,40,60,130;1-3c2;0-1c2;0-3;0-3c4;0-3c4", 4, 2, 10, 130, 0, 240, 0, 0, 2, 2);
    }

    private static void promise23BehindDrop() {
        DimensionLines x = Checks.drawn("p10,40,60,130;0-1c1;0-3;1-3c1;2-3c2;0-1");
        due("over before drop", x.chain(1, 7), 1);
        x.drop(4);
        x.drop(2);
        int[] properties = {1, 10, 40, 1, 30, 0, 0, NONE, 0};
        for (int what = 0; what <= 8; what++) {
            due("behind drop: chain 1, " + what, x.chain(1, what), properties[what]);
        }
        x.drop(2);
        due("behind drop: chain 2", x.chain(2, 0), 0);
        due("behind drop: lane of chain 2", x.chain(2, 8), NONE);
        x.drop(0);
        due("behind drop: begin of chain 1", x.chain(1, 1), NONE);
    }

    private static void promise23WithoutDimensions() {
        properties("p10,40;0-1", 1, 0, NONE, NONE, NONE, 0, 0, 0, NONE, NONE);
        properties("p10,40;0-1c1", 5, 0, NONE, NONE, NONE, 0, 0, 0, NONE, NONE);
        DimensionLines x = new DimensionLines();
        for (int what = 0; what <= 8; what++) {
            due("new: chain 3, " + what, x.chain(3, what), what == 0 || what >= 4 && what <= 6 ? 0 : NONE);
        }
    }

    private static void promise23WrongArguments() {
        DimensionLines x = Checks.drawn("p10,40;0-1c1");
        due("chain 0", x.chain(0, 0), BAD);
        due("chain -1", x.chain(-1, 0), BAD);
        due("chain 6", x.chain(6, 0), BAD);
        due("chain, -1", x.chain(1, -1), BAD);
        due("chain, 9", x.chain(1, 9), BAD);
        due("chain without dimensions, 9", x.chain(2, 9), BAD);
    }

    private static void closed(String text, int closed) {
        due(text + ": closed", Checks.drawn(text).chain(1, 3), closed);
    }

    private static void promise23Closed() {
        closed("p0,10,20,30,40;0-1c1", 1);
        closed("p0,10,20,30,40;3-4c1;0-1c1;1-3c1", 1);
        closed("p0,10,20,30,40;0-1c1;2-3c1", 0);
        closed("p0,10,20,30,40;0-1c1;1-2c1;3-4c1", 0);
        closed("p0,10,20,30,40;0-2c1;1-3c1", 0);
        closed("p0,10,20,30,40;0-1c1;0-1c1", 0);
        closed("p0,10,20,30,40;0-1c1;1-2c1;1-2c1", 0);
        closed("p0,10,20,30,40;0-1c1;0-2c1;1-2c1", 0);
        closed("p0,10,20,30,40;0-1c1;1-2c1;0-2c1", 0);
        closed("p0,10,20,30,40;0-2c1;1-2c1;2-3c1", 0);
        closed("p0,10,20,30,40;0-1c1;1-2;1-2c2;1-2c1;2-4c1", 1);
    }

    private static void over(String text, int over) {
        due(text + ": over", Checks.drawn(text).chain(1, 7), over);
    }

    private static void promise23Over() {
        over("p0,10,20,30;0-1c1;1-2c1;0-2", 2);
        over("p0,10,20,30;0-1c1;1-2c1;0-2c1", NONE);
        over("p0,10,20,30;0-2c1;1-2c1;0-2c1;0-2c2;0-2", 3);
        over("p0,10,20,30;0-3;0-1;0-2;0-1c1;0-2;1-2c1", 2);
        over("p0,10,20,30;0-2;0-1c1;1-2c1", 0);
        over("p0,10,20,30;0-1c1;0-1", 1);
        over("p0,10,20,30;0-1c1;2-3c1;0-3", 2);
        over("p0,10,20,30;0-1c1;1-2c1;0-3;1-2", NONE);
    }
}
