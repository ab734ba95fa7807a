/** Promise 1: a new object is all as said, and shares nothing with another one. */
final class NewObjectTest {
    public static void main(String[] args) {
        isAsSaid(new Run());
        Run used = new Run();
        used.write(0, 0, 5);
        used.takeOver(1);
        used.step(1);
        used.lose(3);
        used.cut(true);
        isAsSaid(new Run());
        bothServeTheirVolume(new Run());
        Check.end();
    }

    private static void isAsSaid(Run x) {
        for (int c = 0; c < 2; c++) {
            int[] due = {0, 0, 0, 0, 1, 1, 1, 0, 0, -1, 1 << c, 0, 0, 0};
            for (int what = 0; what < due.length; what++) {
                Check.same("state(" + c + ", " + what + ")", x.state(c, what), due[what]);
            }
            Check.same("arrive", x.arrive(c), Run.NONE);
        }
        for (int stripe = 0; stripe < 8; stripe++) {
            Check.same("parityGood", x.parityGood(stripe), 1);
            for (int d = 0; d < 5; d++) {
                Check.same("keyOf", x.keyOf(d), 1);
                Check.same("onDisk", x.onDisk(d, stripe), 0);
            }
        }
        Check.same("lates", x.lates(), 0);
        Check.noSuchElement("ticket(0)", () -> x.ticket(0));
    }

    private static void bothServeTheirVolume(Run x) {
        for (int block = 0; block < 32; block++) {
            int owner = block < 16 ? 0 : 1;
            Check.same("read by the owner", x.ticket(x.read(owner, block)), 1);
            Check.same("read by the other one", x.ticket(x.read(1 - owner, block)), 2);
            Check.same("what was read", x.value(2 * block), 0);
        }
        Check.yes("the link is not cut", x.pair());
    }
}
