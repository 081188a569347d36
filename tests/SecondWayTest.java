/** Promise 62: errors() is 0 in all states. */
public final class SecondWayTest {
    public static void main(String[] args) {
        OpeningsCabinet x = new OpeningsCabinet();
        Check.same("start", x.errors(), 0);
        Check.moves(x, "e4 d5 exd5 Nf6 c4 c6 dxc6 Nxc6 Nf3 e5 Nc3 Bg4 Be2 e4 Nd4 Bxe2");
        x.addGame(0, 0, 1900, 1);
        x.addGame(1, 0, 1900, 1);
        for (int i = 16; i > 0; i--) {
            Check.same("behind the move " + i, x.errors(), 0);
            x.takeBack();
        }
        x.put(4, 0);
        Check.same("not proper", x.errors(), 0);
        String[] papers = {
            "r3k2r/p1ppqpb1/bn2pnp1/3PN3/1p2P3/2N2Q1p/PPPBBPPP/R3K2R w KQkq -",
            "r3k2r/Pppp1ppp/1b3nbN/nP6/BBP1P3/q4N2/Pp1P2PP/R2Q1RK1 w kq -",
            "8/Q7/8/5k2/8/7K/8/Q5Q1 w - -", "4k3/8/8/3PpP2/8/8/8/4K3 w - e6", "k7/8/1QK5/8/8/8/8/8 b - -",
        };
        for (String paper : papers) {
            Check.same(paper, Check.at(paper).errors(), 0);
        }
        Check.end("SecondWayTest");
    }
}
