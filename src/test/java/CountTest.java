/** Promises 36 to 40: counts, checks and means. */
final class CountTest {
  private CountTest() {}

  public static void main(String[] args) {
    counting();
    shares();
    means();
    checks();
    constants();
    Check.end();
  }

  private static void counting() {
    Watch w = new Watch();
    Lanternserver x = w.x;
    Check.noArgument("count 16", () -> x.count(16));
    Check.noArgument("count -1", () -> x.count(-1));
    x.addHost(600, 500);
    x.addHost(600, 500);
    x.pass(3);
    int client = x.connect(1, 0, 80);
    x.settle(1);
    w.write(client, "PUT /a HTTP/1.1\r\nHost: h\r\nContent-Length: 1\r\n\r\nx");
    x.settle(1);
    w.write(client, "GET /b HTTP/1.1\r\nHost: h\r\n\r\n");
    x.settle(1);
    w.write(client, "G");
    x.lose(0);
    x.pass(4);
    x.twice(0);
    x.spoil(0, 60, 1);
    x.connect(2, 1, 99);
    x.settle(1);
    x.echo(1, 0, 0);
    x.settle(1);
    x.put(1, 9);
    // Asked, told, SYN, SYN and ACK, ACK; request, ACK, answer, ACK, twice; then the lost byte, twice again, its ACK;
    // asked, told, SYN, RST; echo, echoed.
    int[] due = {7, 3, 0, 5 + 8 + 4 + 4 + 2, 1, 1, 3, 2, 1, 1, 2, 1, 1, 1, 1, 9};
    for (int what = 0; what < due.length; what++) Check.due("count " + what, x.count(what), due[what]);
    Check.dueReal("all but one went their way", x.deliveredShare(), 22.0 / 23.0);
    Check.dueReal("mean", x.meanAnswer(), (float) (55 + 54) / 2f);
  }

  private static void shares() {
    Watch w = new Watch();
    w.x.addHost(600, 500);
    w.x.echo(1, 0, 0);
    Check.dueReal("none delivered", w.x.deliveredShare(), 0.0);
    w.x.twice(0);
    w.x.twice(0);
    w.x.deliver(0);
    // The three, and the answer.
    Check.dueReal("one of four", w.x.deliveredShare(), 0.25);
    w.x.lose(3);
    Check.dueReal("lost ones count", w.x.deliveredShare(), 0.25);
    w.x.spoil(0, 0, 1);
    w.x.deliver(0);
    Check.dueReal("one that reached nobody", w.x.deliveredShare(), 0.5);
    w.x.deliver(0);
    Check.dueReal("three of five", w.x.deliveredShare(), 3.0 / 5.0);
  }

  private static void means() {
    Watch w = new Watch();
    w.x.addHost(600, 500);
    int client = w.x.connect(1, 0, 80);
    w.x.settle(1);
    w.write(client, "OPTIONS * HTTP/1.1\r\nHost: h\r\n\r\nGET / HTTP/1.1\r\nHost: h\r\n\r\nHEAD /a HTTP/1.0\r\n\r\n");
    w.x.settle(1);
    int total = w.x.servedAt(0, 3) + w.x.servedAt(1, 3) + w.x.servedAt(2, 3);
    Check.due("lengths", total, 73 + 50 + 64);
    Check.dueReal("mean", w.x.meanAnswer(), (float) total / 3f);
    Check.due("below 400", w.x.count(11), 2);
  }

  /** The checks hold while frames are lost, doubled, turned round and spoilt, and still much gets through. */
  private static void checks() {
    int served = 0;
    int again = 0;
    for (int seed = 0; seed < 60; seed++) {
      Watch w = new Watch();
      w.x.addHost(100 + seed * 8, 40 + seed * 7);
      w.x.addHost(300, 90);
      int[] clients = {w.x.connect(1, 0, 80), w.x.connect(2, 0, 80)};
      w.x.echo(1, 2, 500);
      for (int k = 0; k < 40; k++) {
        for (int client : clients) {
          if (w.x.connectionAt(client, 0) != Lanternserver.ESTABLISHED) continue;
          w.x.clear();
          w.x.piece((k + client) % 6 == 2 || k % 6 == 4 ? 3 : k % 6);
          w.x.write(client);
          w.x.read(client, 300);
        }
        w.x.play(seed * 1000 + k, 100);
        Check.isTrue("agrees in " + seed, w.x.agrees());
        Check.due("errors in " + seed, w.x.errors(), 0);
      }
      served += w.x.count(10);
      again += w.x.count(12);
    }
    System.out.println("served: " + served + ", bytes sent again: " + again);
    Check.isTrue("many were served", served > 300);
    Check.isTrue("many bytes were sent again", again > 3000);
  }

  private static void constants() {
    int[] got = {Lanternserver.NONE, Lanternserver.CLOSED, Lanternserver.SYN_SENT, Lanternserver.SYN_RECEIVED,
        Lanternserver.ESTABLISHED, Lanternserver.FIN_WAIT_1, Lanternserver.FIN_WAIT_2, Lanternserver.CLOSING,
        Lanternserver.CLOSE_WAIT, Lanternserver.TIME_WAIT, Lanternserver.LAST_ACK};
    for (int k = 0; k < got.length; k++) Check.due("constant " + k, got[k], k - 1);
    int[] ends = {Lanternserver.REFUSED, Lanternserver.RESET, Lanternserver.GIVEN_UP, Lanternserver.ABORTED};
    for (int k = 0; k < ends.length; k++) Check.due("end " + k, ends[k], k + 1);
  }
}
