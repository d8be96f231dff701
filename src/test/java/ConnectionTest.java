/** Promises 26 to 31, and sections 7 and 8: connections. */
final class ConnectionTest {
  private static final int NONE = Lanternserver.NONE;
  /** Behind this head 300 bytes can come, and nothing is answered ahead of the last of them. */
  private static final String HEAD = "PUT /a HTTP/1.1\r\nHost: h\r\nContent-Length: 300\r\n\r\n";
  private static final String GET = "GET /a HTTP/1.1\r\nHost: h\r\n\r\n";

  /** Nothing begins at the time 0, so that times that were never put down show. */
  private static final int BEGIN = 7;

  private ConnectionTest() {}

  public static void main(String[] args) {
    connecting();
    firstSegments();
    numbers();
    refusing();
    sixOpen();
    sixty();
    givingUp();
    givingUpAtTheServer();
    writing();
    writingAhead();
    reading();
    endTold();
    endNotTold();
    endToldToTheServer();
    lesserMss();
    growing();
    growingAboveTheThreshold();
    measuring();
    measuringEnds();
    sendingAgain();
    doubles();
    doublesInARow();
    oldWindows();
    probing();
    probingLater();
    pieces();
    lowWindows();
    servingWindows();
    closing();
    closingBoth();
    waitingAnew();
    lateSegments();
    finsAgain();
    aborting();
    resets();
    beginnings();
    anotherConnectionOfTheSameEnds();
    patience();
    sendingWhileClosing();
    doublesAgain();
    noFinNoNewWait();
    closingEarly();
    headerFlags();
    wrongCalls();
    Check.end();
  }

  static Watch known(int mtu, int mss) {
    Watch w = new Watch();
    w.x.addHost(mtu, mss);
    w.x.pass(BEGIN);
    w.x.echo(1, 0, 0);
    w.x.settle(1);
    return w;
  }

  /** Client's connection 0 and server's connection 1, both ESTABLISHED two ticks ago. */
  static Watch open(int mss) {
    Watch w = known(600, mss);
    w.x.connect(1, 0, 80);
    w.x.settle(1);
    w.x.pass(2);
    return w;
  }

  /** Likewise, with a request begun, of which 300 bytes are to come. */
  static Watch begun(int mss) {
    Watch w = open(mss);
    w.write(0, HEAD);
    w.x.settle(1);
    return w;
  }

  private static void is(Watch w, int connection, int what, int due) {
    Check.due("connection " + connection + " " + what, w.x.connectionAt(connection, what), due);
  }

  private static void states(Watch w, int client, int server) {
    Check.due("state of the client's", w.x.connectionAt(0, 0), client);
    Check.due("state of the server's", w.x.connectionAt(1, 0), server);
  }

  private static void wire(Watch w, String due) {
    Check.dueText("the wire", w.wire(), due);
  }

  private static String x(int many) {
    return "x".repeat(many);
  }

  private static void connecting() {
    Watch w = known(600, 300);
    Lanternserver x = w.x;
    Check.noIndex("no host", () -> x.connect(2, 0, 80));
    Check.noIndex("no other host", () -> x.connect(0, 2, 80));
    Check.noIndex("host -1", () -> x.connect(-1, 0, 80));
    Check.noArgument("the server", () -> x.connect(0, 1, 80));
    Check.noArgument("itself", () -> x.connect(1, 1, 80));
    Check.noArgument("port 0", () -> x.connect(1, 0, 0));
    Check.noArgument("port 65536", () -> x.connect(1, 0, 65536));
    Check.due("none was made", x.count(6), 0);
    Check.due("the first", x.connect(1, 0, 65535), 0);
    Check.due("the second", x.connect(1, 0, 1), 1);
    Check.due("all", x.count(6), 2);
    Check.due("not CLOSED", x.count(7), 2);
    Check.noIndex("no third", () -> x.connectionAt(2, 99));
    Check.noIndex("connection -1", () -> x.connectionAt(-1, 0));
    Check.noArgument("what 19", () -> x.connectionAt(0, 19));
    Check.noArgument("what -1", () -> x.connectionAt(0, -1));
  }

  private static void firstSegments() {
    Watch w = known(600, 300);
    w.x.connect(1, 0, 80);
    Check.dueText("SYN", w.hex(0, 34, 50), "9c 40 00 50 ff ff ff 38 00 00 00 00 60 02 01 2c");
    Check.dueText("its option", w.hex(0, 52, 99), "00 00 02 04 01 2c");
    Check.due("its sum", Watch.headedSum(w.bytes(0)), 0);
    Check.dueText("SYN_SENT", w.connection(0), "1 1 -1 40000 0 1 0 0 0 2000 10 0 0 0 0 0 0 300 0");
    w.x.deliver(0);
    // iss of connection 1: ffffff38 + 0010000 7, that is 000fff3f.
    Check.dueText("SYN and ACK", w.hex(0, 34, 50), "00 50 9c 40 00 0f ff 3f ff ff ff 39 60 12 01 2c");
    Check.dueText("its option", w.hex(0, 52, 99), "00 00 02 04 01 f4");
    Check.due("its sum", Watch.headedSum(w.bytes(0)), 0);
    Check.dueText("SYN_RECEIVED", w.connection(1), "2 0 0 80 0 1 1 300 0 2000 10 0 0 0 0 0 0 300 0");
    w.x.deliver(0);
    Check.dueText("ACK", w.hex(0, 34, 50), "9c 40 00 50 ff ff ff 39 00 0f ff 40 50 10 01 2c");
    Check.due("its length", w.x.frameAt(0, 0), 54);
    Check.dueText("the client's ESTABLISHED", w.connection(0), "3 1 1 40000 1 1 1 300 300 2000 10 0 0 0 0 0 0 300 0");
    Check.due("the server's is not", w.x.connectionAt(1, 0), 2);
    w.x.deliver(0);
    Check.dueText("the server's ESTABLISHED", w.connection(1), "3 0 0 80 1 1 1 300 300 2000 10 0 0 0 0 0 0 300 0");
    Check.due("nothing more", w.x.count(2), 0);
    Check.due("no timer", w.x.settle(9), 0);
  }

  private static void numbers() {
    Watch w = open(300);
    Check.due("the next number is the client's", w.x.connect(1, 0, 80), 2);
    w.x.settle(1);
    is(w, 2, 2, 3);
    is(w, 3, 2, 2);
    is(w, 2, 3, 40002);
    is(w, 3, 3, 80);
    is(w, 3, 1, 0);
  }

  private static void refusing() {
    Watch w = known(600, 300);
    w.x.connect(1, 0, 81);
    w.x.deliver(0);
    Check.dueText("RST and ACK", w.hex(0, 34, 50), "00 51 9c 40 00 00 00 00 ff ff ff 39 50 14 00 00");
    Check.due("its sum", Watch.headedSum(w.bytes(0)), 0);
    w.x.deliver(0);
    is(w, 0, 0, 0);
    is(w, 0, 15, Lanternserver.REFUSED);
    is(w, 0, 2, NONE);
    Check.due("answered by RST", w.x.count(13), 1);
    Check.due("no RST is answered", w.x.count(2), 0);
    Check.due("none is open", w.x.count(7), 0);
    w.x.addHost(600, 500);
    w.x.connect(1, 2, 80);
    w.x.settle(1);
    is(w, 1, 15, Lanternserver.REFUSED);
    Check.due("by a client, too", w.x.count(13), 2);
  }

  private static void sixOpen() {
    Watch w = known(600, 300);
    for (int k = 0; k < 6; k++) {
      w.x.connect(1, 0, 80);
      w.x.settle(1);
    }
    Check.due("six at the server", w.x.count(7), 12);
    int seventh = w.x.connect(1, 0, 80);
    w.x.settle(1);
    is(w, seventh, 15, Lanternserver.REFUSED);
    w.x.close(0, false);
    w.x.settle(1);
    is(w, 1, 0, Lanternserver.CLOSED);
    is(w, 0, 0, Lanternserver.TIME_WAIT);
    int eighth = w.x.connect(1, 0, 80);
    w.x.settle(1);
    is(w, eighth, 0, Lanternserver.ESTABLISHED);
  }

  private static void sixty() {
    Watch w = known(600, 300);
    for (int k = 0; k < 58; k++) {
      Check.due("number", w.x.connect(1, 0, 81), k);
      w.x.settle(1);
    }
    w.x.connect(1, 0, 80);
    w.x.connect(1, 0, 80);
    w.x.settle(1);
    Check.due("all", w.x.count(6), 60);
    is(w, 58, 15, Lanternserver.REFUSED);
    Check.noState("a 61st", () -> w.x.connect(1, 0, 80));
    Check.noArgument("the argument first", () -> w.x.connect(1, 0, 0));
  }

  private static void givingUp() {
    Watch w = known(600, 300);
    w.x.connect(1, 0, 80);
    int[] times = {10, 30, 70, 150, 230, 310, 390, 470, 550};
    int[] rtos = {20, 40, 80, 80, 80, 80, 80, 80, 80};
    for (int k = 0; k < 9; k++) {
      while (w.x.count(2) > 0) w.x.lose(0);
      while (w.x.count(0) < BEGIN + times[k] - 1) w.x.pass(1);
      is(w, 0, 16, k);
      Check.due("nothing is sent ahead of its time", w.x.count(2), 0);
      w.x.pass(1);
      is(w, 0, 16, k + 1);
      is(w, 0, 10, rtos[k]);
      is(w, 0, 9, 600);
      is(w, 0, 8, 300);
      if (k < 2) wire(w, "1>0 S 0 0 w300 b0");
    }
    is(w, 0, 0, Lanternserver.CLOSED);
    is(w, 0, 15, Lanternserver.GIVEN_UP);
    Check.due("nothing is sent then", w.x.count(2), 0);
    Check.due("no bytes were sent again", w.x.count(12), 0);
  }

  private static void givingUpAtTheServer() {
    Watch w = known(600, 300);
    w.x.connect(1, 0, 80);
    w.x.deliver(0);
    w.x.lose(0);
    w.x.pass(10);
    wire(w, "0>1 SA 0 1 w300 b0; 1>0 S 0 0 w300 b0");
    is(w, 1, 10, 20);
    is(w, 1, 9, 600);
    is(w, 1, 16, 1);
    w.x.settle(1);
    states(w, Lanternserver.ESTABLISHED, Lanternserver.ESTABLISHED);
    is(w, 1, 16, 0);
    is(w, 0, 16, 0);
    is(w, 1, 10, 20);
  }

  private static void writing() {
    Watch w = open(300);
    Check.due("300 of the window go at once", w.write(0, HEAD + x(300)), HEAD.length() + 300);
    wire(w, "1>0 A 1 1 w300 b300");
    is(w, 0, 11, HEAD.length() + 300);
    is(w, 0, 5, 301);
    Check.due("the rest of 600", w.write(0, x(400)), 600 - HEAD.length() - 300);
    is(w, 0, 11, 600);
    w.x.clear();
    w.x.put('y', 7);
    Check.due("no room", w.x.write(0), 0);
    Check.due("the tape keeps what was not written", w.x.count(15), 7);
    w.x.settle(5);
    is(w, 0, 11, 0);
    Check.due("room again", w.x.write(0), 7);
    Check.due("the tape is empty", w.x.count(15), 0);
    Check.due("an empty tape", w.x.write(0), 0);
    w = open(300);
    w.x.put('P', 300);
    w.x.write(0);
    w.x.put('Q', 200);
    w.x.write(0);
    w.x.clear();
    w.x.put('a', 100);
    w.x.put('b', 1);
    w.x.put('c', 1);
    Check.due("some of it", w.x.write(0), 100);
    Check.due("two are left", w.x.count(15), 2);
    Check.due("in their order", w.x.sum(0, 2), ~('b' << 8 | 'c') & 65535);
  }

  private static void writingAhead() {
    Watch w = known(600, 40);
    w.x.connect(1, 0, 80);
    Check.due("in SYN_SENT", w.write(0, HEAD), HEAD.length());
    Check.due("only SYN was sent", w.x.count(2), 1);
    is(w, 0, 11, HEAD.length());
    w.x.deliver(0);
    w.x.deliver(0);
    wire(w, "1>0 A 1 1 w300 b0; 1>0 A 1 1 w300 b40");
    w.x.deliver(1);
    Check.due("bytes make it ESTABLISHED, too", w.x.connectionAt(1, 0), Lanternserver.ESTABLISHED);
    is(w, 1, 14, 40);
    w.x.settle(1);
    is(w, 1, 14, HEAD.length());
  }

  private static void reading() {
    Watch w = open(300);
    Lanternserver x = w.x;
    Check.noIndex("no connection", () -> x.read(2, 0));
    Check.noArgument("0 bytes", () -> x.read(0, 0));
    Check.noArgument("301 bytes", () -> x.read(0, 301));
    Check.noArgument("the argument first", () -> x.read(1, 0));
    Check.noState("the server's", () -> x.read(1, 1));
    Check.due("nothing there", x.read(0, 300), 0);
    w.write(0, "GET / HTTP/1.0\r\n\r\n");
    x.settle(5);
    int length = x.servedAt(0, 3);
    is(w, 0, 12, length);
    is(w, 0, 0, Lanternserver.CLOSE_WAIT);
    is(w, 0, 6, length + 2);
    Check.due("some", x.read(0, 10), 10);
    is(w, 0, 12, length - 10);
    is(w, 0, 14, 10);
    is(w, 0, 18, 0);
    Check.noIndex("not read yet", () -> x.readAt(0, 10));
    Check.due("the last one", x.readAt(0, 9), '2');
    Check.due("the rest", x.read(0, 300), length - 10);
    is(w, 0, 18, 1);
    Check.due("the end", x.read(0, 300), NONE);
    Check.due("again", x.read(0, 1), NONE);
    Check.noIndex("beyond", () -> x.readAt(0, length));
    Check.noIndex("byte -1", () -> x.readAt(0, -1));
    Check.noIndex("of none", () -> x.readAt(2, 0));
    Check.due("what the server read", x.readAt(1, 0), 'G');
    Check.due("all that it read", x.readAt(1, 17), 10);
    Check.noIndex("beyond that", () -> x.readAt(1, 18));
    // What has come can be read on a connection that is CLOSED.
    Watch v = open(300);
    v.write(0, "GET / HTTP/1.0\r\n\r\n");
    v.x.settle(5);
    v.x.close(0, true);
    Check.due("read then", v.x.read(0, 20), 20);
    v.x.settle(1);
    Check.due("no ACK", v.x.count(2), 0);
  }

  /** The end is told when FIN has come and all was read, also if nothing was there to be read. */
  private static void endTold() {
    Watch w = open(250);
    is(w, 0, 18, 0);
    is(w, 1, 18, 0);
    w.x.close(0, false);
    is(w, 0, 18, 0);
    w.x.settle(1);
    is(w, 0, 0, Lanternserver.TIME_WAIT);
    is(w, 0, 14, 0);
    is(w, 0, 18, 1);
    is(w, 1, 18, 1);
    Check.due("read says so", w.x.read(0, 1), NONE);
    w.x.pass(40);
    is(w, 0, 0, Lanternserver.CLOSED);
    is(w, 0, 18, 1);
    is(w, 1, 18, 1);
    // FIN comes behind bytes that were read already.
    Watch v = open(250);
    v.write(0, GET);
    v.x.settle(3);
    int length = v.x.connectionAt(0, 12);
    Check.due("all of the answer", v.x.read(0, 300), length);
    is(v, 0, 18, 0);
    v.x.close(0, false);
    v.x.settle(3);
    is(v, 0, 18, 1);
    is(v, 0, 14, length);
    is(v, 1, 18, 1);
  }

  private static void endNotTold() {
    Watch w = open(250);
    w.write(0, "GET / HTTP/1.0\r\n\r\n");
    w.x.deliver(0);
    // The request is acknowledged, the answer goes, and FIN behind it, which is delivered first.
    Check.due("ACK, answer, FIN", w.x.count(2), 3);
    Check.isTrue("the last one is FIN", w.frame(2).startsWith("0>1 FA "));
    w.x.deliver(2);
    is(w, 0, 0, Lanternserver.ESTABLISHED);
    is(w, 0, 18, 0);
    Check.due("nothing was there", w.x.read(0, 300), 0);
    is(w, 0, 18, 0);
    w.x.settle(30);
    int length = w.x.servedAt(0, 3);
    is(w, 0, 0, Lanternserver.CLOSE_WAIT);
    is(w, 0, 18, 0);
    Check.due("all but one", w.x.read(0, length - 1), length - 1);
    is(w, 0, 18, 0);
    Check.due("the last one", w.x.read(0, 300), 1);
    is(w, 0, 18, 1);
    // An end by RST is none that is told.
    Watch v = open(250);
    v.x.close(0, true);
    v.x.settle(1);
    is(v, 1, 15, Lanternserver.RESET);
    is(v, 0, 18, 0);
    is(v, 1, 18, 0);
    Check.due("nothing, and no end", v.x.read(0, 300), 0);
    is(v, 0, 18, 0);
  }

  /** A server that wrote its last answer reads no more: bytes that come then keep the end from being told. */
  private static void endToldToTheServer() {
    Watch w = open(250);
    w.write(0, "GET / HTTP/1.0\r\n\r\n");
    w.x.settle(3);
    is(w, 1, 0, Lanternserver.FIN_WAIT_2);
    is(w, 1, 18, 0);
    w.x.close(0, false);
    w.x.settle(3);
    is(w, 1, 0, Lanternserver.TIME_WAIT);
    is(w, 1, 18, 1);
    Watch v = open(250);
    v.write(0, "GET / HTTP/1.0\r\n\r\n");
    v.x.settle(3);
    v.write(0, "x");
    v.x.close(0, false);
    v.x.settle(3);
    is(v, 1, 0, Lanternserver.TIME_WAIT);
    is(v, 1, 12, 1);
    is(v, 1, 18, 0);
    Check.due("errors", v.x.errors(), 0);
  }

  private static void lesserMss() {
    Watch w = open(120);
    is(w, 0, 17, 120);
    is(w, 1, 17, 120);
    is(w, 1, 8, 120);
    Watch v = open(500);
    is(v, 0, 17, 500);
    w.write(0, HEAD + x(100));
    wire(w, "1>0 A 1 1 w300 b120");
    w.x.deliver(0);
    w.x.deliver(0);
    wire(w, "1>0 PA 121 1 w300 b29");
  }

  private static void growing() {
    Watch w = begun(500);
    is(w, 0, 8, 1000);
    for (int k = 0; k < 3; k++) {
      w.write(0, "a");
      w.x.settle(1);
      is(w, 0, 8, k == 0 ? 1500 : 2000);
    }
    // What is sent is as much as the window lets, which counts what is under way.
    Watch v = begun(40);
    is(v, 0, 8, 120);
    v.write(0, x(200));
    wire(v, "1>0 A 50 1 w300 b40; 1>0 A 90 1 w300 b40; 1>0 A 130 1 w300 b40");
    v.x.deliver(0);
    v.x.deliver(2);
    is(v, 0, 8, 160);
    wire(v, "1>0 A 90 1 w300 b40; 1>0 A 130 1 w300 b40; 1>0 A 170 1 w300 b40; 1>0 PA 210 1 w300 b40");
  }

  private static void growingAboveTheThreshold() {
    Watch w = begun(40);
    w.write(0, x(30));
    w.x.lose(0);
    w.x.pass(4);
    is(w, 0, 9, 80);
    is(w, 0, 8, 40);
    int[] due = {80, 100, 116, 129};
    for (int cwnd : due) {
      w.x.settle(1);
      is(w, 0, 8, cwnd);
      w.write(0, "a");
    }
  }

  private static void measuring() {
    Watch w = open(300);
    w.write(0, HEAD);
    w.x.pass(3);
    w.x.settle(1);
    is(w, 0, 10, 9);
    int[] ticks = {1, 8, 14, 0, 0, 0, 0, 0, 0, 0, 0, 0, 0, 0, 0, 0, 0, 0, 0, 0, 0, 0};
    int smooth = 24;
    int spread = 6;
    int[] due = {9, 15, 24};
    for (int k = 0; k < ticks.length; k++) {
      w.write(0, "a");
      if (ticks[k] > 0) w.x.pass(ticks[k]);
      w.x.settle(1);
      int off = ticks[k] - smooth / 8;
      smooth += off;
      spread += (off < 0 ? -off : off) - spread / 4;
      is(w, 0, 10, Math.min(80, Math.max(4, smooth / 8 + spread)));
      if (k < due.length) is(w, 0, 10, due[k]);
    }
  }

  private static void measuringEnds() {
    // Only the first one is measured; the second, sent later, is not.
    Watch w = open(300);
    w.write(0, HEAD);
    w.x.pass(2);
    w.write(0, x(10));
    w.x.pass(5);
    w.x.deliver(0);
    w.x.deliver(1);
    is(w, 0, 10, 7 + 14);
    w.x.settle(1);
    is(w, 0, 10, 7 + 14);
    // What is sent again is not measured, nor what was under way with it.
    Watch v = open(300);
    v.write(0, HEAD);
    v.x.lose(0);
    v.x.pass(10);
    v.x.settle(1);
    is(v, 0, 10, 20);
    is(v, 0, 16, 0);
  }

  private static void sendingAgain() {
    Watch w = begun(40);
    w.write(0, x(100));
    is(w, 0, 5, 50 + 100);
    w.x.lose(0);
    w.x.lose(0);
    w.x.lose(0);
    w.x.pass(3);
    Check.due("rto of 4 is not over", w.x.count(2), 0);
    w.x.pass(1);
    wire(w, "1>0 A 50 1 w300 b40");
    Check.due("bytes sent again", w.x.count(12), 40);
    is(w, 0, 9, 80);
    is(w, 0, 8, 40);
    is(w, 0, 10, 8);
    is(w, 0, 16, 1);
    w.x.deliver(0);
    w.x.deliver(0);
    // Something was acknowledged: the timer begins anew, the others wait for it.
    is(w, 0, 16, 0);
    is(w, 0, 8, 80);
    Check.due("nothing new can be sent", w.x.count(2), 0);
    w.x.pass(7);
    Check.due("not yet", w.x.count(2), 0);
    w.x.pass(1);
    wire(w, "1>0 A 90 1 w300 b40");
    w.x.settle(1);
    w.x.pass(16);
    wire(w, "1>0 PA 130 1 w300 b20");
    Check.due("bytes sent again", w.x.count(12), 100);
    w.x.settle(1);
    is(w, 0, 11, 0);
    is(w, 0, 16, 0);
    // The timer begins anew as something of what is under way is acknowledged.
    w = begun(40);
    w.write(0, x(80));
    w.x.pass(2);
    w.x.deliver(0);
    w.x.deliver(1);
    is(w, 0, 4, 90);
    w.x.lose(0);
    w.x.pass(w.x.connectionAt(0, 10) - 1);
    is(w, 0, 16, 0);
    w.x.pass(1);
    is(w, 0, 16, 1);
    // FIN is sent again, if no byte is left.
    w = open(40);
    w.x.close(0, false);
    w.x.lose(0);
    w.x.pass(10);
    wire(w, "1>0 FA 1 1 w300 b0");
    Check.due("that is no byte", w.x.count(12), 0);
  }

  /** Client of MSS 40 with 200 bytes, five segments, under way. */
  static Watch five() {
    Watch w = begun(40);
    for (int k = 0; k < 2; k++) {
      w.write(0, "a");
      w.x.settle(1);
    }
    is(w, 0, 8, 200);
    w.write(0, x(200));
    Check.due("five segments", w.x.count(2), 5);
    return w;
  }

  private static void doubles() {
    Watch w = five();
    w.x.lose(0);
    for (int k = 0; k < 4; k++) w.x.deliver(0);
    wire(w, "0>1 A 1 52 w300 b0; 0>1 A 1 52 w300 b0; 0>1 A 1 52 w300 b0; 0>1 A 1 52 w300 b0");
    is(w, 1, 13, 4);
    // The first one tells another window than the one known, so that it is none.
    is(w, 0, 7, 299);
    w.x.deliver(0);
    is(w, 0, 7, 300);
    w.x.deliver(0);
    w.x.deliver(0);
    Check.due("two doubles do nothing", w.x.count(2), 1);
    w.x.pass(2);
    w.x.deliver(0);
    wire(w, "1>0 A 52 1 w300 b40");
    is(w, 0, 9, 100);
    is(w, 0, 8, 100);
    is(w, 0, 10, 4);
    Check.due("bytes sent again", w.x.count(12), 40);
    w.x.pass(3);
    Check.due("the timer began anew", w.x.count(2), 1);
    w.x.deliver(0);
    wire(w, "0>1 A 1 252 w100 b0");
    is(w, 1, 13, 0);
    is(w, 1, 6, 252);
    w.x.deliver(0);
    is(w, 0, 11, 0);
    is(w, 0, 8, 100 + 16);
  }

  private static void doublesInARow() {
    // Only a new acknowledgement makes them 0 again; the fourth and the others do nothing.
    Watch w = five();
    w.x.lose(0);
    for (int k = 0; k < 4; k++) w.x.twice(k);
    for (int k = 0; k < 8; k++) w.x.deliver(0);
    Check.due("acknowledgements", w.x.count(2), 8);
    for (int k = 0; k < 8; k++) w.x.deliver(0);
    wire(w, "1>0 A 52 1 w300 b40");
    Check.due("once", w.x.count(12), 40);
    is(w, 1, 13, 6);
  }

  private static void oldWindows() {
    // Of two acknowledgements the later one counts, also if the other one comes behind it.
    Watch w = begun(40);
    w.write(0, x(80));
    w.x.deliver(0);
    w.x.deliver(0);
    wire(w, "0>1 A 1 90 w260 b0; 0>1 A 1 130 w260 b0");
    w.x.deliver(1);
    is(w, 0, 4, 130);
    is(w, 0, 7, 260);
    w.write(0, x(10));
    w.x.deliver(1);
    w.x.deliver(1);
    is(w, 0, 7, 290);
    w.x.deliver(0);
    is(w, 0, 7, 290);
    is(w, 0, 4, 140);
  }

  /** A file of 300 bytes, and as many requests for it as are told, which the client does not read. */
  static Watch full(int many) {
    Watch w = begun(300);
    w.write(0, x(300));
    w.x.settle(1);
    while (w.x.read(0, 300) > 0) w.x.settle(1);
    w.write(0, GET.repeat(many));
    while (w.x.count(2) > 0) w.x.deliver(0);
    return w;
  }

  private static void probing() {
    Watch w = full(1);
    int begin = w.x.connectionAt(1, 4);
    is(w, 0, 12, 300);
    is(w, 1, 7, 0);
    is(w, 1, 11, 52);
    is(w, 1, 5, begin);
    int rto = w.x.connectionAt(1, 10);
    Check.due("rto", rto, 4);
    w.x.pass(3);
    Check.due("not yet", w.x.count(2), 0);
    w.x.pass(1);
    Check.due("one byte", w.x.frameAt(0, 0), 55);
    is(w, 1, 5, begin + 1);
    is(w, 1, 16, 0);
    is(w, 1, 10, 4);
    w.x.deliver(0);
    is(w, 0, 12, 300);
    Check.due("it is answered", w.x.count(2), 1);
    w.x.deliver(0);
    is(w, 1, 4, begin);
    // It counts as under way, and is sent again, with rto twice as long.
    w.x.pass(4);
    is(w, 1, 16, 1);
    is(w, 1, 10, 8);
    Check.due("a byte sent again", w.x.count(12), 1);
    w.x.deliver(0);
    w.x.deliver(0);
    is(w, 1, 16, 0);
    w.x.read(0, 300);
    wireCount(w, 1);
    w.x.deliver(0);
    // The window is open: all behind the byte goes.
    is(w, 1, 5, begin + 52);
    is(w, 1, 4, begin);
    w.x.settle(20);
    is(w, 1, 11, 0);
    Check.due("all is there", w.x.read(0, 300), 52);
    Check.due("errors", w.x.errors(), 0);
    // settle() lets ticks pass for this timer, too.
    w = full(1);
    Check.due("ticks", w.x.settle(3), 3);
    Check.isTrue("it runs on", w.x.settle(60) == 60);
  }

  /** The server has closed, and reads no more: its window goes to 0, and the client writes later. */
  private static void probingLater() {
    Watch w = open(300);
    w.write(0, "GET / HTTP/1.0\r\n\r\n");
    w.x.settle(5);
    w.write(0, x(300));
    w.x.settle(5);
    is(w, 0, 7, 0);
    is(w, 0, 11, 0);
    Check.due("no timer runs", w.x.settle(5), 0);
    w.x.pass(9);
    int rto = w.x.connectionAt(0, 10);
    w.write(0, "ab");
    wireCount(w, 0);
    w.x.pass(rto - 2);
    w.write(0, "c");
    w.x.pass(1);
    wireCount(w, 0);
    w.x.pass(1);
    Check.isTrue("one byte, not the last one", w.frame(0).startsWith("1>0 A 319 ") && w.frame(0).endsWith(" b1"));
    w.x.deliver(0);
    Check.isTrue("is not taken", w.frame(0).startsWith("0>1 A ") && w.frame(0).contains(" 319 w0 b0"));
    w.x.settle(1);
    is(w, 0, 4, 319);
    is(w, 0, 5, 320);
    Watch v = open(300);
    v.write(0, "GET / HTTP/1.0\r\n\r\n");
    v.x.settle(5);
    v.write(0, x(300));
    v.x.settle(5);
    v.write(0, "a");
    v.x.pass(v.x.connectionAt(0, 10));
    Check.isTrue("the last byte", v.frame(0).startsWith("1>0 PA 319 "));
  }

  private static void wireCount(Watch w, int due) {
    Check.due("frames", w.x.count(2), due);
  }

  private static void pieces() {
    Watch w = begun(40);
    for (int k = 0; k < 4; k++) {
      w.write(0, "a");
      w.x.settle(1);
    }
    w.write(0, x(280));
    wireCount(w, 7);
    w.x.twice(6);
    for (int k = 0; k < 6; k++) w.x.deliver(1);
    is(w, 1, 13, 6);
    is(w, 1, 12, 0);
    w.x.deliver(1);
    is(w, 1, 13, 6);
    w.x.deliver(0);
    is(w, 1, 13, 0);
    is(w, 1, 6, 54 + 280);
    Check.due("all was read", w.x.connectionAt(1, 14), 49 + 4 + 280);
    w.x.settle(1);
    Check.due("errors", w.x.errors(), 0);
    // The same piece is kept twice; what lies ahead of what comes next goes with the others.
    w = five();
    w.x.twice(2);
    w.x.deliver(2);
    w.x.deliver(4);
    is(w, 1, 13, 2);
    w.x.deliver(0);
    is(w, 1, 13, 2);
    is(w, 1, 6, 92);
    w.x.deliver(0);
    is(w, 1, 13, 0);
    is(w, 1, 6, 172);
  }

  private static void lowWindows() {
    Watch w = full(1);
    int sent = w.x.count(3);
    w.x.read(0, 59);
    Check.due("59 are too few", w.x.count(3), sent);
    w.x.read(0, 1);
    Check.due("60 are told", w.x.count(3), sent + 1);
    Check.isTrue("the window", w.frame(0).contains(" w60 b0"));
    w.x.read(0, 100);
    Check.due("more are not", w.x.count(3), sent + 1);
  }

  private static void servingWindows() {
    // 300 bytes at once fill the server's window; it reads byte by byte, and tells when 60 have room.
    Watch w = open(300);
    w.write(0, HEAD + x(251));
    w.x.deliver(0);
    wire(w, "0>1 A 1 301 w0 b0; 0>1 A 1 301 w60 b0");
    w = open(300);
    w.write(0, HEAD + x(191));
    w.x.deliver(0);
    wire(w, "0>1 A 1 241 w60 b0");
    w = open(300);
    w.write(0, HEAD + x(192));
    w.x.deliver(0);
    wire(w, "0>1 A 1 242 w59 b0; 0>1 A 1 242 w60 b0");
  }

  private static void closing() {
    Watch w = open(300);
    w.write(0, "GET");
    Check.due("FIN_WAIT_1", w.x.close(0, false), 4);
    wire(w, "1>0 PA 1 1 w300 b3; 1>0 FA 4 1 w300 b0");
    Check.noState("not twice", () -> w.x.close(0, false));
    Check.noState("no more is written", () -> w.x.write(0));
    w.x.deliver(1);
    is(w, 1, 0, Lanternserver.ESTABLISHED);
    is(w, 1, 13, 0);
    wire(w, "1>0 PA 1 1 w300 b3; 0>1 A 1 1 w300 b0");
    w.x.deliver(0);
    is(w, 1, 6, 4);
    w.x.lose(0);
    w.x.lose(0);
    w.x.pass(10);
    wire(w, "1>0 PA 1 1 w300 b3");
    w.x.deliver(0);
    w.x.deliver(0);
    w.x.pass(20);
    wire(w, "1>0 FA 4 1 w300 b0");
    w.x.deliver(0);
    wire(w, "0>1 A 1 5 w300 b0; 0>1 FA 1 5 w300 b0");
    is(w, 1, 0, Lanternserver.LAST_ACK);
    w.x.deliver(0);
    is(w, 0, 0, Lanternserver.FIN_WAIT_2);
    w.x.deliver(0);
    wire(w, "1>0 A 5 2 w300 b0");
    states(w, Lanternserver.TIME_WAIT, Lanternserver.LAST_ACK);
    w.x.deliver(0);
    states(w, Lanternserver.TIME_WAIT, Lanternserver.CLOSED);
    is(w, 1, 15, 0);
    Check.due("none was served", w.x.count(10), 0);
    w.x.pass(39);
    is(w, 0, 0, Lanternserver.TIME_WAIT);
    w.x.pass(1);
    is(w, 0, 0, Lanternserver.CLOSED);
    is(w, 0, 15, 0);
    Check.due("nothing is open", w.x.count(7), 0);
  }

  private static void closingBoth() {
    Watch w = open(300);
    w.write(0, "GET / HTTP/1.0\r\n\r\n");
    w.x.deliver(0);
    int length = w.x.servedAt(0, 3);
    wire(w, "0>1 A 1 19 w282 b0; 0>1 PA 1 19 w300 b" + length + "; 0>1 FA " + (1 + length) + " 19 w300 b0");
    w.x.close(0, false);
    wireCount(w, 4);
    w.x.deliver(3);
    is(w, 1, 0, Lanternserver.CLOSING);
    w.x.deliver(0);
    w.x.deliver(0);
    w.x.deliver(0);
    is(w, 0, 0, Lanternserver.CLOSING);
    wireCount(w, 3);
    w.x.deliver(0);
    is(w, 0, 0, Lanternserver.TIME_WAIT);
    w.x.deliver(0);
    is(w, 1, 0, Lanternserver.CLOSING);
    w.x.pass(1);
    w.x.deliver(0);
    is(w, 1, 0, Lanternserver.TIME_WAIT);
    w.x.pass(39);
    states(w, Lanternserver.CLOSED, Lanternserver.TIME_WAIT);
    w.x.pass(1);
    states(w, Lanternserver.CLOSED, Lanternserver.CLOSED);
  }

  private static void waitingAnew() {
    Watch w = open(300);
    w.x.close(0, false);
    w.x.deliver(0);
    w.x.deliver(0);
    w.x.twice(0);
    w.x.deliver(0);
    is(w, 0, 0, Lanternserver.TIME_WAIT);
    w.x.lose(1);
    w.x.pass(5);
    w.x.deliver(0);
    wireCount(w, 1);
    w.x.pass(39);
    is(w, 0, 0, Lanternserver.TIME_WAIT);
    w.x.pass(1);
    is(w, 0, 0, Lanternserver.CLOSED);
  }

  private static void lateSegments() {
    // Old bytes are answered by ACK, and do not come twice.
    Watch w = open(300);
    w.write(0, "GET");
    w.x.twice(0);
    w.x.twice(0);
    w.x.deliver(0);
    w.x.deliver(0);
    wire(w, "1>0 PA 1 1 w300 b3; 0>1 A 1 4 w297 b0; 0>1 A 1 4 w300 b0");
    is(w, 1, 14, 3);
    w.x.close(0, true);
    w.x.deliver(3);
    is(w, 1, 0, Lanternserver.CLOSED);
    is(w, 1, 15, Lanternserver.RESET);
    // What comes for a CLOSED one is answered by RST, with the sequence of its acknowledgement.
    int resets = w.x.count(13);
    w.x.deliver(0);
    Check.dueText("RST", w.hex(2, 34, 50), "00 50 9c 40 00 0f ff 40 00 00 00 00 50 04 00 00");
    Check.due("counted", w.x.count(13), resets + 1);
    w.x.deliver(0);
    Check.due("by the client, too", w.x.count(13), resets + 2);
  }

  private static void finsAgain() {
    Watch w = open(300);
    w.write(0, "GET / HTTP/1.0\r\n\r\n");
    w.x.deliver(0);
    w.x.deliver(0);
    w.x.deliver(0);
    w.x.twice(0);
    w.x.deliver(0);
    is(w, 0, 0, Lanternserver.CLOSE_WAIT);
    int rcv = w.x.connectionAt(0, 6);
    w.x.deliver(1);
    is(w, 0, 6, rcv);
    wireCount(w, 3);
    w.x.settle(1);
    is(w, 1, 0, Lanternserver.FIN_WAIT_2);
    Check.due("LAST_ACK", w.x.close(0, false), 9);
    w.x.settle(1);
    states(w, Lanternserver.CLOSED, Lanternserver.TIME_WAIT);
  }

  private static void aborting() {
    Watch w = open(300);
    w.write(0, "GET");
    Check.due("CLOSED", w.x.close(0, true), 0);
    is(w, 0, 15, Lanternserver.ABORTED);
    Check.dueText("RST and ACK", w.hex(1, 34, 50), "9c 40 00 50 ff ff ff 3c 00 0f ff 40 50 14 01 2c");
    w.x.settle(1);
    is(w, 1, 15, Lanternserver.RESET);
    Check.due("no answer by RST", w.x.count(13), 1);
    Check.noState("CLOSED", () -> w.x.close(0, true));
    Check.noState("CLOSED", () -> w.x.close(0, false));
    // Ahead of SYN and ACK the acknowledgement is 0.
    Watch v = known(600, 300);
    v.x.connect(1, 0, 80);
    v.x.close(0, true);
    Check.dueText("RST in SYN_SENT", v.hex(1, 34, 50), "9c 40 00 50 ff ff ff 39 00 00 00 00 50 14 01 2c");
    v.x.settle(1);
    is(v, 1, 15, Lanternserver.RESET);
    is(v, 0, 15, Lanternserver.ABORTED);
  }

  private static void resets() {
    // RST with another sequence than what comes next does nothing.
    Watch w = open(300);
    w.write(0, "GET");
    w.x.lose(0);
    w.x.close(0, true);
    w.x.settle(1);
    is(w, 1, 0, Lanternserver.ESTABLISHED);
    is(w, 1, 15, 0);
    Check.due("nor is it answered", w.x.count(13), 0);
  }

  private static void beginnings() {
    Watch w = known(600, 300);
    w.x.connect(1, 0, 80);
    w.x.twice(0);
    w.x.twice(0);
    w.x.deliver(0);
    w.x.pass(9);
    w.x.deliver(0);
    wire(w, "1>0 S 0 0 w300 b0; 0>1 SA 0 1 w300 b0; 0>1 SA 0 1 w300 b0");
    Check.due("only one connection", w.x.count(6), 2);
    w.x.pass(1);
    is(w, 1, 16, 0);
    w.x.pass(8);
    is(w, 1, 16, 0);
    w.x.pass(1);
    is(w, 1, 16, 1);
    is(w, 0, 16, 1);
    w.x.settle(1);
    states(w, Lanternserver.ESTABLISHED, Lanternserver.ESTABLISHED);
    Check.due("no RST", w.x.count(13), 0);
    // SYN for one that is ESTABLISHED is answered by ACK, and so is SYN with ACK.
    w = known(600, 300);
    w.x.connect(1, 0, 80);
    w.x.twice(0);
    w.x.twice(0);
    w.x.deliver(0);
    w.x.twice(2);
    w.x.deliver(2);
    w.x.deliver(3);
    states(w, Lanternserver.ESTABLISHED, Lanternserver.ESTABLISHED);
    w.x.deliver(0);
    w.x.deliver(1);
    wire(w, "1>0 S 0 0 w300 b0; 0>1 A 1 1 w300 b0; 1>0 A 1 1 w300 b0");
  }

  private static void anotherConnectionOfTheSameEnds() {
    // An old SYN begins another connection at the server, when the first one is CLOSED: the client resets both.
    Watch w = known(600, 300);
    w.x.connect(1, 0, 80);
    w.x.twice(0);
    w.x.deliver(0);
    w.x.deliver(1);
    w.x.deliver(1);
    states(w, Lanternserver.ESTABLISHED, Lanternserver.ESTABLISHED);
    for (int k = 0; k < 4; k++) w.x.pass(100);
    is(w, 1, 15, Lanternserver.ABORTED);
    while (w.x.count(2) > 1) w.x.lose(1);
    w.x.echo(1, 0, 0);
    w.x.deliver(1);
    wire(w, "1>0 S 0 0 w300 b0; 0>1 RA 1 1 w300 b0; 0>1 tells 1");
    w.x.lose(1);
    w.x.deliver(1);
    w.x.lose(1);
    w.x.deliver(0);
    Check.due("another connection", w.x.count(6), 3);
    is(w, 2, 2, 0);
    is(w, 0, 2, 1);
    wire(w, "0>1 SA 0 1 w300 b0");
    w.x.deliver(0);
    Check.due("the client acknowledges what it knows", w.x.count(2), 1);
    int resets = w.x.count(13);
    w.x.deliver(0);
    Check.due("which is not what the server's began with", w.x.count(13), resets + 1);
    Check.dueText("RST", w.hex(0, 34, 50), "00 50 9c 40 00 0f ff 40 00 00 00 00 50 04 00 00");
    is(w, 2, 0, Lanternserver.SYN_RECEIVED);
    w.x.deliver(0);
    is(w, 0, 15, Lanternserver.RESET);
    Check.isTrue("agrees", w.x.agrees());
    Check.due("errors", w.x.errors(), 0);
  }

  private static void patience() {
    Watch w = open(300);
    w.x.pass(100);
    w.x.pass(100);
    w.x.pass(100);
    w.x.echo(1, 0, 0);
    w.x.settle(1);
    w.x.pass(97);
    is(w, 1, 0, Lanternserver.ESTABLISHED);
    w.x.pass(1);
    is(w, 1, 0, Lanternserver.CLOSED);
    is(w, 1, 15, Lanternserver.ABORTED);
    wire(w, "0>1 RA 1 1 w300 b0");
    Check.due("that is no answer", w.x.count(13), 0);
    w.x.settle(1);
    is(w, 0, 15, Lanternserver.RESET);
    // Each segment that comes begins it anew.
    w = open(300);
    w.x.pass(99);
    w.write(0, "G");
    w.x.settle(1);
    for (int k = 0; k < 3; k++) w.x.pass(100);
    w.x.pass(99);
    is(w, 1, 0, Lanternserver.ESTABLISHED);
    w.x.pass(1);
    is(w, 1, 0, Lanternserver.CLOSED);
    // In FIN_WAIT_2 it counts, too, and in SYN_RECEIVED from the beginning.
    w = open(300);
    w.write(0, "GET / HTTP/1.0\r\n\r\n");
    w.x.settle(1);
    is(w, 1, 0, Lanternserver.FIN_WAIT_2);
    for (int k = 0; k < 4; k++) w.x.pass(100);
    is(w, 1, 15, Lanternserver.ABORTED);
    is(w, 0, 0, Lanternserver.CLOSE_WAIT);
    w = known(600, 300);
    w.x.pass(50);
    w.x.connect(1, 0, 80);
    w.x.deliver(0);
    w.x.lose(0);
    for (int k = 0; k < 399; k++) {
      w.x.pass(1);
      while (w.x.count(2) > 0) w.x.lose(0);
    }
    is(w, 1, 0, Lanternserver.SYN_RECEIVED);
    w.x.pass(1);
    is(w, 1, 15, Lanternserver.ABORTED);
    is(w, 0, 15, 0);
  }

  /** Both have closed, and the client still has bytes to send: that is done in CLOSING, too. */
  private static void sendingWhileClosing() {
    Watch w = open(40);
    w.write(0, "GET / HTTP/1.0\r\n\r\n" + x(280));
    w.x.close(0, false);
    wire(w, "1>0 A 1 1 w300 b40");
    w.x.deliver(0);
    is(w, 1, 0, Lanternserver.FIN_WAIT_1);
    for (int k = 0; k < 40 && w.x.connectionAt(0, 0) == Lanternserver.FIN_WAIT_1; k++) w.x.deliver(0);
    is(w, 0, 0, Lanternserver.CLOSING);
    Check.isTrue("not all was sent", w.x.connectionAt(0, 5) < 1 + 298);
    w.x.settle(60);
    states(w, Lanternserver.TIME_WAIT, Lanternserver.TIME_WAIT);
    is(w, 1, 6, 1 + 298 + 1);
    is(w, 1, 12, 280);
    Check.due("errors", w.x.errors(), 0);
  }

  /** An acknowledgement of something new makes doubles 0 again. */
  private static void doublesAgain() {
    Watch w = five();
    w.x.lose(0);
    for (int k = 0; k < 4; k++) w.x.deliver(0);
    for (int k = 0; k < 4; k++) w.x.deliver(0);
    Check.due("sent again once", w.x.count(12), 40);
    w.x.settle(1);
    is(w, 0, 11, 0);
    for (int k = 0; k < 8; k++) {
      w.write(0, "a");
      w.x.settle(1);
    }
    w.write(0, x(80));
    Check.due("two segments", w.x.count(2), 2);
    w.x.lose(0);
    for (int k = 0; k < 5; k++) w.x.twice(0);
    for (int k = 0; k < 6; k++) w.x.deliver(0);
    for (int k = 0; k < 6; k++) w.x.deliver(0);
    Check.due("and once more", w.x.count(12), 80);
  }

  private static void noFinNoNewWait() {
    // In TIME_WAIT only a FIN that comes again begins the 40 ticks anew.
    Watch w = full(1);
    w.x.twice(0);
    w.x.read(0, 300);
    w.x.settle(20);
    w.x.read(0, 300);
    w.x.settle(20);
    w.x.close(0, false);
    w.x.twice(0);
    w.x.deliver(0);
    w.x.deliver(1);
    w.x.twice(1);
    w.x.deliver(1);
    is(w, 0, 0, Lanternserver.TIME_WAIT);
    w.x.pass(3);
    while (w.x.count(2) > 0) {
      if (w.frame(0).contains(" FA ") && w.frame(0).startsWith("0>1")) w.x.lose(0);
      else w.x.deliver(0);
    }
    w.x.pass(36);
    is(w, 0, 0, Lanternserver.TIME_WAIT);
    w.x.pass(1);
    is(w, 0, 0, Lanternserver.CLOSED);
  }

  private static void closingEarly() {
    Watch w = known(600, 300);
    w.x.connect(1, 0, 80);
    Check.due("CLOSED at once", w.x.close(0, false), 0);
    is(w, 0, 15, 0);
    wireCount(w, 1);
    w.x.deliver(0);
    w.x.deliver(0);
    Check.dueText("its SYN and ACK is answered by RST", w.hex(0, 34, 50),
        "9c 40 00 50 ff ff ff 39 00 00 00 00 50 04 00 00");
    w.x.deliver(0);
    is(w, 1, 15, Lanternserver.RESET);
  }

  private static void headerFlags() {
    // PSH only with the last byte written; FIN goes whatever the windows are.
    Watch w = begun(40);
    w.write(0, x(250));
    w.x.close(0, false);
    wire(w, "1>0 A 50 1 w300 b40; 1>0 A 90 1 w300 b40; 1>0 A 130 1 w300 b40");
    w.x.settle(5);
    is(w, 0, 0, Lanternserver.TIME_WAIT);
    is(w, 1, 14, 49 + 250);
    Watch v = full(3);
    v.x.close(0, false);
    Check.isTrue("FIN goes", v.frame(0).startsWith("1>0 FA "));
    v.x.settle(2);
    is(v, 1, 0, Lanternserver.CLOSE_WAIT);
    is(v, 1, 11, 600);
    for (int k = 0; k < 9; k++) {
      v.x.read(0, 300);
      v.x.settle(20);
    }
    is(v, 1, 0, Lanternserver.CLOSED);
    Check.due("all of three answers", v.x.connectionAt(0, 14), v.x.servedAt(0, 3) + 3 * 352);
    is(v, 0, 18, 1);
    Check.due("errors", v.x.errors(), 0);
  }

  private static void wrongCalls() {
    Watch w = open(300);
    Lanternserver x = w.x;
    Check.noIndex("write", () -> x.write(2));
    Check.noIndex("write -1", () -> x.write(-1));
    Check.noState("write on the server's", () -> x.write(1));
    Check.noIndex("close", () -> x.close(2, true));
    Check.noIndex("close -1", () -> x.close(-1, false));
    Check.noState("close the server's", () -> x.close(1, false));
    Check.noState("abort the server's", () -> x.close(1, true));
    x.close(0, true);
    x.put('a', 1);
    Check.noState("write on a CLOSED one", () -> x.write(0));
    Check.due("the tape stays", x.count(15), 1);
    Check.due("nothing to read", x.read(0, 1), 0);
  }
}
