/**
 * Section 1: of several exceptions the one that is listed first is thrown, a call that throws changes nothing, and
 * questions change nothing. Each call is refused at each of its edges, on objects that hold a bit of everything.
 */
final class RefusalTest {
  private static final int LEAST = Integer.MIN_VALUE, MOST = Integer.MAX_VALUE;
  private static final Class<IndexOutOfBoundsException> INDEX = IndexOutOfBoundsException.class;
  private static final Class<IllegalArgumentException> ARGUMENT = IllegalArgumentException.class;
  private static final Class<IllegalStateException> STATE = IllegalStateException.class;

  private final Watch w;
  private final Lanternserver x;

  private RefusalTest(Watch w) {
    this.w = w;
    this.x = w.x;
  }

  public static void main(String[] args) {
    for (Watch w : new Watch[] {new Watch(), busy(), full()}) {
      RefusalTest test = new RefusalTest(w);
      test.numbers();
      test.arguments();
      test.firstListed();
    }
    new RefusalTest(busy()).states();
    new RefusalTest(full()).fullStates();
    new RefusalTest(full()).taken();
    questions();
    nothingIsLeft();
    Check.end();
  }

  /** Two clients' hosts; datagrams that wait, pieces that are kept, frames of all kinds, and connections in many states. */
  private static Watch busy() {
    Watch w = new Watch();
    Lanternserver x = w.x;
    x.addHost(600, 500);
    x.addHost(100, 40);
    x.pass(7);
    for (int k = 0; k < 4; k++) x.connect(1, 0, 80);
    x.settle(5);
    w.write(0, "PUT /a HTTP/1.1\r\nHost: h\r\nContent-Length: 3\r\n\r\nxyz");
    x.settle(5);
    x.read(0, 10);
    w.write(1, "GET / HTTP/1.0\r\n\r\n");
    x.settle(5);
    x.close(2, false);
    x.settle(1);
    x.close(3, true);
    w.type("abc").x.name(1);
    w.type("abc");
    x.lookUp(2);
    x.echo(2, 1, 300);
    x.settle(1);
    x.deliver(0);
    x.connect(2, 1, 80);
    w.type("nobody");
    x.lookUp(1);
    x.echo(2, 0, 300);
    x.deliver(1);
    x.deliver(1);
    x.echo(1, 0, 9);
    x.spoil(x.count(2) - 1, 50, 77);
    x.twice(x.count(2) - 1);
    x.addHost(100, 40);
    x.echo(3, 0, 0);
    w.write(0, "GET");
    x.close(0, false);
    return w.type("a.b");
  }

  /** All that has a bound has come to it. */
  private static Watch full() {
    Watch w = new Watch();
    Lanternserver x = w.x;
    for (int k = 0; k < 4; k++) x.addHost(600, 500);
    x.connect(1, 0, 80);
    x.settle(5);
    for (int k = 0; k < 40; k++) x.echo(1 + k % 2, 0, 0);
    for (int k = 0; k < 40; k++) w.type("no").x.lookUp(1 + k % 2);
    for (int k = 2; k < 60; k++) x.connect(1, 0, 80 + k);
    while (x.count(0) < 20000) x.pass(100);
    while (x.count(2) < 100) {
      if (x.count(2) > 0) x.twice(0);
      else x.askAgain(0);
    }
    x.put('a', 300);
    x.put('b', 100);
    return w;
  }

  private void refused(String what, Class<? extends RuntimeException> due, Check.Call call) {
    String before = w.all() + w.mtus();
    Check.throwing(what, due, call);
    Check.dueText("nothing is changed by " + what, w.all() + w.mtus(), before);
  }

  private static int[] outside(int least, int most) {
    return new int[] {least - 1, most + 1, LEAST, MOST};
  }

  /** IndexOutOfBoundsException if something with the given number does not exist. */
  private void numbers() {
    for (int h : outside(0, x.count(1) - 1)) {
      refused("setMtu " + h, INDEX, () -> x.setMtu(h, 300));
      refused("hostAt " + h, INDEX, () -> x.hostAt(h, 0));
      refused("tableAt " + h, INDEX, () -> x.tableAt(h, 0));
      refused("tableAt 0, " + h, INDEX, () -> x.tableAt(0, h));
      refused("echo " + h, INDEX, () -> x.echo(h, 0, 0));
      refused("echo 0, " + h, INDEX, () -> x.echo(0, h, 0));
      refused("name " + h, INDEX, () -> x.name(h));
      refused("lookUp " + h, INDEX, () -> x.lookUp(h));
      refused("connect " + h, INDEX, () -> x.connect(h, 0, 80));
      refused("connect 0, " + h, INDEX, () -> x.connect(0, h, 80));
    }
    for (int f : outside(0, x.count(2) - 1)) {
      refused("frameAt " + f, INDEX, () -> x.frameAt(f, 0));
      refused("byteAt " + f, INDEX, () -> x.byteAt(f, 0));
    }
    for (int k : outside(0, w.echoes() - 1)) refused("isAnswered " + k, INDEX, () -> x.isAnswered(k));
    for (int k : outside(0, w.lookups() - 1)) {
      refused("found " + k, INDEX, () -> x.found(k));
      refused("askAgain " + k, INDEX, () -> x.askAgain(k));
    }
    for (int c : outside(0, x.count(6) - 1)) {
      refused("write " + c, INDEX, () -> x.write(c));
      refused("read " + c, INDEX, () -> x.read(c, 1));
      refused("readAt " + c, INDEX, () -> x.readAt(c, 0));
      refused("close " + c, INDEX, () -> x.close(c, false));
      refused("abort " + c, INDEX, () -> x.close(c, true));
      refused("connectionAt " + c, INDEX, () -> x.connectionAt(c, 0));
    }
    for (int k : outside(0, x.count(8) - 1)) {
      refused("fileAt " + k, INDEX, () -> x.fileAt(k, 0));
      refused("fileByteAt " + k, INDEX, () -> x.fileByteAt(k, true, 0));
    }
    for (int k : outside(0, x.count(10) - 1)) {
      refused("servedAt " + k, INDEX, () -> x.servedAt(k, 0));
      refused("answerAt " + k, INDEX, () -> x.answerAt(k, 0));
    }
    bytes();
  }

  private void bytes() {
    int length = x.count(15);
    refused("sum from -1", INDEX, () -> x.sum(-1, 0));
    refused("sum from the least", INDEX, () -> x.sum(LEAST, 0));
    refused("sum behind the end", INDEX, () -> x.sum(0, length + 1));
    refused("sum behind the most", INDEX, () -> x.sum(0, MOST));
    refused("sum turned", INDEX, () -> x.sum(length, length - 1));
    for (int f = 0; f < x.count(2); f++) {
      int frame = f;
      for (int at : outside(0, x.frameAt(f, 0) - 1)) refused("byteAt " + at, INDEX, () -> x.byteAt(frame, at));
    }
    for (int c = 0; c < x.count(6); c++) {
      int connection = c;
      int read = x.connectionAt(c, 14);
      for (int at : outside(0, read - 1)) refused("readAt " + at, INDEX, () -> x.readAt(connection, at));
      if (read > 0) x.readAt(c, read - 1);
    }
    for (int f = 0; f < x.count(8); f++) {
      int file = f;
      for (int at : outside(0, x.fileAt(f, 0) - 1)) {
        refused("fileByteAt " + at, INDEX, () -> x.fileByteAt(file, false, at));
      }
      for (int at : outside(0, x.fileAt(f, 2) - 1)) {
        refused("fileByteAt of the name " + at, INDEX, () -> x.fileByteAt(file, true, at));
      }
    }
    for (int r = 0; r < x.count(10); r++) {
      int request = r;
      for (int at : outside(0, x.servedAt(r, 3) - 1)) refused("answerAt " + at, INDEX, () -> x.answerAt(request, at));
    }
  }

  /** IllegalArgumentException if another parameter is out of its range. */
  private void arguments() {
    for (int value : outside(0, 255)) refused("put " + value, ARGUMENT, () -> x.put(value, 1));
    for (int many : outside(1, 300)) refused("put 1, " + many, ARGUMENT, () -> x.put(1, many));
    for (int which : outside(0, 5)) refused("piece " + which, ARGUMENT, () -> x.piece(which));
    for (int mtu : outside(100, 600)) {
      refused("addHost " + mtu, ARGUMENT, () -> x.addHost(mtu, 40));
      refused("setMtu " + mtu, ARGUMENT, () -> x.setMtu(0, mtu));
    }
    for (int mss : outside(40, 500)) refused("addHost 100, " + mss, ARGUMENT, () -> x.addHost(100, mss));
    for (int what : outside(0, 5)) refused("hostAt 0, " + what, ARGUMENT, () -> x.hostAt(0, what));
    for (int choice : outside(0, 1000)) {
      refused("deliver " + choice, ARGUMENT, () -> x.deliver(choice));
      refused("lose " + choice, ARGUMENT, () -> x.lose(choice));
      refused("twice " + choice, ARGUMENT, () -> x.twice(choice));
      refused("spoil " + choice, ARGUMENT, () -> x.spoil(choice, 0, 1));
      refused("spoil 0, " + choice, ARGUMENT, () -> x.spoil(0, choice, 1));
    }
    for (int by : outside(1, 255)) refused("spoil 0, 0, " + by, ARGUMENT, () -> x.spoil(0, 0, by));
    for (int ticks : outside(1, 100)) refused("pass " + ticks, ARGUMENT, () -> x.pass(ticks));
    for (int ticks : outside(1, 60)) refused("settle " + ticks, ARGUMENT, () -> x.settle(ticks));
    for (int many : outside(1, 200)) refused("play 1, " + many, ARGUMENT, () -> x.play(1, many));
    for (int what : outside(0, 15)) refused("count " + what, ARGUMENT, () -> x.count(what));
    refused("an echo of the server to itself", ARGUMENT, () -> x.echo(0, 0, 0));
    refused("a lookup of the server", ARGUMENT, () -> x.lookUp(0));
    refused("a connection of the server to itself", ARGUMENT, () -> x.connect(0, 0, 80));
    if (x.count(2) > 0) for (int what : outside(0, 3)) refused("frameAt 0, " + what, ARGUMENT, () -> x.frameAt(0, what));
    if (x.count(8) > 0) for (int what : outside(0, 2)) refused("fileAt 0, " + what, ARGUMENT, () -> x.fileAt(0, what));
    if (x.count(10) > 0) {
      for (int what : outside(0, 6)) refused("servedAt 0, " + what, ARGUMENT, () -> x.servedAt(0, what));
    }
    if (x.count(1) < 2) return;
    for (int many : outside(0, 900)) refused("echo 1, 0, " + many, ARGUMENT, () -> x.echo(1, 0, many));
    for (int port : outside(1, 65535)) refused("connect 1, 0, " + port, ARGUMENT, () -> x.connect(1, 0, port));
    refused("an echo to itself", ARGUMENT, () -> x.echo(1, 1, 0));
    refused("a connection of the server", ARGUMENT, () -> x.connect(0, 1, 80));
    refused("a connection to itself", ARGUMENT, () -> x.connect(1, 1, 80));
    for (int what : outside(0, 18)) refused("connectionAt 0, " + what, ARGUMENT, () -> x.connectionAt(0, what));
    for (int many : outside(1, 300)) refused("read 0, " + many, ARGUMENT, () -> x.read(0, many));
  }

  /** Of several exceptions the one that is listed first is thrown. */
  private void firstListed() {
    int none = x.count(1);
    refused("setMtu of no host, out of range", INDEX, () -> x.setMtu(none, 99));
    refused("hostAt of no host, out of range", INDEX, () -> x.hostAt(none, 6));
    refused("echo of no host, to itself", INDEX, () -> x.echo(none, none, -1));
    refused("echo to no host, out of range", INDEX, () -> x.echo(0, none, 901));
    refused("connect of no host, to itself, out of range", INDEX, () -> x.connect(none, none, 0));
    refused("connect of the server to no host", INDEX, () -> x.connect(0, none, 0));
    refused("frameAt of no frame, out of range", INDEX, () -> x.frameAt(x.count(2), 4));
    refused("read of no connection, out of range", INDEX, () -> x.read(x.count(6), 0));
    refused("connectionAt of none, out of range", INDEX, () -> x.connectionAt(x.count(6), 19));
    refused("fileAt of none, out of range", INDEX, () -> x.fileAt(x.count(8), 3));
    refused("servedAt of none, out of range", INDEX, () -> x.servedAt(x.count(10), 7));
  }

  /** IllegalStateException as it is told; on the busy object. */
  private void states() {
    x.clear();
    x.put('a', 101);
    refused("a tape of 401", STATE, () -> x.put('a', 300));
    x.clear();
    w.type("abc");
    refused("another host's name", STATE, () -> x.name(2));
    for (String text : new String[] {"", ".", "a.", "A", "aaaaaaaaaaaaaaaaaaaaa", "a.b.c.d.e.f"}) {
      x.clear();
      w.type(text);
      refused("name " + text, STATE, () -> x.name(1));
      refused("lookUp " + text, STATE, () -> x.lookUp(1));
      refused("no host ahead of no name", INDEX, () -> x.name(9));
      refused("the server ahead of no name", ARGUMENT, () -> x.lookUp(0));
    }
    Check.due("this one has an answer", x.found(0), 1);
    refused("askAgain of one with an answer", STATE, () -> x.askAgain(0));
    closings();
  }

  private void closings() {
    x.put('a', 1);
    for (int c = 0; c < x.count(6); c++) {
      int connection = c;
      int state = x.connectionAt(c, 0);
      boolean isServers = x.connectionAt(c, 1) == 0;
      boolean isOpen = state == Lanternserver.SYN_SENT || state == Lanternserver.ESTABLISHED
          || state == Lanternserver.CLOSE_WAIT;
      if (isServers) refused("read on the server's " + c, STATE, () -> x.read(connection, 300));
      if (isServers) refused("the argument ahead of the server's " + c, ARGUMENT, () -> x.read(connection, 301));
      if (isServers || !isOpen) refused("write on " + c + " in " + state, STATE, () -> x.write(connection));
      if (isServers || !isOpen) refused("close of " + c + " in " + state, STATE, () -> x.close(connection, false));
      if (isServers || state == 0) refused("abort of " + c + " in " + state, STATE, () -> x.close(connection, true));
    }
  }

  /** On the object of which all has come to its bound. */
  private void fullStates() {
    refused("a sixth host", STATE, () -> x.addHost(100, 40));
    refused("a sixth host of MTU 99", ARGUMENT, () -> x.addHost(99, 40));
    refused("a sixth host of MSS 501", ARGUMENT, () -> x.addHost(100, 501));
    refused("a 401st byte", STATE, () -> x.put(0, 1));
    refused("a 401st byte that is none", ARGUMENT, () -> x.put(256, 1));
    refused("none at the end", ARGUMENT, () -> x.put(1, 0));
    refused("a piece", STATE, () -> x.piece(2));
    refused("a piece that is none", ARGUMENT, () -> x.piece(6));
    refused("a number", STATE, () -> x.type(0, 0, 1L << 56, 0, 0, 0));
    refused("a tick", STATE, () -> x.pass(1));
    refused("101 ticks", ARGUMENT, () -> x.pass(101));
    refused("a tick to settle", STATE, () -> x.settle(1));
    refused("61 ticks to settle", ARGUMENT, () -> x.settle(61));
    refused("an act", STATE, () -> x.play(0, 1));
    refused("201 acts", ARGUMENT, () -> x.play(0, 201));
    refused("a 41st echo", STATE, () -> x.echo(1, 0, 0));
    refused("a 41st echo to itself", ARGUMENT, () -> x.echo(1, 1, 0));
    refused("a 41st echo of 901", ARGUMENT, () -> x.echo(1, 0, 901));
    refused("a 61st connection", STATE, () -> x.connect(1, 0, 80));
    refused("a 61st connection to port 0", ARGUMENT, () -> x.connect(1, 0, 0));
    refused("a name of 300", STATE, () -> x.name(1));
    refused("a lookup of no name", STATE, () -> x.lookUp(1));
    x.clear();
    x.put('a', 1);
    refused("a 41st lookup", STATE, () -> x.lookUp(1));
    refused("a 41st lookup of the server", ARGUMENT, () -> x.lookUp(0));
  }

  /** What is taken at these bounds: the empty thing, and no act at all. */
  private void taken() {
    Check.due("nothing typed", x.type(0, 0, 0, 0, 0, 0), 400);
    Check.due("an empty sum at the end", x.sum(400, 400), 65535);
    Check.due("a full sum", x.sum(0, 400), ~((150 * 0x6161 + 50 * 0x6262) % 65535) & 65535);
    Check.due("frames", x.count(2), 100);
    Check.due("a frame is lost", x.lose(1000), x.frameAt(0, 0));
    Check.due("cleared", x.clear(), 400);
    Check.due("cleared again", x.clear(), 0);
  }

  /** Questions change nothing: one of two objects is asked for all between the calls, and goes on like the other. */
  private static void questions() {
    Watch asked = busy();
    Watch quiet = busy();
    for (int k = 0; k < 30; k++) {
      String first = asked.all();
      Check.dueText("asked twice", asked.all(), first);
      asked.x.play(k, 20);
      quiet.x.play(k, 20);
      asked.x.settle(3);
      quiet.x.settle(3);
    }
    Check.dueText("both are one", asked.all(), quiet.all());
  }

  /** Refused calls leave nothing behind that could be seen later. */
  private static void nothingIsLeft() {
    Watch w = busy();
    Watch quiet = busy();
    RefusalTest test = new RefusalTest(w);
    for (int k = 0; k < 10; k++) {
      test.arguments();
      test.closings();
      w.x.lose(k);
      quiet.x.put('a', 1);
      quiet.x.lose(k);
      w.x.settle(5);
      quiet.x.settle(5);
      for (int c = 0; c < w.x.count(6); c++) {
        if (w.x.connectionAt(c, 1) == 0) continue;
        w.x.read(c, 300);
        quiet.x.read(c, 300);
      }
      Check.dueText("both are one", w.all() + w.mtus(), quiet.all() + quiet.mtus());
    }
  }
}
