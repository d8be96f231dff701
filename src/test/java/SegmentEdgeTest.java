/** The edges that section 7 names, and promises 26 and 27, each under the sentence that names it. */
final class SegmentEdgeTest {
  private static final String GET = "GET /a HTTP/1.1\r\nHost: h\r\n\r\n";

  private SegmentEdgeTest() {}

  public static void main(String[] args) {
    firstNumbers();
    synWithoutBytes();
    numbersGoRound();
    sixHundred();
    threeHundred();
    sixNotClosed();
    sixtyAtTheServer();
    answeredByReset();
    justTheWindow();
    justCwnd();
    finOnce();
    timerFromTheFirst();
    timerStays();
    ninthTime();
    timesWithoutOne();
    sentAgainUpToAnMss();
    finBehindTheOneByte();
    nothingWhenClosed();
    halfOrTwice();
    oneByteIsMeasured();
    lastByteOfTheMeasured();
    rtoAtMost80();
    cwndAtLeast1();
    Check.end();
  }

  private static void is(Watch w, int connection, int what, int due) {
    Check.due("connection " + connection + " " + what, w.x.connectionAt(connection, what), due);
  }

  private static void wire(String what, Watch w, String due) {
    Check.dueText(what, w.wire(), due);
  }

  /** Bytes of a method that no request has; up to 100 of them are not wrong yet. */
  private static String x(int many) {
    return "X".repeat(many);
  }

  private static void loseAll(Watch w) {
    while (w.x.count(2) > 0) w.x.lose(0);
  }

  /** "iss of the connection number n is 4294967096 + 1048583 * n, modulo 2 to the 32. The ports .. 40000 and this". */
  private static void firstNumbers() {
    Watch w = ConnectionTest.known(600, 500);
    for (int n = 0; n < 60; n++) {
      Check.due("number", w.x.connect(1, 0, 1 + n), n);
      long iss = (4294967096L + 1048583L * n) % (1L << 32);
      Check.dueText("port and sequence of " + n, w.hex(n, 34, 36) + " " + w.hex(n, 38, 42),
          String.format("%02x %02x %02x %02x %02x %02x", (40000 + n) >> 8, (40000 + n) & 255, iss >> 24, iss >> 16 & 255,
              iss >> 8 & 255, iss & 255));
      is(w, n, 3, 40000 + n);
    }
    Check.dueText("the lowest port", w.hex(0, 36, 38), "00 01");
    Check.dueText("the datagram, with the protocol 6", w.hex(0, 14, 24), "45 00 00 2c 00 01 00 00 40 06");
  }

  /** "SYN (sequence iss) is sent", and "is sent again": without the bytes that were written ahead of it. */
  private static void synWithoutBytes() {
    Watch w = ConnectionTest.known(600, 300);
    w.x.connect(1, 0, 80);
    w.write(0, "GET");
    w.x.pass(10);
    Check.dueText("the same once more", w.hex(1, 34, 99), w.hex(0, 34, 99));
    Check.due("its length", w.x.frameAt(1, 0), 58);
    Check.due("no byte was sent again", w.x.count(12), 0);
    w.x.lose(0);
    w.x.deliver(0);
    w.x.pass(10);
    Check.dueText("SYN and ACK likewise", w.hex(1, 34, 99), w.hex(0, 34, 99));
    w.x.settle(1);
    Check.dueText("the bytes go then", w.read(1, 0), "GET");
  }

  /** "Sequence numbers are of 32 bits, and go round": those of the first connection do behind 200 bytes. */
  private static void numbersGoRound() {
    Watch w = ConnectionTest.five();
    Check.dueText("the fourth of five goes over", w.hex(3, 38, 42), "ff ff ff e4");
    Check.dueText("the fifth is behind", w.hex(4, 38, 42), "00 00 00 0c");
    for (int k = 4; k > 0; k--) {
      w.x.deliver(k);
      is(w, 1, 6, 52);
      is(w, 1, 13, 5 - k);
    }
    w.x.deliver(0);
    is(w, 1, 6, 252);
    is(w, 1, 13, 0);
    Check.dueText("acknowledged behind it", w.hex(4, 42, 46), "00 00 00 34");
    w.x.deliver(4);
    is(w, 0, 4, 252);
    is(w, 0, 11, 0);
    w.x.deliver(0);
    is(w, 0, 4, 252);
    // Sent again from ahead of it, by the timer.
    w = ConnectionTest.five();
    for (int k = 0; k < 4; k++) w.x.deliver(0);
    w.x.lose(0);
    w.x.settle(1);
    is(w, 0, 4, 212);
    w.x.pass(3);
    Check.dueText("the fifth once more", w.hex(0, 38, 42), "00 00 00 0c");
    w.x.settle(1);
    is(w, 0, 4, 252);
    w.x.close(0, true);
    Check.dueText("RST", w.hex(0, 38, 42), "00 00 00 34");
    w.x.settle(1);
    is(w, 1, 15, Lanternserver.RESET);
    // Only three of five came: una is ahead of it, nxt behind it.
    w = ConnectionTest.five();
    w.x.lose(3);
    w.x.lose(3);
    w.x.settle(1);
    is(w, 0, 4, 172);
    is(w, 0, 5, 252);
    is(w, 0, 11, 80);
    w.x.settle(20);
    is(w, 0, 4, 252);
    Check.due("errors", w.x.errors(), 0);
  }

  /** "bytes that were written and are not acknowledged (up to 600)"; "as many as there is room for". */
  private static void sixHundred() {
    Watch w = ConnectionTest.known(600, 500);
    w.x.connect(1, 0, 80);
    w.x.put('a', 300);
    Check.due("300", w.x.write(0), 300);
    w.x.put('a', 299);
    Check.due("and 299", w.x.write(0), 299);
    is(w, 0, 11, 599);
    w.x.put('b', 1);
    w.x.put('c', 1);
    Check.due("one of two", w.x.write(0), 1);
    Check.due("one is left", w.x.clear(), 1);
    is(w, 0, 11, 600);
    w.x.put('d', 1);
    Check.due("none of one", w.x.write(0), 0);
    Check.due("it is left", w.x.count(15), 1);
    // An acknowledgement makes just as much room.
    Watch v = ConnectionTest.open(40);
    v.x.put('a', 300);
    v.x.write(0);
    v.x.put('a', 300);
    v.x.write(0);
    is(v, 0, 11, 600);
    v.x.deliver(0);
    v.x.deliver(0);
    is(v, 0, 11, 560);
    v.x.clear();
    v.x.put('a', 41);
    Check.due("40 of 41", v.x.write(0), 40);
  }

  /** "bytes that came and were not read (up to 300)"; "Its own window is 300 less the bytes that were not read." */
  private static void threeHundred() {
    Watch w = ConnectionTest.open(300);
    w.write(0, "GET / HTTP/1.0\r\n\r\n");
    w.x.settle(5);
    // The server has written its last answer, and reads no more.
    w.write(0, x(299));
    w.x.deliver(0);
    is(w, 1, 12, 299);
    wire("one byte has room", w, "0>1 A " + w.x.connectionAt(1, 5) + " 318 w1 b0");
    w.x.settle(1);
    is(w, 0, 7, 1);
    w.write(0, "yz");
    wire("just that goes", w, "1>0 A 318 " + w.x.connectionAt(0, 6) + " w" + (300 - w.x.connectionAt(0, 12)) + " b1");
    w.x.settle(1);
    is(w, 1, 12, 300);
    is(w, 0, 7, 0);
    is(w, 0, 11, 1);
  }

  /** "up to 6 connections that are not CLOSED": whatever their states are. */
  private static void sixNotClosed() {
    Watch w = ConnectionTest.known(600, 300);
    for (int k = 0; k < 7; k++) w.x.connect(1, 0, 80);
    for (int k = 0; k < 7; k++) w.x.deliver(0);
    Check.due("seven and six", w.x.count(6), 13);
    for (int k = 7; k < 13; k++) is(w, k, 0, Lanternserver.SYN_RECEIVED);
    Check.dueText("the seventh has no room", w.hex(6, 34, 50), "00 50 9c 46 00 00 00 00 00 5f ff 63 50 14 00 00");
    w.x.settle(1);
    is(w, 6, 15, Lanternserver.REFUSED);
    // TIME_WAIT at the server: it closes first.
    w.write(0, "GET / HTTP/1.0\r\n\r\n");
    w.x.settle(1);
    w.x.close(0, false);
    w.x.settle(1);
    is(w, 7, 0, Lanternserver.TIME_WAIT);
    int refused = w.x.connect(1, 0, 80);
    w.x.settle(1);
    is(w, refused, 15, Lanternserver.REFUSED);
    w.x.pass(39);
    refused = w.x.connect(1, 0, 80);
    w.x.settle(1);
    is(w, refused, 15, Lanternserver.REFUSED);
    w.x.pass(1);
    is(w, 7, 0, Lanternserver.CLOSED);
    int taken = w.x.connect(1, 0, 80);
    w.x.settle(1);
    is(w, taken, 0, Lanternserver.ESTABLISHED);
    Check.due("six again", w.x.count(7), 12);
  }

  /** connect(): "if there are 60 connections"; the server then has no room for another one either. */
  private static void sixtyAtTheServer() {
    Watch w = ConnectionTest.known(600, 300);
    for (int k = 0; k < 59; k++) {
      w.x.connect(1, 0, 80);
      if (k < 58) w.x.lose(0);
    }
    w.x.deliver(0);
    Check.due("the sixtieth is the server's", w.x.count(6), 60);
    is(w, 59, 2, 58);
    Check.noState("there are 60", () -> w.x.connect(1, 0, 80));
    Watch v = ConnectionTest.known(600, 300);
    for (int k = 0; k < 60; k++) {
      v.x.connect(1, 0, 80);
      if (k < 59) v.x.lose(0);
    }
    v.x.deliver(0);
    Check.due("no 61st", v.x.count(6), 60);
    v.x.deliver(0);
    is(v, 59, 15, Lanternserver.REFUSED);
  }

  /** "answered by RST: with the sequence of its acknowledgement ..; otherwise with the sequence 0, ACK ..; the window is 0". */
  private static void answeredByReset() {
    Watch w = ConnectionTest.known(600, 300);
    w.x.connect(1, 0, 65535);
    w.x.deliver(0);
    Check.dueText("to a SYN", w.hex(0, 34, 50), "ff ff 9c 40 00 00 00 00 ff ff ff 39 50 14 00 00");
    Check.dueText("nothing urgent", w.hex(0, 52, 99), "00 00");
    Check.due("its sum", Watch.headedSum(w.bytes(0)), 0);
    Check.due("its length", w.x.frameAt(0, 0), 54);
    Watch v = ConnectionTest.open(300);
    v.write(0, "ABC");
    v.x.twice(0);
    v.x.deliver(0);
    v.x.lose(1);
    v.x.close(0, true);
    v.x.deliver(1);
    is(v, 1, 15, Lanternserver.RESET);
    v.x.deliver(0);
    Check.dueText("to bytes", v.hex(0, 34, 50), "00 50 9c 40 00 0f ff 40 00 00 00 00 50 04 00 00");
    Check.dueText("nothing urgent", v.hex(0, 52, 99), "00 00");
    Check.due("its sum", Watch.headedSum(v.bytes(0)), 0);
    Check.due("counted", v.x.count(13), 1);
    v.x.deliver(0);
    Check.due("RST is not answered", v.x.count(2), 0);
    Check.due("nor counted", v.x.count(13), 1);
  }

  /** "less is under way than the lesser one of the other's window and cwnd"; "PSH, if it has the last byte written". */
  private static void justTheWindow() {
    Watch w = ConnectionTest.open(500);
    is(w, 0, 8, 500);
    w.write(0, x(299));
    wire("299", w, "1>0 PA 1 1 w300 b299");
    w.write(0, "yz");
    wire("one byte more, not the last one", w, "1>0 PA 1 1 w300 b299; 1>0 A 300 1 w300 b1");
    w.write(0, "z");
    Check.due("just the window: no more", w.x.count(2), 2);
    is(w, 0, 5, 301);
    Watch v = ConnectionTest.open(500);
    v.write(0, x(300));
    wire("just the window at once", v, "1>0 PA 1 1 w300 b300");
    Watch u = ConnectionTest.open(500);
    u.write(0, x(301));
    wire("a byte less than was written", u, "1>0 A 1 1 w300 b300");
  }

  private static void justCwnd() {
    Watch w = ConnectionTest.open(40);
    is(w, 0, 8, 40);
    w.write(0, x(39));
    w.write(0, x(2));
    w.write(0, x(1));
    wire("39, and one", w, "1>0 PA 1 1 w300 b39; 1>0 A 40 1 w300 b1");
    Watch v = ConnectionTest.open(40);
    v.write(0, x(40));
    wire("just the MSS", v, "1>0 PA 1 1 w300 b40");
    v.x.settle(1);
    is(v, 0, 8, 80);
    v.write(0, x(81));
    wire("two of them", v, "1>0 A 41 1 w300 b40; 1>0 A 81 1 w300 b40");
    v.x.deliver(0);
    v.x.deliver(1);
    wire("the last byte, as 40 are acknowledged", v, "1>0 A 81 1 w300 b40; 1>0 PA 121 1 w300 b1");
  }

  /** "Behind the last byte, if it was closed, FIN and ACK go once (whatever the windows are)." */
  private static void finOnce() {
    Watch w = ConnectionTest.open(40);
    w.write(0, x(41));
    w.x.close(0, false);
    wire("a byte waits, and FIN behind it", w, "1>0 A 1 1 w300 b40");
    w.x.deliver(0);
    w.x.deliver(0);
    wire("both", w, "1>0 PA 41 1 w300 b1; 1>0 FA 42 1 w300 b0");
    w.x.read(0, 1);
    Check.due("once", w.x.count(2), 2);
    Watch v = ConnectionTest.open(40);
    v.write(0, x(40));
    v.x.close(0, false);
    wire("cwnd is full, FIN goes", v, "1>0 PA 1 1 w300 b40; 1>0 FA 41 1 w300 b0");
    Watch u = ConnectionTest.open(40);
    u.x.close(0, false);
    wire("without a byte", u, "1>0 FA 1 1 w300 b0");
  }

  /** "for rto ticks from when the first of it was sent": what is sent behind it does not matter. */
  private static void timerFromTheFirst() {
    Watch w = ConnectionTest.open(300);
    w.write(0, "abc");
    w.x.pass(6);
    w.write(0, "def");
    w.x.pass(3);
    Check.due("9 ticks", w.x.count(2), 2);
    w.x.pass(1);
    wire("10 ticks: all that was sent", w, "1>0 PA 1 1 w300 b3; 1>0 PA 4 1 w300 b3; 1>0 PA 1 1 w300 b6");
    w.x.pass(19);
    Check.due("19 ticks from when it was sent again", w.x.count(2), 3);
    w.x.pass(1);
    Check.due("20 ticks", w.x.count(2), 4);
    Check.due("bytes sent again", w.x.count(12), 12);
  }

  /** Nor do calls and segments that acknowledge nothing of it. */
  private static void timerStays() {
    // An acknowledgement of the byte ahead is kept on the wire, twice.
    Watch w = ConnectionTest.open(300);
    w.write(0, "G");
    w.x.deliver(0);
    w.x.twice(0);
    w.x.twice(0);
    w.x.deliver(0);
    is(w, 0, 10, 4);
    w.write(0, "ET");
    w.x.lose(2);
    w.x.pass(1);
    w.x.deliver(0);
    w.x.pass(1);
    w.x.deliver(0);
    w.x.read(0, 10);
    w.x.clear();
    w.x.write(0);
    w.x.pass(1);
    Check.due("3 ticks", w.x.count(2), 0);
    w.x.pass(1);
    wire("4 ticks", w, "1>0 PA 2 1 w300 b2");
  }

  /** "at the 9th time without an acknowledgement between, the connection is CLOSED": nothing is sent then. */
  private static void ninthTime() {
    Watch w = ConnectionTest.open(300);
    w.write(0, "abcde");
    int[] ticks = {10, 20, 40, 80, 80, 80, 80, 80, 80};
    int spent = 0;
    for (int k = 0; k < 9; k++) {
      loseAll(w);
      for (int n = 0; n < ticks[k] - 1; n++) {
        w.x.pass(1);
        // The server's patience ends on the way.
        loseAll(w);
      }
      is(w, 0, 16, k);
      w.x.pass(1);
      spent += ticks[k];
      is(w, 0, 16, k + 1);
      is(w, 0, 10, k < 3 ? ticks[k + 1] : 80);
      Check.due("sent again, but at the ninth", w.x.count(12), 5 * Math.min(8, k + 1));
    }
    Check.due("ticks in all", spent, 550);
    Check.due("nothing is sent at the ninth", w.x.count(2), 0);
    is(w, 0, 0, Lanternserver.CLOSED);
    is(w, 0, 15, Lanternserver.GIVEN_UP);
    is(w, 0, 11, 5);
    w.x.pass(100);
    Check.due("nor behind it", w.x.count(2), 0);
    is(w, 0, 16, 9);
  }

  /** "With each acknowledgement that is una or more the times without one are 0": not by one that is less. */
  private static void timesWithoutOne() {
    for (int old = 0; old < 2; old++) {
      Watch w = ConnectionTest.open(300);
      w.write(0, "G");
      w.x.deliver(0);
      w.x.twice(0);
      w.x.deliver(1);
      // On the wire: an acknowledgement of G.
      if (old == 1) {
        w.write(0, "E");
        w.x.deliver(1);
        w.x.deliver(1);
        is(w, 0, 4, 3);
      }
      w.write(0, "TTT");
      while (w.x.connectionAt(0, 16) < 8) {
        while (w.x.count(2) > 1) w.x.lose(1);
        w.x.pass(1);
      }
      while (w.x.count(2) > 1) w.x.lose(1);
      w.x.deliver(0);
      is(w, 0, 16, old == 1 ? 8 : 0);
      w.x.pass(80);
      is(w, 0, 16, old == 1 ? 9 : 1);
      is(w, 0, 0, old == 1 ? Lanternserver.CLOSED : Lanternserver.ESTABLISHED);
    }
  }

  /** "up to an MSS of bytes that were sent, with PSH likewise". */
  private static void sentAgainUpToAnMss() {
    Watch w = ConnectionTest.open(40);
    for (int k = 0; k < 3; k++) w.write(0, x(15));
    wire("15, 15 and 10", w, "1>0 PA 1 1 w300 b15; 1>0 PA 16 1 w300 b15; 1>0 A 31 1 w300 b10");
    loseAll(w);
    w.x.pass(10);
    wire("40 of 45", w, "1>0 A 1 1 w300 b40");
    Check.due("bytes sent again", w.x.count(12), 40);
    Watch v = ConnectionTest.open(40);
    v.write(0, x(15));
    v.write(0, x(25));
    loseAll(v);
    v.x.pass(10);
    wire("40 of 40", v, "1>0 PA 1 1 w300 b40");
    Watch u = ConnectionTest.begun(40);
    u.write(0, x(41));
    loseAll(u);
    u.x.pass(4);
    wire("40 of 41", u, "1>0 A 50 1 w300 b40");
    u.x.settle(1);
    u.x.pass(8);
    wire("the last one", u, "1>0 PA 90 1 w300 b1");
    // What was not sent is not sent again: a byte beyond the window is, and no other that waits.
    Watch t = ConnectionTest.full(1);
    t.x.pass(4);
    loseAll(t);
    t.x.pass(4);
    Check.due("one byte of 52", t.x.frameAt(0, 0), 54 + 1);
    Check.due("bytes sent again", t.x.count(12), 1);
  }

  /** Client whose last byte waits for a window of 0, and whose FIN waits for that. */
  static Watch lastByteWaits() {
    Watch w = ConnectionTest.known(600, 300);
    w.x.connect(1, 0, 80);
    w.x.deliver(0);
    // A SYN and ACK is kept on the wire.
    w.x.twice(0);
    others(w);
    w.write(0, "GET / HTTP/1.0\r\n\r\n");
    others(w);
    w.write(0, x(300));
    others(w);
    w.write(0, "a");
    w.x.close(0, false);
    return w;
  }

  /** Delivers all frames but the first one. */
  static void others(Watch w) {
    while (w.x.count(2) > 1) w.x.deliver(1);
  }

  /** "when it is over one byte is sent"; FIN behind it goes "whenever something comes in, is written or read". */
  private static void finBehindTheOneByte() {
    Watch w = lastByteWaits();
    is(w, 0, 0, Lanternserver.LAST_ACK);
    is(w, 0, 7, 0);
    Check.due("nothing goes", w.x.count(2), 1);
    w.x.pass(w.x.connectionAt(0, 10));
    Check.isTrue("the byte", w.frame(1).startsWith("1>0 PA 319 "));
    Check.due("and no FIN at the tick", w.x.count(2), 2);
    w.x.read(0, 1);
    Check.due("but as something is read", w.x.count(2), 3);
    Check.isTrue("FIN", w.frame(2).startsWith("1>0 FA 320 "));
    w.x.read(0, 1);
    Check.due("once", w.x.count(2), 3);
  }

  /** "That is done in the states ESTABLISHED, ..": when it is CLOSED, FIN that could go does not. */
  private static void nothingWhenClosed() {
    Watch w = lastByteWaits();
    w.x.pass(w.x.connectionAt(0, 10));
    Check.due("the byte", w.x.count(2), 2);
    w.x.close(0, true);
    Check.due("RST alone", w.x.count(2), 3);
    Check.isTrue("behind the byte", w.frame(2).startsWith("1>0 RA 320 "));
    w.x.read(0, 300);
    Check.due("nothing by reading", w.x.count(2), 3);
    w.x.pass(100);
    Check.due("nothing by time", w.x.count(2), 3);
  }

  /** "the threshold becomes the greater one of half of what is under way and twice the MSS" (cut): 80 and 81. */
  private static void halfOrTwice() {
    int[] underWay = {1, 159, 160, 161, 162, 163, 164, 199, 200};
    for (int many : underWay) {
      Watch w = ConnectionTest.begun(40);
      for (int k = 0; k < 2; k++) {
        w.write(0, "a");
        w.x.settle(1);
      }
      w.write(0, x(many));
      loseAll(w);
      is(w, 0, 8, 200);
      w.x.pass(4);
      is(w, 0, 9, Math.max(80, many / 2));
      is(w, 0, 8, 40);
      // At the third double likewise, with cwnd as the threshold.
      w = ConnectionTest.begun(40);
      for (int k = 0; k < 2; k++) {
        w.write(0, "a");
        if (k == 0) w.x.settle(1);
      }
      w.x.deliver(0);
      for (int k = 0; k < 4; k++) w.x.twice(0);
      w.x.deliver(0);
      w.write(0, x(many));
      while (w.x.count(2) > 4) w.x.lose(4);
      for (int k = 0; k < 3; k++) w.x.deliver(0);
      is(w, 0, 9, Math.max(80, many / 2));
      is(w, 0, 8, Math.max(80, many / 2));
    }
  }

  /** "the first one with bytes that is sent when none is, also that one byte". */
  private static void oneByteIsMeasured() {
    Watch w = ConnectionTest.begun(300);
    w.write(0, x(300));
    while (w.x.count(10) == 0) w.x.deliver(0);
    // The first segment with bytes of the server's is its answer: 9 ticks.
    w.x.pass(9);
    while (w.x.count(2) > 0) w.x.deliver(0);
    is(w, 1, 10, 9 + 18);
    w.x.read(0, 300);
    w.write(0, GET);
    while (w.x.count(2) > 0) w.x.deliver(0);
    // 300 of 352 were measured with 0: d is -9, s 63, v 23.
    is(w, 1, 10, 7 + 23);
    is(w, 1, 7, 0);
    w.x.pass(29);
    Check.due("29 ticks", w.x.count(2), 0);
    w.x.pass(1);
    Check.due("the byte", w.x.frameAt(0, 0), 55);
    w.x.read(0, 300);
    w.x.pass(20);
    while (w.x.count(2) > 0) w.x.deliver(0);
    // 20: d is 13, s 76, v 31.
    is(w, 1, 10, 9 + 31);
  }

  /** "when its last byte is acknowledged": an acknowledgement of what is ahead of it does not end the measuring. */
  private static void lastByteOfTheMeasured() {
    Watch w = ConnectionTest.begun(300);
    w.write(0, x(10));
    w.write(0, x(20));
    // The first one is measured with 0 ticks; then the third, while the second is under way.
    w.x.deliver(0);
    w.x.deliver(1);
    is(w, 0, 4, 60);
    is(w, 0, 10, 4);
    w.write(0, x(30));
    w.x.pass(1);
    w.x.deliver(0);
    w.x.deliver(1);
    is(w, 0, 4, 80);
    w.x.pass(3);
    w.x.deliver(0);
    w.x.deliver(0);
    is(w, 0, 4, 110);
    // 4 ticks: s and v were 0, and are 4 now; 1 tick would have made them 1, which the next ones show.
    is(w, 0, 10, 4);
    int smooth = 4;
    int spread = 4;
    for (int k = 0; k < 3; k++) {
      w.write(0, "a");
      w.x.pass(3);
      w.x.deliver(0);
      w.x.deliver(0);
      int off = 3 - smooth / 8;
      smooth += off;
      spread += off - spread / 4;
      is(w, 0, 10, Math.max(4, smooth / 8 + spread));
    }
    is(w, 0, 10, 9);
  }

  /** "rto becomes the lesser one of 80 and the greater one of 4 and s / 8 + v". */
  private static void rtoAtMost80() {
    Watch w = ConnectionTest.open(300);
    w.write(0, "PUT /a HTTP/1.1\r\nHost: h\r\nContent-Length: 300\r\n\r\n");
    int[] ticks = {9, 26, 41, 67, 79};
    int[] due = {9 + 18, 11 + 31, 14 + 54, 80, 80};
    for (int k = 0; k < ticks.length; k++) {
      if (k > 0) w.write(0, "a");
      w.x.pass(ticks[k]);
      Check.due("not sent again", w.x.count(2), 1);
      w.x.settle(1);
      is(w, 0, 10, due[k]);
    }
    Watch v = ConnectionTest.begun(300);
    is(v, 0, 10, 4);
    v.write(0, "a");
    v.x.settle(1);
    is(v, 0, 10, 4);
  }

  /** "otherwise by MSS * MSS / cwnd, at least 1, at most up to 2000". */
  private static void cwndAtLeast1() {
    Watch w = ConnectionTest.begun(40);
    w.write(0, x(300));
    w.x.settle(20);
    while (w.x.read(0, 300) > 0) w.x.settle(20);
    // Behind something lost the threshold is low.
    w.write(0, GET);
    w.x.deliver(0);
    loseAll(w);
    w.x.pass(4);
    w.x.settle(20);
    w.x.read(0, 300);
    w.x.settle(20);
    Check.isTrue("threshold", w.x.connectionAt(1, 9) <= 300);
    int most = 0;
    int least = 99;
    int before = w.x.connectionAt(1, 8);
    for (int k = 0; k < 400 && before < 2000; k++) {
      w.write(0, GET.repeat(10));
      for (int n = 0; n < 40; n++) {
        for (int frames = 0; w.x.count(2) > 0 && frames < 100; frames++) {
          w.x.deliver(0);
          int now = w.x.connectionAt(1, 8);
          int due = before < w.x.connectionAt(1, 9) ? 40 : Math.max(1, 1600 / before);
          if (now == before) continue;
          Check.due("cwnd behind " + before, now, Math.min(2000, before + due));
          if (before > 1600) least = Math.min(least, now - before);
          before = now;
          most = Math.max(most, now);
        }
        if (w.x.read(0, 300) < 1) break;
      }
    }
    Check.due("at most", most, 2000);
    Check.due("at least", least, 1);
    Check.due("no more", w.x.connectionAt(1, 8), 2000);
  }
}
