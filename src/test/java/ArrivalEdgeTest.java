/** The edges that section 8 names, and promises 28 to 31, each under the sentence that names it. */
final class ArrivalEdgeTest {
  private static final String LIST = "GET / HTTP/1.1\r\nHost:\r\n\r\n", LAST = "GET / HTTP/1.0\r\n\r\n";
  private static final String GET = "GET /a HTTP/1.1\r\nHost: h\r\n\r\n";

  private ArrivalEdgeTest() {}

  public static void main(String[] args) {
    resetWhileAsking();
    synIsAll();
    resetIsAll();
    resetBesideRcv();
    resetWhileWaiting();
    doublesWithoutBytes();
    doublesWithoutFin();
    doublesWithoutOneByte();
    doublesOfSomethingUnderWay();
    doublesOfNothingNew();
    doublesBehindOthers();
    windowOfAnOlderSequence();
    windowOfTheSameSequence();
    upToTheWindow();
    fromRcvOn();
    thoseThatBeginFirst();
    whatLiesBehind();
    sixPieces();
    finInItsTurn();
    fortyTicks();
    below60();
    readWhenClosed();
    eachState();
    patienceWithOpenOnes();
    timerAheadOfPatience();
    tableAheadOfTheTimer();
    cwndByFin();
    readings();
    otherEnds();
    Check.end();
  }

  private static void is(Watch w, int connection, int what, int due) {
    Check.due("connection " + connection + " " + what, w.x.connectionAt(connection, what), due);
  }

  private static void frames(String what, Watch w, int due) {
    Check.due(what, w.x.count(2), due);
  }

  private static void deliverAll(Watch w) {
    while (w.x.count(2) > 0) w.x.deliver(0);
  }

  private static void loseAll(Watch w) {
    while (w.x.count(2) > 0) w.x.lose(0);
  }

  private static String x(int many) {
    return "x".repeat(many);
  }

  /** "SYN_SENT: .. With RST: if it has ACK, the connection is CLOSED, it was REFUSED": by a server that has no patience. */
  private static void resetWhileAsking() {
    Watch w = ConnectionTest.known(600, 300);
    w.x.connect(1, 0, 80);
    w.x.deliver(0);
    for (int k = 0; k < 399; k++) {
      loseAll(w);
      w.x.pass(1);
    }
    is(w, 1, 0, Lanternserver.SYN_RECEIVED);
    loseAll(w);
    w.x.pass(1);
    is(w, 1, 15, Lanternserver.ABORTED);
    // Both tables are empty by now: the RST waits, and SYNs of the client's, which are lost.
    Check.dueText("a question ahead of the RST", w.wire(), "0>* asks 1");
    w.x.deliver(0);
    while (w.x.count(2) > 1) w.x.lose(0);
    w.x.deliver(0);
    while (w.x.count(2) > 1) w.x.lose(0);
    Check.isTrue("RST", w.frame(0).startsWith("0>1 RA "));
    w.x.deliver(0);
    is(w, 0, 0, Lanternserver.CLOSED);
    is(w, 0, 15, Lanternserver.REFUSED);
    is(w, 0, 2, -1);
    frames("no answer", w, 0);
  }

  /** "SYN: .. otherwise ACK is sent; that is all": FIN that could go waits for what comes next. */
  private static void synIsAll() {
    Watch w = SegmentEdgeTest.lastByteWaits();
    w.x.pass(w.x.connectionAt(0, 10));
    frames("SYN and ACK, and the byte", w, 2);
    int times = w.x.connectionAt(0, 6);
    w.x.deliver(0);
    Check.dueText("ACK alone", w.wire(), w.frame(0) + "; 1>0 A 320 " + times + " w" + (300 - w.x.connectionAt(0, 12))
        + " b0");
    w.x.lose(0);
    w.x.clear();
    Check.noState("it was closed", () -> w.x.write(0));
    frames("nothing by a call that is refused", w, 1);
    w.x.read(0, 300);
    Check.isTrue("FIN", w.frame(1).startsWith("1>0 FA 320 "));
  }

  /** "RST: with the sequence rcv .. RESET; otherwise nothing; that is all": its acknowledgement does not count either. */
  private static void resetIsAll() {
    Watch w = ConnectionTest.open(300);
    w.write(0, LIST);
    w.x.deliver(0);
    w.x.deliver(0);
    w.x.deliver(0);
    frames("the client's ACK", w, 1);
    w.x.lose(0);
    w.write(0, "G");
    w.x.lose(0);
    int nxt = w.x.connectionAt(1, 5);
    w.x.close(0, true);
    w.x.deliver(0);
    is(w, 1, 0, Lanternserver.ESTABLISHED);
    is(w, 1, 15, 0);
    is(w, 1, 4, 1);
    is(w, 1, 5, nxt);
    frames("no answer", w, 0);
    Check.due("none by RST", w.x.count(13), 0);
  }

  /** "with the sequence rcv": one more, as the server has sent a byte beyond the window, does nothing; FIN waits on. */
  private static void resetBesideRcv() {
    Watch w = ConnectionTest.full(0);
    // Three requests are served, 300 bytes wait to be read by the server, and one byte at the client.
    w.write(0, GET.repeat(13) + GET.substring(0, 21));
    deliverAll(w);
    is(w, 1, 12, 300);
    is(w, 0, 12, 300);
    is(w, 0, 11, 1);
    is(w, 0, 4, w.x.connectionAt(0, 5));
    Check.due("it waits for the byte", w.x.close(0, false), Lanternserver.FIN_WAIT_1);
    frames("FIN waits", w, 0);
    for (int k = 0; k < 450 && w.x.connectionAt(1, 0) != Lanternserver.CLOSED; k++) {
      loseAll(w);
      w.x.pass(1);
    }
    is(w, 1, 15, Lanternserver.ABORTED);
    Check.dueText("a question ahead of the RST", w.wire(), "0>* asks 1");
    w.x.deliver(0);
    while (w.x.count(2) > 1) w.x.lose(0);
    w.x.deliver(0);
    while (w.x.count(2) > 1) w.x.lose(0);
    Check.isTrue("RST of what comes behind the byte", w.frame(0).startsWith("0>1 RA " + (w.x.connectionAt(0, 6) + 1)));
    w.x.deliver(0);
    is(w, 0, 0, Lanternserver.FIN_WAIT_1);
    is(w, 0, 15, 0);
    frames("nothing is sent", w, 0);
    w.x.read(0, 1);
    frames("FIN, as something is read", w, 1);
    Check.isTrue("FIN", w.frame(0).startsWith("1>0 FA "));
  }

  /** Likewise in TIME_WAIT: the server is CLOSED, and answers what the client says to a FIN that comes again. */
  private static void resetWhileWaiting() {
    Watch w = ConnectionTest.open(300);
    w.x.close(0, false);
    w.x.deliver(0);
    w.x.deliver(0);
    w.x.twice(0);
    w.x.deliver(0);
    w.x.deliver(1);
    is(w, 1, 0, Lanternserver.CLOSED);
    is(w, 0, 0, Lanternserver.TIME_WAIT);
    w.x.deliver(0);
    is(w, 0, 0, Lanternserver.TIME_WAIT);
    w.x.deliver(0);
    Check.due("answered by RST", w.x.count(13), 1);
    w.x.deliver(0);
    is(w, 0, 0, Lanternserver.CLOSED);
    is(w, 0, 15, Lanternserver.RESET);
    is(w, 1, 15, 0);
  }

  /** Client of MSS 40 with a file of 300 at the server, whose cwnd lets more than 300 go; nothing is under way. */
  private static Watch quick() {
    Watch w = ConnectionTest.begun(40);
    w.write(0, x(300));
    w.x.settle(20);
    while (w.x.read(0, 300) > 0) w.x.settle(20);
    w.write(0, GET);
    do deliverAll(w);
    while (w.x.read(0, 300) > 0);
    is(w, 1, 11, 0);
    Check.isTrue("cwnd", w.x.connectionAt(1, 8) > 400);
    return w;
  }

  /** "If it is una, the segment has no bytes, SYN and FIN, something is under way, and the window is as it was". */
  private static void doublesWithoutBytes() {
    Watch w = quick();
    w.write(0, GET);
    w.x.deliver(0);
    w.x.deliver(0);
    int again = w.x.count(12);
    is(w, 0, 4, w.x.connectionAt(0, 5));
    w.write(0, "H");
    w.x.lose(w.x.count(2) - 1);
    frames("segments with bytes", w, 8);
    for (int k = 0; k < 8; k++) {
      w.x.deliver(0);
      Check.due("none of them is a double", w.x.count(12), again);
    }
    is(w, 0, 7, 300);
    is(w, 0, 12, 300);
    // One without bytes, three times, is.
    loseAll(w);
    w.x.read(0, 300);
    w.x.lose(0);
    w.write(0, "E");
    w.x.deliver(0);
    while (w.x.count(2) > 1) w.x.lose(1);
    for (int k = 0; k < 2; k++) w.x.twice(0);
    for (int k = 0; k < 3; k++) {
      Check.due("not yet", w.x.count(12), again);
      w.x.deliver(0);
    }
    Check.due("sent again: both bytes", w.x.count(12), again + 2);
  }

  private static void doublesWithoutFin() {
    Watch w = ConnectionTest.open(300);
    w.write(0, LAST);
    w.x.deliver(0);
    w.x.deliver(0);
    w.x.deliver(0);
    Check.isTrue("FIN", w.frame(0).startsWith("0>1 FA "));
    w.x.lose(1);
    w.write(0, "H");
    w.x.lose(1);
    is(w, 0, 7, 300);
    for (int k = 0; k < 4; k++) w.x.twice(0);
    for (int k = 0; k < 5; k++) w.x.deliver(0);
    is(w, 0, 0, Lanternserver.CLOSE_WAIT);
    Check.due("no double", w.x.count(12), 0);
  }

  /** Likewise: a segment with one byte has bytes. */
  private static void doublesWithoutOneByte() {
    Watch w = ConnectionTest.full(1);
    w.x.pass(4);
    Check.due("the one byte beyond the window", w.x.frameAt(0, 0), 55);
    w.write(0, "H");
    w.x.lose(1);
    for (int k = 0; k < 4; k++) w.x.twice(0);
    for (int k = 0; k < 5; k++) w.x.deliver(0);
    is(w, 0, 7, 300);
    Check.due("no double", w.x.count(12), 0);
    is(w, 0, 9, 2000);
  }

  private static void doublesOfSomethingUnderWay() {
    for (int early = 0; early < 5; early++) {
      Watch w = ConnectionTest.open(300);
      w.write(0, "G");
      w.x.deliver(0);
      for (int k = 0; k < 7; k++) w.x.twice(0);
      // One that is new, and some while nothing is under way.
      for (int k = 0; k <= early; k++) w.x.deliver(0);
      is(w, 0, 7, 299);
      is(w, 0, 4, 2);
      is(w, 0, 9, 2000);
      is(w, 0, 8, 600);
      w.write(0, "E");
      w.x.deliver(0);
      w.x.deliver(0);
      Check.due("two have something under way", w.x.count(12), 0);
      w.x.deliver(0);
      Check.due("three have", w.x.count(12), 1);
      is(w, 0, 8, 600);
      is(w, 0, 9, 600);
    }
  }

  /** Client of MSS 40 whose third of seven segments is lost, with what the server says to the others. */
  private static Watch thirdOfSeven() {
    Watch w = ConnectionTest.begun(40);
    for (int k = 0; k < 5; k++) {
      w.write(0, "a");
      w.x.settle(1);
    }
    w.write(0, x(280));
    frames("seven", w, 7);
    w.x.lose(2);
    for (int k = 0; k < 6; k++) w.x.deliver(0);
    Check.dueText("six acknowledgements", w.wire(), "0>1 A 1 95 w260 b0; 0>1 A 1 135 w260 b0; 0>1 A 1 135 w300 b0;"
        + " 0>1 A 1 135 w300 b0; 0>1 A 1 135 w300 b0; 0>1 A 1 135 w300 b0");
    return w;
  }

  /** "If una is ahead of it: .. If it is una ..": one that acknowledges something new is no double, whatever its window. */
  private static void doublesOfNothingNew() {
    Watch w = thirdOfSeven();
    int[] again = {0, 0, 0, 0, 0, 40};
    for (int k = 0; k < 6; k++) {
      w.x.deliver(0);
      Check.due("sent again behind " + k, w.x.count(12), again[k]);
    }
  }

  /** "doubles are 0 again (by this alone)": not by one that acknowledges less, nor by another window. */
  private static void doublesBehindOthers() {
    Watch w = thirdOfSeven();
    w.x.twice(0);
    for (int k = 0; k < 5; k++) w.x.deliver(0);
    Check.due("two doubles", w.x.count(12), 0);
    w.x.deliver(1);
    Check.due("an old one", w.x.count(12), 0);
    w.x.deliver(0);
    Check.due("the third double", w.x.count(12), 40);
    is(w, 0, 9, 100);
    is(w, 0, 8, 100);
    w.x.settle(1);
    is(w, 0, 11, 0);
  }

  /** "The window .. is known, if the sequence by which it was told last is ahead of the segment's, or it is the same ..". */
  private static void windowOfAnOlderSequence() {
    Watch w = ConnectionTest.open(300);
    w.write(0, LIST);
    w.x.settle(1);
    is(w, 0, 12, 50);
    w.write(0, "G");
    w.x.lose(0);
    w.write(0, "E");
    w.x.deliver(0);
    is(w, 1, 7, 250);
    w.x.lose(0);
    w.x.read(0, 300);
    frames("no ACK", w, 0);
    w.x.pass(4);
    Check.isTrue("sent again with the window of now", w.frame(0).endsWith(" w300 b2"));
    w.x.deliver(0);
    is(w, 1, 6, 28);
    is(w, 1, 7, 250);
    w.x.settle(1);
    w.write(0, "T");
    w.x.deliver(0);
    is(w, 1, 7, 300);
  }

  private static void windowOfTheSameSequence() {
    // The same sequence and acknowledgement, and another window: known. The same and an older acknowledgement: not.
    Watch w = ConnectionTest.full(1);
    w.x.read(0, 60);
    w.x.twice(0);
    w.x.read(0, 1);
    w.x.deliver(0);
    is(w, 1, 7, 60);
    w = ConnectionTest.begun(40);
    w.write(0, x(80));
    w.x.deliver(0);
    w.x.deliver(0);
    Check.dueText("both", w.wire(), "0>1 A 1 90 w260 b0; 0>1 A 1 130 w260 b0");
    w.x.twice(0);
    w.x.deliver(1);
    w.write(0, "b");
    w.x.deliver(2);
    w.x.deliver(2);
    is(w, 0, 7, 299);
    w.x.deliver(0);
    w.x.deliver(0);
    is(w, 0, 7, 299);
  }

  /** Server that takes the client's window for 300, where it is 50; of its next segments only 50 bytes count. */
  private static Watch narrow() {
    Watch w = quick();
    w.write(0, GET + GET);
    w.x.deliver(1);
    w.x.deliver(0);
    while (w.frame(0).endsWith(" b0")) w.x.deliver(0);
    is(w, 0, 4, w.x.connectionAt(0, 5));
    w.write(0, "G");
    w.x.lose(w.x.count(2) - 1);
    w.write(0, "E");
    w.x.deliver(w.x.count(2) - 1);
    w.x.lose(w.x.count(2) - 1);
    is(w, 1, 7, 300);
    int bytes = 0;
    while (bytes < 300) {
      bytes += w.x.frameAt(0, 0) - 54;
      w.x.deliver(0);
    }
    loseAll(w);
    w.x.read(0, 50);
    frames("no ACK", w, 0);
    while (w.x.count(2) == 0 || !w.frame(w.x.count(2) - 1).startsWith("1>0")) w.x.pass(1);
    Check.isTrue("the window of now", w.frame(w.x.count(2) - 1).endsWith(" w50 b2"));
    w.x.deliver(w.x.count(2) - 1);
    is(w, 1, 7, 300);
    while (!w.frame(0).contains(" " + w.x.connectionAt(1, 4) + " ")) w.x.lose(0);
    return w;
  }

  /** "those from rcv on, up to rcv and the own window of now". */
  private static void upToTheWindow() {
    for (int first = 0; first < 2; first++) {
      Watch w = narrow();
      int rcv = w.x.connectionAt(0, 6);
      while (w.frame(0).endsWith(" b0")) w.x.lose(0);
      Check.due("two of 40", w.x.frameAt(0, 0) + w.x.frameAt(1, 0), 94 + 94);
      w.x.deliver(first);
      is(w, 0, 6, first == 0 ? rcv + 40 : rcv);
      is(w, 0, 13, first);
      w.x.deliver(0);
      is(w, 0, 6, rcv + 50);
      is(w, 0, 13, 0);
      is(w, 0, 12, 300);
      for (int k = 0; k < 9; k++) {
        w.x.settle(20);
        w.x.read(0, 300);
      }
      is(w, 1, 11, 0);
      Check.due("errors", w.x.errors(), 0);
      Check.isTrue("two whole answers", w.read(0, 0).endsWith(w.answer(2) + w.answer(3)));
    }
  }

  /** "those from rcv on .. if they begin at rcv or ahead of it": a part of them came before. */
  private static void fromRcvOn() {
    Watch w = ConnectionTest.open(300);
    w.write(0, "G");
    w.x.deliver(0);
    w.x.lose(0);
    w.write(0, "E");
    w.x.lose(0);
    w.x.pass(10);
    Check.dueText("both again", w.wire(), "1>0 PA 1 1 w300 b2");
    w.x.deliver(0);
    is(w, 1, 6, 3);
    is(w, 1, 13, 0);
    Check.dueText("both, once", w.read(1, 0), "GE");
    Check.dueText("acknowledged", w.wire(), "0>1 A 1 3 w299 b0");
    // All of them came before.
    w.x.lose(0);
    w.x.pass(20);
    w.x.deliver(0);
    is(w, 1, 6, 3);
    Check.dueText("once more", w.wire(), "0>1 A 1 3 w300 b0");
  }

  /** "(those that begin first go first ..)", whatever the order in which they came. */
  private static void thoseThatBeginFirst() {
    int[][] orders = {{3, 2, 1, 0}, {1, 1, 1, 0}, {2, 2, 1, 0}, {1, 2, 1, 0}, {3, 1, 1, 0}, {2, 1, 1, 0}};
    for (int[] order : orders) {
      Watch w = ConnectionTest.open(300);
      for (char sign : "GETS".toCharArray()) w.write(0, String.valueOf(sign));
      frames("four of one byte", w, 4);
      for (int k = 0; k < 3; k++) {
        w.x.deliver(order[k]);
        is(w, 1, 13, k + 1);
        is(w, 1, 6, 1);
      }
      w.x.deliver(0);
      is(w, 1, 13, 0);
      is(w, 1, 6, 5);
      Check.dueText("in order", w.read(1, 0), "GETS");
    }
  }

  /** "what lies behind rcv whole goes": a piece all of which came otherwise; one that is ahead of its turn stays. */
  private static void whatLiesBehind() {
    Watch w = ConnectionTest.open(300);
    for (char sign : "GETS".toCharArray()) w.write(0, String.valueOf(sign));
    w.x.deliver(1);
    w.x.deliver(2);
    is(w, 1, 13, 2);
    w.x.deliver(0);
    is(w, 1, 6, 3);
    is(w, 1, 13, 1);
    w.x.deliver(0);
    is(w, 1, 6, 5);
    is(w, 1, 13, 0);
    w = ConnectionTest.open(300);
    for (char sign : "GETS".toCharArray()) w.write(0, String.valueOf(sign));
    w.x.deliver(1);
    is(w, 1, 13, 1);
    loseAll(w);
    w.x.pass(10);
    Check.dueText("all again", w.wire(), "1>0 PA 1 1 w300 b4");
    w.x.deliver(0);
    is(w, 1, 6, 5);
    is(w, 1, 13, 0);
    Check.dueText("each byte once", w.read(1, 0), "GETS");
  }

  /** "otherwise kept as a piece (without a FIN; up to 6; a 7th is thrown away)". */
  private static void sixPieces() {
    Watch w = ConnectionTest.open(300);
    for (char sign : "OPTIONSX".toCharArray()) w.write(0, String.valueOf(sign));
    for (int k = 1; k < 7; k++) {
      w.x.deliver(1);
      is(w, 1, 13, k);
    }
    w.x.deliver(1);
    is(w, 1, 13, 6);
    w.x.deliver(0);
    is(w, 1, 13, 0);
    is(w, 1, 6, 8);
    Check.dueText("the eighth byte is not there", w.read(1, 0), "OPTIONS");
    loseAll(w);
    w.x.close(0, false);
    w.x.deliver(0);
    is(w, 1, 13, 0);
    is(w, 1, 0, Lanternserver.ESTABLISHED);
  }

  /** "FIN counts when all ahead of it has come, as its segment is looked at": not later, but if it comes again. */
  private static void finInItsTurn() {
    Watch w = ConnectionTest.open(300);
    w.write(0, "G");
    w.x.close(0, false);
    w.x.twice(1);
    w.x.deliver(1);
    is(w, 1, 0, Lanternserver.ESTABLISHED);
    is(w, 1, 6, 1);
    w.x.deliver(0);
    is(w, 1, 0, Lanternserver.ESTABLISHED);
    is(w, 1, 6, 2);
    is(w, 1, 18, 0);
    w.x.deliver(0);
    is(w, 1, 6, 3);
    is(w, 1, 18, 1);
    is(w, 1, 0, Lanternserver.LAST_ACK);
  }

  /** "TIME_WAIT (for 40 ticks, then CLOSED; again from a FIN that comes again)": not by other segments. */
  private static void fortyTicks() {
    for (int again = 0; again < 2; again++) {
      Watch w = ConnectionTest.open(300);
      w.x.close(0, false);
      w.x.deliver(0);
      w.x.twice(0);
      w.x.deliver(0);
      w.x.twice(0);
      w.x.deliver(0);
      is(w, 0, 0, Lanternserver.TIME_WAIT);
      Check.isTrue("FIN is acknowledged", w.frame(2).startsWith("1>0 A "));
      w.x.lose(2);
      w.x.pass(1);
      // On the wire: an ACK and a FIN of the server's.
      w.x.deliver(again);
      frames("FIN alone is answered", w, 1 + again);
      loseAll(w);
      for (int k = 0; k < 38; k++) {
        w.x.pass(1);
        loseAll(w);
      }
      is(w, 0, 0, Lanternserver.TIME_WAIT);
      w.x.pass(1);
      is(w, 0, 0, again == 0 ? Lanternserver.CLOSED : Lanternserver.TIME_WAIT);
      loseAll(w);
      w.x.pass(1);
      is(w, 0, 0, Lanternserver.CLOSED);
      is(w, 0, 15, 0);
    }
  }

  /** "if the own window was below 60 ahead of it, and is not behind it, ACK is sent". */
  private static void below60() {
    int[] before = {59, 60, 61, 58, 0};
    for (int window : before) {
      Watch w = ConnectionTest.full(1);
      loseAll(w);
      if (window > 0) w.x.read(0, window);
      boolean wasTold = window >= 60;
      frames("window " + window, w, wasTold ? 1 : 0);
      loseAll(w);
      w.x.read(0, 1);
      frames("a byte behind " + window, w, window == 59 ? 1 : 0);
      loseAll(w);
      w.x.read(0, 300);
      frames("all behind " + window, w, window + 1 < 60 ? 1 : 0);
    }
  }

  /** "(but when CLOSED)". */
  private static void readWhenClosed() {
    Watch w = ConnectionTest.full(1);
    w.x.close(0, true);
    loseAll(w);
    is(w, 0, 12, 300);
    Check.due("all is read", w.x.read(0, 300), 300);
    frames("no ACK", w, 0);
    Check.due("nothing more, and no end", w.x.read(0, 300), 0);
  }

  /** A client in the state told. */
  private static Watch in(int state) {
    Watch w = ConnectionTest.open(300);
    switch (state) {
      case Lanternserver.SYN_SENT:
        w = ConnectionTest.known(600, 300);
        w.x.connect(1, 0, 80);
        break;
      case Lanternserver.FIN_WAIT_1:
        w.x.close(0, false);
        break;
      case Lanternserver.FIN_WAIT_2:
        w.x.close(0, false);
        w.x.deliver(0);
        w.x.deliver(0);
        break;
      case Lanternserver.TIME_WAIT:
        w.x.close(0, false);
        w.x.settle(1);
        break;
      case Lanternserver.CLOSED:
        w.x.close(0, true);
        break;
      case Lanternserver.CLOSING:
        w.write(0, LAST);
        w.x.deliver(0);
        w.x.close(0, false);
        for (int k = 0; k < 3; k++) w.x.deliver(0);
        break;
      case Lanternserver.CLOSE_WAIT:
        w.write(0, LAST);
        w.x.settle(1);
        break;
      case Lanternserver.LAST_ACK:
        w.write(0, LAST);
        w.x.settle(1);
        w.x.close(0, false);
        break;
      default:
        break;
    }
    is(w, 0, 0, state);
    loseAll(w);
    return w;
  }

  /** write(), close() and aborting, in each of the states. */
  private static void eachState() {
    int[] states = {0, 1, 3, 4, 5, 6, 7, 8, 9};
    for (int state : states) {
      boolean isOpen = state == 1 || state == 3 || state == 7;
      Watch w = in(state);
      w.x.put('G', 1);
      if (isOpen) {
        Check.due("written in " + state, w.x.write(0), 1);
      } else {
        Check.noState("write in " + state, () -> w.x.write(0));
        Check.due("the tape stays", w.x.count(15), 1);
      }
      Watch c = in(state);
      int[] closed = {0, 0, 0, 4, 0, 0, 0, 9};
      if (isOpen) {
        Check.due("closed in " + state, c.x.close(0, false), closed[state]);
        is(c, 0, 15, 0);
        frames("FIN", c, state == 1 ? 0 : 1);
        if (state != 1) Check.noState("twice", () -> c.x.close(0, false));
      } else {
        Check.noState("close in " + state, () -> c.x.close(0, false));
        is(c, 0, 0, state);
      }
      Watch a = in(state);
      if (state == 0) {
        Check.noState("abort in CLOSED", () -> a.x.close(0, true));
        continue;
      }
      if (isOpen) a.write(0, "GET");
      loseAll(a);
      int sequence = Watch.iss(0) + a.x.connectionAt(0, 5);
      int acknowledgement = state == 1 ? 0 : Watch.iss(1) + a.x.connectionAt(0, 6);
      int window = 300 - a.x.connectionAt(0, 12);
      Check.due("aborted in " + state, a.x.close(0, true), 0);
      is(a, 0, 15, Lanternserver.ABORTED);
      frames("RST alone", a, 1);
      int[] b = a.bytes(0);
      Check.due("without a byte, whatever was written", b.length, 54);
      Check.due("its sequence", Watch.four(b, 38), sequence);
      Check.due("its acknowledgement", Watch.four(b, 42), acknowledgement);
      Check.due("its flags", Watch.two(b, 46), 0x5014);
      Check.due("its window", Watch.two(b, 48), window);
      Check.noState("twice", () -> a.x.close(0, true));
      Check.due("none is open at the client", a.x.connectionAt(0, 0), 0);
    }
  }

  /** "It aborts a connection by which no segment came for 400 ticks .. in all states but CLOSED and TIME_WAIT". */
  private static void patienceWithOpenOnes() {
    Watch w = ConnectionTest.open(300);
    w.x.close(0, false);
    w.x.settle(1);
    is(w, 1, 0, Lanternserver.CLOSED);
    for (int k = 0; k < 5; k++) w.x.pass(100);
    is(w, 1, 15, 0);
    frames("no RST of a CLOSED one", w, 0);
    // A client has no such patience.
    w = ConnectionTest.open(300);
    for (int k = 0; k < 4; k++) w.x.pass(100);
    is(w, 1, 15, Lanternserver.ABORTED);
    loseAll(w);
    for (int k = 0; k < 5; k++) w.x.pass(100);
    is(w, 0, 0, Lanternserver.ESTABLISHED);
    is(w, 1, 15, Lanternserver.ABORTED);
    frames("nothing is sent", w, 0);
    // CLOSE_WAIT: the server waits for room to write; the client's segments count, whatever they are.
    w = ConnectionTest.full(3);
    w.x.close(0, false);
    deliverAll(w);
    is(w, 1, 0, Lanternserver.CLOSE_WAIT);
    for (int k = 0; k < 450 && w.x.connectionAt(1, 0) == Lanternserver.CLOSE_WAIT; k++) {
      loseAll(w);
      w.x.pass(1);
      Check.isTrue("400 ticks", k < 399 || w.x.connectionAt(1, 0) == Lanternserver.CLOSED);
    }
    is(w, 1, 15, Lanternserver.ABORTED);
  }

  /** pass(): "TIME_WAIT, the timer, then the server's patience": both at one tick. */
  private static void timerAheadOfPatience() {
    Watch w = ConnectionTest.open(300);
    w.write(0, LIST);
    w.x.deliver(0);
    w.x.deliver(0);
    while (w.x.connectionAt(1, 10) < 80) {
      loseAll(w);
      w.x.pass(1);
    }
    // What is sent again is not measured, so that rto stays.
    deliverAll(w);
    is(w, 1, 11, 0);
    w.write(0, LIST);
    w.x.deliver(0);
    w.x.deliver(0);
    int begin = w.x.count(0);
    loseAll(w);
    w.x.addHost(600, 500);
    while (w.x.count(0) < begin + 399) {
      w.x.pass(1);
      // A question of the client's for another host keeps it in the server's table.
      if (w.x.count(0) == begin + 300) w.x.echo(1, 2, 0);
      for (int k = 0; k < 9 && w.x.count(2) > 0; k++) {
        if (w.frame(0).contains("asks") || w.frame(0).contains("tells")) w.x.deliver(0);
        else w.x.lose(0);
      }
    }
    is(w, 1, 16, 4);
    is(w, 0, 16, 0);
    w.x.pass(1);
    frames("both", w, 2);
    Check.isTrue("the timer's", w.frame(0).startsWith("0>1 PA ") && w.frame(0).endsWith(" b50"));
    Check.isTrue("then RST", w.frame(1).startsWith("0>1 RA "));
    is(w, 1, 16, 5);
    is(w, 1, 15, Lanternserver.ABORTED);
  }

  /** pass(): "what is in the table .. goes; then the host's connections": what they send at this tick waits. */
  private static void tableAheadOfTheTimer() {
    for (int early = 0; early < 2; early++) {
      Watch w = ConnectionTest.known(600, 300);
      // Put down at the time 7.
      w.x.pass(100);
      w.x.pass(90 - early);
      w.x.connect(1, 0, 80);
      w.x.lose(0);
      w.x.pass(10);
      Check.due("time", w.x.count(0), 207 - early);
      Check.dueText("sent again", w.wire(), early == 1 ? "1>0 S 0 0 w300 b0" : "1>* asks 0");
      Check.due("waits", w.x.hostAt(1, 1), 1 - early);
    }
  }

  /** "If una is ahead of it: these bytes (and FIN) are gone, una is it; cwnd grows": also if it is FIN alone. */
  private static void cwndByFin() {
    Watch w = ConnectionTest.open(300);
    is(w, 0, 8, 300);
    w.x.close(0, false);
    w.x.settle(1);
    is(w, 0, 8, 600);
    is(w, 1, 8, 600);
    is(w, 0, 4, 2);
    is(w, 0, 11, 0);
  }

  /** read(): "how many bytes at most, 1 to 300"; "NONE if none, and the end was told"; readAt(): the last byte read. */
  private static void readings() {
    Watch w = ConnectionTest.full(1);
    for (int k = 0; k < 3; k++) Check.due("one", w.x.read(0, 1), 1);
    is(w, 0, 12, 297);
    Check.due("all but three", w.x.read(0, 300), 297);
    Check.due("none, and no end", w.x.read(0, 1), 0);
    int read = w.x.connectionAt(0, 14);
    w.x.readAt(0, read - 1);
    Watch u = w;
    Check.noIndex("one more", () -> u.x.readAt(0, read));
    w.x.settle(20);
    Check.due("the others", w.x.read(0, 300), 52);
    w.x.close(0, false);
    Check.due("the server has not ended", w.x.read(0, 300), 0);
    w.x.settle(5);
    Check.due("the end was told", w.x.read(0, 300), Lanternserver.NONE);
    is(w, 0, 14, read + 52);
  }

  /** connectionAt(): "NONE ahead of that"; "0 ahead of that"; "its own ahead of the other's". */
  private static void otherEnds() {
    Watch w = ConnectionTest.known(600, 300);
    w.x.addHost(600, 40);
    w.x.connect(2, 0, 80);
    w.x.connect(1, 0, 80);
    is(w, 0, 2, Lanternserver.NONE);
    is(w, 0, 6, 0);
    is(w, 0, 17, 40);
    is(w, 0, 1, 2);
    // The second SYN goes at once, the first one waits for the server's address.
    w.x.deliver(1);
    is(w, 2, 2, 1);
    is(w, 2, 17, 300);
    is(w, 2, 6, 1);
    w.x.settle(1);
    is(w, 3, 2, 0);
    is(w, 3, 17, 40);
    is(w, 0, 2, 3);
    is(w, 1, 2, 2);
    is(w, 0, 6, 1);
    is(w, 1, 17, 300);
  }
}
