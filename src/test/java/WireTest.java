/** Promises 7 to 19: hosts, tables, datagrams in pieces, and what is done to frames. */
final class WireTest {
  private static final int NONE = Lanternserver.NONE;

  private WireTest() {}

  public static void main(String[] args) {
    hosts();
    asking();
    askingAgain();
    waiting();
    tableGoes();
    manyEntries();
    spoiltQuestions();
    headers();
    pieces();
    piecesComeTurnedRound();
    piecesGo();
    mtuChanges();
    fullWire();
    harm();
    notTaken();
    passing();
    settling();
    settlingInOrder();
    settlingAtMost500();
    playing();
    Check.end();
  }

  /** Nothing begins at the time 0, so that times that were never put down show. */
  private static Watch twoHosts() {
    Watch w = new Watch();
    w.x.addHost(600, 500);
    w.x.pass(70);
    return w;
  }

  /** Lets both hosts know each other. */
  private static Watch known() {
    Watch w = twoHosts();
    w.x.echo(1, 0, 0);
    w.x.settle(1);
    return w;
  }

  private static void hosts() {
    Lanternserver x = new Lanternserver();
    Check.noArgument("MTU 99", () -> x.addHost(99, 40));
    Check.noArgument("MTU 601", () -> x.addHost(601, 40));
    Check.noArgument("MSS 39", () -> x.addHost(100, 39));
    Check.noArgument("MSS 501", () -> x.addHost(100, 501));
    Check.due("nobody was added", x.count(1), 1);
    Check.due("the first", x.addHost(100, 40), 1);
    Check.due("the second", x.addHost(600, 500), 2);
    x.addHost(300, 300);
    Check.due("the last", x.addHost(300, 300), 4);
    Check.noState("a sixth", () -> x.addHost(300, 300));
    Check.noArgument("a sixth with a wrong MTU", () -> x.addHost(99, 300));
    Check.due("MTU before", x.setMtu(1, 101), 100);
    Check.due("MTU before, again", x.setMtu(1, 600), 101);
    Check.noIndex("no host", () -> x.setMtu(5, 99));
    Check.noIndex("host -1", () -> x.setMtu(-1, 100));
    Check.noArgument("MTU 99 later", () -> x.setMtu(1, 99));
    Check.noArgument("MTU 601 later", () -> x.setMtu(1, 601));
    Check.due("the MTU stayed", x.setMtu(1, 600), 600);
    for (int what = 0; what <= 5; what++) Check.due("a new host's " + what, x.hostAt(4, what), 0);
    Check.noIndex("hostAt of none", () -> x.hostAt(5, 6));
    Check.noArgument("hostAt 6", () -> x.hostAt(0, 6));
    Check.noArgument("hostAt -1", () -> x.hostAt(0, -1));
    Check.noIndex("table of none", () -> x.tableAt(5, 0));
    Check.noIndex("table for none", () -> x.tableAt(0, 5));
    Check.due("an empty table", x.tableAt(0, 0), NONE);
  }

  private static void wire(Watch w, String due) {
    Check.dueText("the wire", w.wire(), due);
  }

  private static void asking() {
    Watch w = new Watch();
    w.x.addHost(600, 500);
    w.x.addHost(600, 500);
    w.x.echo(1, 0, 0);
    Check.dueText("the question", w.hex(0, 0, 99), "ff ff ff ff ff ff 02 00 00 00 00 02 08 06 00 01 08 00 06 04"
        + " 00 01 02 00 00 00 00 02 0a 00 00 02 00 00 00 00 00 00 0a 00 00 01");
    Check.due("it goes to both others", w.x.deliver(0), 2);
    Check.dueText("the answer", w.hex(0, 0, 99), "02 00 00 00 00 02 02 00 00 00 00 01 08 06 00 01 08 00 06 04"
        + " 00 02 02 00 00 00 00 01 0a 00 00 01 02 00 00 00 00 02 0a 00 00 02");
    Check.due("the server knows who asked", w.x.tableAt(0, 1), 2);
    Check.due("the third host does not", w.x.tableAt(2, 1), NONE);
    Check.due("but took it", w.x.hostAt(2, 5), 0);
    Check.due("the answer goes to one", w.x.deliver(0), 1);
    Check.due("who asked knows", w.x.tableAt(1, 0), 1);
    Check.due("entries", w.x.hostAt(1, 0), 1);
    // Whoever knows the sender puts it down anew, also if it is not asked itself; what waits is sent ahead of answers.
    w = new Watch();
    w.x.addHost(600, 500);
    w.x.echo(1, 0, 0);
    w.x.echo(0, 1, 0);
    Check.dueText("both ask", w.wire(), "1>* asks 0; 0>* asks 1");
    w.x.deliver(0);
    Check.dueText("ahead of the answer", w.wire(), "0>* asks 1; 0>1 echo 1; 0>1 tells 1");
    Check.due("nothing waits", w.x.hostAt(0, 1), 0);
  }

  private static void askingAgain() {
    Watch w = twoHosts();
    w.x.echo(1, 0, 0);
    w.x.lose(0);
    w.x.pass(4);
    w.x.echo(1, 0, 0);
    Check.due("asked 4 ticks ago", w.x.count(2), 0);
    w.x.pass(1);
    w.x.echo(1, 0, 0);
    Check.due("asked 5 ticks ago", w.x.count(2), 1);
    w.x.addHost(600, 500);
    w.x.echo(1, 2, 0);
    Check.dueText("another address is another question", w.wire(), "1>* asks 0; 1>* asks 2");
    Check.due("all wait", w.x.hostAt(1, 1), 4);
  }

  private static void waiting() {
    Watch w = twoHosts();
    for (int k = 0; k < 5; k++) w.x.echo(1, 0, k);
    Check.due("four wait", w.x.hostAt(1, 1), 4);
    Check.due("all were counted", w.x.hostAt(1, 2), 5);
    Check.due("none was lost on the wire", w.x.count(4), 0);
    w.x.deliver(0);
    w.x.deliver(0);
    Check.dueText("the first one was thrown away", w.wire(), "1>0 echo 1; 1>0 echo 2; 1>0 echo 3; 1>0 echo 4");
    w = twoHosts();
    w.x.addHost(600, 500);
    w.x.echo(1, 0, 0);
    for (int k = 0; k < 4; k++) w.x.echo(1, 2, 0);
    w.x.deliver(0);
    Check.dueText("whatever their addresses", w.wire(), "1>* asks 2; 0>1 tells 1");
    w.x.deliver(1);
    Check.due("others wait on", w.x.hostAt(1, 1), 4);
    w = twoHosts();
    w.x.addHost(600, 500);
    w.x.echo(1, 2, 0);
    w.x.echo(1, 0, 0);
    w.x.echo(1, 2, 0);
    w.x.echo(1, 0, 0);
    w.x.deliver(1);
    w.x.deliver(1);
    wire(w, "1>* asks 2; 1>0 echo 1; 1>0 echo 3");
    Check.due("those for the other host wait on", w.x.hostAt(1, 1), 2);
    w.x.deliver(0);
    w.x.deliver(2);
    wire(w, "1>0 echo 1; 1>0 echo 3; 1>2 echo 0; 1>2 echo 2");
    w = twoHosts();
    w.x.echo(1, 0, 900);
    for (int k = 0; k < 3; k++) w.x.echo(1, 0, 0);
    w.x.setMtu(1, 100);
    w.x.deliver(0);
    w.x.deliver(0);
    Check.dueText("one in pieces is one, and stays as it was made", w.wire(),
        "1>0 part 0+576 more; 1>0 part 576+332; 1>0 echo 1; 1>0 echo 2; 1>0 echo 3");
  }

  private static void tableGoes() {
    Watch w = known();
    w.x.pass(100);
    w.x.pass(99);
    Check.due("199 ticks", w.x.tableAt(1, 0), 1);
    w.x.pass(1);
    Check.due("200 ticks", w.x.tableAt(1, 0), NONE);
    Check.due("no entries", w.x.hostAt(0, 0), 0);
    w = twoHosts();
    w.x.echo(1, 0, 0);
    w.x.twice(0);
    w.x.deliver(0);
    w.x.pass(100);
    w.x.deliver(0);
    w.x.pass(100);
    Check.due("it was put there anew", w.x.tableAt(0, 1), 2);
    w.x.pass(100);
    Check.due("and goes", w.x.tableAt(0, 1), NONE);
  }

  /** Entries of different ages, and more of them than there are hosts. */
  private static void manyEntries() {
    Watch w = twoHosts();
    for (int k = 0; k < 12; k++) {
      w.x.echo(1, 0, 0);
      w.x.spoil(0, 31, 64 + k);
      w.x.deliver(0);
      w.x.lose(0);
      w.x.pass(5);
    }
    Check.due("twelve addresses", w.x.hostAt(0, 0), 12);
    w.x.addHost(600, 500);
    w.x.echo(2, 0, 0);
    w.x.deliver(0);
    Check.due("and a right one", w.x.tableAt(0, 2), 3);
    w.x.settle(1);
    // The first one was put down 60 ticks ago.
    w.x.pass(100);
    w.x.pass(39);
    Check.due("none is gone", w.x.hostAt(0, 0), 13);
    for (int left = 12; left > 0; left--) {
      w.x.pass(left == 12 ? 1 : 5);
      Check.due("one goes", w.x.hostAt(0, 0), left);
      Check.due("the right one is there", w.x.tableAt(0, 2), 3);
    }
    w.x.pass(4);
    Check.due("until its time", w.x.hostAt(0, 0), 1);
    w.x.pass(1);
    Check.due("has come", w.x.hostAt(0, 0), 0);
  }

  private static void spoiltQuestions() {
    // 27 is the last byte of the sender's hardware address, 31 of its address, 41 of the address asked for.
    Watch w = twoHosts();
    w.x.echo(1, 0, 0);
    w.x.spoil(0, 27, 6);
    w.x.deliver(0);
    Check.due("another hardware address is believed", w.x.tableAt(0, 1), 4);
    Check.dueText("and answered", w.hex(0, 0, 6), "02 00 00 00 00 04");
    Check.due("which nobody has", w.x.deliver(0), 0);
    w = twoHosts();
    w.x.echo(1, 0, 0);
    w.x.spoil(0, 31, 32);
    w.x.deliver(0);
    Check.due("another address is put down", w.x.hostAt(0, 0), 1);
    Check.due("not the sender's", w.x.tableAt(0, 1), NONE);
    w = twoHosts();
    w.x.echo(1, 0, 0);
    w.x.spoil(0, 41, 7);
    w.x.deliver(0);
    Check.due("nobody is asked", w.x.count(2), 0);
    Check.due("nothing is put down", w.x.hostAt(0, 0), 0);
    Check.due("but it is right", w.x.hostAt(0, 5), 0);
    for (int at = 14; at < 21; at++) {
      w = twoHosts();
      w.x.echo(1, 0, 0);
      w.x.spoil(0, at, 4);
      w.x.deliver(0);
      Check.due("a wrong byte " + at, w.x.hostAt(0, 5), 1);
      Check.due("no answer to byte " + at, w.x.count(2), 0);
    }
    w = twoHosts();
    w.x.echo(1, 0, 0);
    w.x.spoil(0, 21, 2);
    w.x.deliver(0);
    Check.due("a kind 3", w.x.hostAt(0, 5), 1);
  }

  private static void headers() {
    Watch w = known();
    w.x.echo(0, 1, 3);
    int[] b = w.bytes(0);
    Check.dueText("the header", w.hex(0, 0, 24), "02 00 00 00 00 02 02 00 00 00 00 01 08 00"
        + " 45 00 00 1f 00 01 00 00 40 01");
    Check.dueText("addresses", w.hex(0, 26, 34), "0a 00 00 01 0a 00 00 02");
    Check.due("the sum of the header", Watch.sum(b, 14, 34), 0);
    Check.dueText("the echo", w.hex(0, 34, 36) + " " + w.hex(0, 38, 99), "08 00 00 01 00 07 00 01 02");
    Check.due("the sum of the echo", Watch.sum(b, 34, b.length), 0);
    Check.due("the answer was counted", w.x.hostAt(0, 2), 2);
    w.x.deliver(0);
    Check.dueText("the answer", w.hex(0, 34, 36) + " " + w.hex(0, 38, 99), "00 00 00 01 00 07 00 01 02");
    Check.due("the sum of the answer", Watch.sum(w.bytes(0), 34, w.bytes(0).length), 0);
    Check.dueText("identifications are counted by host", w.hex(0, 18, 20), "00 01");
  }

  private static void pieces() {
    Watch w = known();
    w.x.setMtu(1, 107);
    w.x.echo(1, 0, 232);
    // 240 bytes behind the header, of which 87 would fit, which is 80.
    Check.dueText("pieces", w.wire(), "1>0 part 0+80 more; 1>0 part 80+80 more; 1>0 part 160+80");
    for (int k = 0; k < 3; k++) {
      Check.due("header of a piece", Watch.sum(w.bytes(k), 14, 34), 0);
      Check.dueText("identification", w.hex(k, 18, 20), "00 01");
      Check.due("is a piece", w.x.frameAt(k, 3), 1);
      Check.due("cannot be spoilt", w.x.spoil(k, 50, 1), NONE);
    }
    Check.dueText("place of the last", w.hex(2, 20, 22), "00 14");
    Check.due("bytes of the second", w.x.byteAt(1, 34), 72);
    w.x.deliver(0);
    Check.due("being put together", w.x.hostAt(0, 3), 1);
    Check.due("taken before", w.x.hostAt(0, 4), 1);
    w.x.deliver(0);
    w.x.deliver(0);
    Check.due("put together", w.x.hostAt(0, 3), 0);
    Check.due("taken", w.x.hostAt(0, 4), 2);
    Check.dueText("answered whole", w.wire(), "0>1 echoed 1");
    w.x.deliver(0);
    Check.isTrue("answered", w.x.isAnswered(1));
    w.x.echo(1, 0, 80);
    Check.dueText("one byte more than fits", w.wire(), "1>0 part 0+80 more; 1>0 part 80+8");
    w.x.settle(1);
    w.x.echo(1, 0, 79);
    Check.dueText("what fits", w.wire(), "1>0 echo 3");
    Check.due("is no piece", w.x.frameAt(0, 3), 0);
    w.x.settle(1);
    w.x.setMtu(1, 108);
    w.x.echo(1, 0, 81);
    Check.dueText("88 fit an MTU of 108", w.wire(), "1>0 part 0+88 more; 1>0 part 88+1");
  }

  private static void piecesComeTurnedRound() {
    Watch w = known();
    w.x.setMtu(1, 100);
    w.x.echo(1, 0, 300);
    Check.due("pieces of 308", w.x.count(2), 4);
    w.x.twice(3);
    w.x.deliver(3);
    w.x.deliver(1);
    w.x.twice(0);
    w.x.deliver(0);
    Check.due("one is being put together", w.x.hostAt(0, 3), 1);
    w.x.deliver(0);
    Check.due("whole", w.x.hostAt(0, 3), 0);
    // Both doubles begin another datagram, and wait for the rest of it.
    w.x.deliver(0);
    w.x.deliver(0);
    Check.due("doubles wait", w.x.hostAt(0, 3), 1);
    Check.due("taken once", w.x.hostAt(0, 4), 2);
    w.x.settle(1);
    Check.isTrue("answered by pieces of its own", w.x.isAnswered(1));
  }

  private static void piecesGo() {
    Watch w = known();
    w.x.setMtu(1, 100);
    w.x.echo(1, 0, 100);
    w.x.deliver(0);
    w.x.pass(59);
    Check.due("59 ticks", w.x.hostAt(0, 3), 1);
    w.x.twice(0);
    w.x.pass(1);
    Check.due("60 ticks", w.x.hostAt(0, 3), 0);
    w.x.deliver(0);
    Check.due("the rest begins anew", w.x.hostAt(0, 3), 1);
    w = known();
    w.x.setMtu(1, 100);
    for (int k = 0; k < 5; k++) w.x.echo(1, 0, 100);
    for (int k = 0; k < 4; k++) w.x.deliver(k);
    Check.due("four at a time", w.x.hostAt(0, 3), 4);
    w.x.deliver(4);
    Check.due("the first goes for the fifth", w.x.hostAt(0, 3), 4);
    w.x.deliver(0);
    Check.due("it is begun anew, for the second", w.x.hostAt(0, 3), 4);
    Check.due("none was taken", w.x.hostAt(0, 4), 1);
    w.x.deliver(1);
    Check.due("the third is whole", w.x.hostAt(0, 4), 2);
    Check.due("three are left", w.x.hostAt(0, 3), 3);
    w.x.deliver(1);
    Check.due("so is the fourth", w.x.hostAt(0, 4), 3);
    w.x.deliver(1);
    Check.due("and the fifth", w.x.hostAt(0, 4), 4);
    w.x.settle(1);
    for (int k = 1; k < 6; k++) Check.isTrue("answered " + k, w.x.isAnswered(k) == k > 2);
    Check.due("the first two never", w.x.hostAt(0, 3), 2);
    w.x.pass(60);
    Check.due("they go", w.x.hostAt(0, 3), 0);
    for (int k = 6; k < 9; k++) w.x.echo(1, 0, 100 + k);
    w.x.settle(1);
    for (int k = 6; k < 9; k++) Check.isTrue("answered " + k, w.x.isAnswered(k));
  }

  private static void mtuChanges() {
    Watch w = known();
    w.x.setMtu(0, 100);
    w.x.echo(1, 0, 200);
    w.x.deliver(0);
    Check.dueText("the answer is cut by the one who answers", w.wire(),
        "0>1 part 0+80 more; 0>1 part 80+80 more; 0>1 part 160+48");
    w.x.settle(1);
    Check.isTrue("answered", w.x.isAnswered(1));
  }

  private static void fullWire() {
    Watch w = known();
    w.x.echo(1, 0, 0);
    int before = w.x.count(3);
    for (int k = 0; k < 99; k++) w.x.twice(0);
    Check.due("a full wire", w.x.count(2), 100);
    Check.due("nothing was lost", w.x.count(4), 0);
    Check.due("one more", w.x.twice(5), 42);
    Check.due("is lost", w.x.count(4), 1);
    Check.due("but was sent", w.x.count(3), before + 100);
    w.x.echo(1, 0, 0);
    Check.due("likewise one of a host", w.x.count(4), 2);
    w.x.deliver(99);
    Check.due("the answer has room", w.x.count(2), 100);
    Check.dueText("at the end", w.frame(99), "0>1 echoed 1");
    Check.due("choices go round", w.x.deliver(199), 1);
    Check.isTrue("that was the answer", w.x.isAnswered(1));
  }

  private static void harm() {
    Watch w = known();
    Lanternserver x = w.x;
    Check.due("none to lose", x.lose(0), NONE);
    Check.due("none to double", x.twice(0), NONE);
    Check.due("none to spoil", x.spoil(0, 0, 1), NONE);
    Check.noArgument("deliver -1", () -> x.deliver(-1));
    Check.noArgument("deliver 1001", () -> x.deliver(1001));
    Check.noArgument("lose 1001", () -> x.lose(1001));
    Check.noArgument("lose -1", () -> x.lose(-1));
    Check.noArgument("twice 1001", () -> x.twice(1001));
    Check.noArgument("twice -1", () -> x.twice(-1));
    Check.noArgument("spoil 1001", () -> x.spoil(1001, 0, 1));
    Check.noArgument("spoil at 1001", () -> x.spoil(0, 1001, 1));
    Check.noArgument("spoil at -1", () -> x.spoil(0, -1, 1));
    Check.noArgument("spoil by 0", () -> x.spoil(0, 0, 0));
    Check.noArgument("spoil by 256", () -> x.spoil(0, 0, 256));
    x.echo(1, 0, 4);
    x.echo(1, 0, 5);
    Check.due("nothing is spoilt", x.frameAt(0, 2), 0);
    Check.due("the frame before is lost", x.lose(2), 46);
    Check.dueText("the other one is there", w.wire(), "1>0 echo 2");
    Check.due("lost", x.count(4), 1);
    Check.due("spoilt at", x.spoil(1000, 47, 255), 0);
    Check.due("the byte", x.byteAt(0, 0), 0xfd);
    Check.due("it is spoilt", x.frameAt(0, 2), 1);
    Check.due("it is no piece", x.frameAt(0, 3), 0);
    Check.due("not twice", x.spoil(0, 1, 1), NONE);
    Check.due("its length", x.twice(0), 47);
    Check.due("the double is spoilt", x.frameAt(1, 2), 1);
    Check.due("and cannot be spoilt", x.spoil(1, 1, 1), NONE);
    Check.due("once spoilt", x.count(5), 1);
    Check.due("it goes to nobody", x.deliver(0), 0);
    Check.due("its sender", x.frameAt(0, 1), 1);
    Check.noIndex("no frame", () -> x.frameAt(1, 9));
    Check.noIndex("frame -1", () -> x.frameAt(-1, 0));
    Check.noArgument("frameAt 4", () -> x.frameAt(0, 4));
    Check.noArgument("frameAt -1", () -> x.frameAt(0, -1));
    Check.noIndex("byte of no frame", () -> x.byteAt(1, 0));
    Check.noIndex("byte 47", () -> x.byteAt(0, 47));
    Check.noIndex("byte -1", () -> x.byteAt(0, -1));
    Check.due("the last byte", x.byteAt(0, 46), 4);
  }

  private static void notTaken() {
    // A frame of another type, with a wrong header, a wrong sum, and to another host.
    int[] places = {13, 12, 14, 17, 19, 24, 26, 33};
    for (int at : places) {
      Watch w = known();
      w.x.echo(1, 0, 4);
      w.x.spoil(0, at, 1);
      w.x.deliver(0);
      Check.due("not taken for byte " + at, w.x.hostAt(0, 5), 1);
      Check.due("no datagram for byte " + at, w.x.hostAt(0, 4), 1);
    }
    Watch w = known();
    w.x.addHost(600, 500);
    w.x.echo(1, 0, 4);
    Check.due("to the third host", w.x.spoil(0, 5, 2), 5);
    Check.due("which gets it", w.x.deliver(0), 1);
    Check.due("and does not take it", w.x.hostAt(2, 5), 1);
    w.x.echo(1, 0, 4);
    w.x.spoil(0, 5, 3);
    Check.due("to the sender itself", w.x.deliver(0), 1);
    Check.due("which does not take it", w.x.hostAt(1, 5), 1);
    w.x.echo(1, 0, 4);
    w.x.spoil(0, 45, 1);
    w.x.deliver(0);
    Check.due("a wrong echo is taken as a datagram", w.x.hostAt(0, 4), 2);
    Check.due("but not answered", w.x.count(2), 0);
    w.x.echo(1, 0, 4);
    w.x.spoil(0, 11, 1);
    w.x.deliver(0);
    Check.due("the frame's own sender does not matter", w.x.count(2), 1);
  }

  private static void passing() {
    Watch w = new Watch();
    Lanternserver x = w.x;
    Check.noArgument("0 ticks", () -> x.pass(0));
    Check.noArgument("101 ticks", () -> x.pass(101));
    Check.due("the time", x.pass(1), 1);
    for (int k = 0; k < 199; k++) x.pass(100);
    Check.due("the time then", x.pass(98), 19999);
    Check.noState("2 ticks too many", () -> x.pass(2));
    Check.noState("settle 2", () -> x.settle(2));
    Check.noState("play 2", () -> x.play(0, 2));
    Check.due("settle 1 can", x.settle(1), 0);
    // The first draw of the seed 0 is 0, which is no tick.
    Check.due("play 1 can, too", x.play(0, 1), 19999);
    Check.due("the last one", x.pass(1), 20000);
    Check.noState("one too many", () -> x.pass(1));
    Check.noArgument("argument first", () -> x.pass(101));
  }

  private static void settling() {
    Watch w = twoHosts();
    Lanternserver x = w.x;
    Check.noArgument("0 ticks", () -> x.settle(0));
    Check.noArgument("61 ticks", () -> x.settle(61));
    Check.due("nothing to do", x.settle(60), 0);
    x.connect(1, 0, 80);
    x.lose(0);
    // The SYN waits for an address that nobody tells; it is sent again after 10 ticks, and asks anew.
    Check.due("as many ticks as are let", x.settle(9), 9);
    Check.due("still asking", x.connectionAt(0, 0), Lanternserver.SYN_SENT);
    Check.due("two ticks, and no timer is left", x.settle(60), 1);
    Check.due("there", x.connectionAt(0, 0), Lanternserver.ESTABLISHED);
    Check.due("the time", x.count(0), 80);
    w = known();
    for (int round = 0; round < 3; round++) {
      w.x.echo(1, 0, 0);
      for (int k = 0; k < 99; k++) w.x.twice(0);
      int sent = w.x.count(3);
      w.x.settle(1);
      Check.due("all were delivered", w.x.count(2), 0);
      Check.due("with their answers", w.x.count(3), sent + 100);
    }
  }

  private static void settlingInOrder() {
    Watch w = new Watch();
    w.x.addHost(600, 500);
    for (int k = 0; k < 3; k++) w.x.connect(1, 0, 80);
    w.x.settle(1);
    for (int k = 0; k < 3; k++) w.write(k, "GET / HTTP/1.0\r\n\r\n");
    w.x.settle(1);
    for (int k = 0; k < 3; k++) {
      Check.due("served in order", w.x.connectionAt(w.x.servedAt(k, 0), 2), k);
    }
  }

  private static void settlingAtMost500() {
    Watch w = new Watch();
    for (int k = 0; k < 3; k++) w.x.addHost(600, 40);
    for (int k = 0; k < 6; k++) {
      w.x.connect(1 + k % 3, 0, 80);
      w.x.settle(1);
    }
    String requests = "GET / HTTP/1.1\r\nHost:\r\n\r\n".repeat(14);
    for (int k = 0; k < 12; k++) w.write(k / 2 * 2, requests);
    while (w.x.count(2) < 100) w.x.twice(0);
    int before = w.x.count(3) - w.x.count(4) - w.x.count(2);
    int time = w.x.count(0);
    int passed = w.x.settle(60);
    Check.due("500 and no more", w.x.count(3) - w.x.count(4) - w.x.count(2) - before, 500);
    Check.isTrue("some are left", w.x.count(2) > 0);
    Check.due("the ticks that passed", w.x.count(0) - time, passed);
  }

  private static void playing() {
    Watch w = known();
    Lanternserver x = w.x;
    Check.noArgument("many 0", () -> x.play(1, 0));
    Check.noArgument("many 201", () -> x.play(1, 201));
    Check.isTrue("200", x.play(1, 200) > 70);
    // The same draws, made by hand on another object.
    for (int seed = -40; seed < 40; seed++) {
      Watch played = known();
      Watch made = known();
      for (int k = 0; k < 3; k++) {
        played.x.echo(1, 0, 20 * k);
        made.x.echo(1, 0, 20 * k);
      }
      int time = played.x.play(seed * 1234567, 60);
      int drawn = seed * 1234567;
      for (int k = 0; k < 60; k++) {
        drawn = drawn * 1103515245 + 12345;
        int act = (drawn >>> 16) % 16;
        if (act >= 14) {
          made.x.pass(1);
          continue;
        }
        drawn = drawn * 1103515245 + 12345;
        int choice = (drawn >>> 16) % 1000;
        if (act <= 10) made.x.deliver(choice);
        else if (act == 11) made.x.lose(choice);
        else if (act == 12) made.x.twice(choice);
        else {
          drawn = drawn * 1103515245 + 12345;
          int at = (drawn >>> 16) % 1000;
          drawn = drawn * 1103515245 + 12345;
          made.x.spoil(choice, at, (drawn >>> 16) % 255 + 1);
        }
      }
      Check.due("the time", time, made.x.count(0));
      Check.dueText("the wire", played.wire(), made.wire());
      for (int what = 0; what <= 15; what++) {
        Check.due("seed " + seed + " count " + what, played.x.count(what), made.x.count(what));
      }
    }
  }
}
