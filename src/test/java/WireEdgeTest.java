/** The edges that sections 2 to 4 and promises 7 to 19 name, each under the sentence that names it. */
final class WireEdgeTest {
  private static final int NONE = Lanternserver.NONE;

  private WireEdgeTest() {}

  public static void main(String[] args) {
    addressesOfTheLastHost();
    hostsOfALaterTime();
    toAllButTheSender();
    lastPlaceOnTheWire();
    choicesAndPlaces();
    spoiltOnce();
    piecesAreNotSpoilt();
    firstQuestion();
    askedByAddress();
    lengthAndKind();
    putAnewByOthersQuestions();
    putAnewOnce();
    tableTicks();
    fourWait();
    waitsAsItWasMade();
    identificationGoesRound();
    largestWhole();
    placesOfPieces();
    lastPieceIsFull();
    wholeBesideFour();
    firstPieceThatCameFirst();
    keptBySender();
    keptUntil();
    keptOfDifferentAges();
    putAgain();
    tickByTick();
    settlesToTheLastTick();
    settlesToTheLastFrame();
    playsEachAct();
    Check.end();
  }

  private static Watch hosts(int many) {
    Watch w = new Watch();
    for (int k = 0; k < many; k++) w.x.addHost(600, 500);
    w.x.pass(70);
    return w;
  }

  /** All hosts and the server know each other; nothing is on the wire. */
  private static Watch known(int many) {
    Watch w = hosts(many);
    for (int k = 1; k <= many; k++) {
      for (int other = 0; other < k; other++) {
        w.x.echo(k, other, 0);
        w.x.settle(1);
      }
    }
    return w;
  }

  private static int lastEcho(Watch w) {
    return w.echoes() - 1;
  }

  private static void wire(String what, Watch w, String due) {
    Check.dueText(what, w.wire(), due);
  }

  // ---- section 2

  /** "There are up to 4 more. The host h has the address 10.0.0.(h + 1), and the hardware address 02 .. (h + 1)". */
  private static void addressesOfTheLastHost() {
    Watch w = hosts(4);
    w.x.echo(4, 3, 0);
    Check.dueText("the fourth asks for the third", w.hex(0, 0, 99), "ff ff ff ff ff ff 02 00 00 00 00 05 08 06 00 01 08"
        + " 00 06 04 00 01 02 00 00 00 00 05 0a 00 00 05 00 00 00 00 00 00 0a 00 00 04");
    Check.due("to the four others", w.x.deliver(0), 4);
    Check.due("in the table", w.x.tableAt(3, 4), 5);
    w.x.deliver(0);
    Check.due("the other one's", w.x.tableAt(4, 3), 4);
    Check.dueText("the datagram", w.hex(0, 0, 12) + " " + w.hex(0, 26, 34),
        "02 00 00 00 00 04 02 00 00 00 00 05 0a 00 00 05 0a 00 00 04");
  }

  /** "A frame that is delivered goes to the host with the receiver's address; nobody else takes it." */
  private static void hostsOfALaterTime() {
    Watch w = known(1);
    w.x.echo(1, 0, 0);
    w.x.twice(0);
    w.x.spoil(0, 5, 2);
    w.x.twice(0);
    Check.due("nobody has the address", w.x.deliver(0), 0);
    for (int h = 0; h < 2; h++) Check.due("nobody refused it " + h, w.x.hostAt(h, 5), 0);
    w.x.deliver(0);
    w.x.addHost(600, 500);
    Check.due("now somebody has", w.x.deliver(0), 1);
    Check.due("it is not to its own address", w.x.hostAt(2, 5), 1);
    Check.due("nor does the one meant take it", w.x.hostAt(0, 4), 2);
    // The hardware address is looked at in all its bytes.
    for (int at = 0; at < 5; at++) {
      w = known(1);
      w.x.echo(1, 0, 0);
      w.x.spoil(0, at, 255);
      Check.due("nobody has byte " + at, w.x.deliver(0), 0);
    }
    w = hosts(1);
    w.x.echo(1, 0, 0);
    w.x.spoil(0, 3, 1);
    Check.due("nor is that to all", w.x.deliver(0), 0);
  }

  /** "or, to all, to each host but the one that sent it" (whatever it tells of its sender, and doubled or not). */
  private static void toAllButTheSender() {
    Watch w = hosts(3);
    w.x.echo(2, 1, 0);
    w.x.twice(0);
    w.x.spoil(1, 11, 1);
    Check.due("sent by", w.x.frameAt(0, 1), 2);
    Check.due("the double is sent by", w.x.frameAt(1, 1), 2);
    Check.due("to the three others", w.x.deliver(1), 3);
    Check.due("its sender knows nobody", w.x.hostAt(2, 0), 0);
    Check.due("likewise the first one", w.x.deliver(0), 3);
    Check.due("the one that was asked knows it", w.x.tableAt(1, 2), 3);
    for (int h = 0; h < 4; h++) Check.due("nobody refused it", w.x.hostAt(h, 5), 0);
  }

  /** "The wire holds up to 100 frames in the order in which they were sent; what would be one more is lost." */
  private static void lastPlaceOnTheWire() {
    Watch w = known(1);
    w.x.setMtu(1, 100);
    w.x.echo(1, 0, 0);
    for (int k = 0; k < 97; k++) w.x.twice(0);
    int sent = w.x.count(3);
    w.x.echo(1, 0, 200);
    Check.due("two of three pieces have room", w.x.count(2), 100);
    Check.due("one is lost", w.x.count(4), 1);
    Check.due("all three were sent", w.x.count(3), sent + 3);
    Check.dueText("the first two, at the end", w.frame(98) + "; " + w.frame(99),
        "1>0 part 0+80 more; 1>0 part 80+80 more");
    Check.due("the double of one has no room", w.x.twice(99), w.x.frameAt(99, 0));
    Check.due("it is lost, too", w.x.count(4), 2);
    w.x.addHost(600, 500);
    w.x.echo(1, 2, 0);
    Check.due("so is a question to all", w.x.count(4), 3);
    Check.due("one goes", w.x.lose(0), 42);
    Check.due("that is lost as well", w.x.count(4), 4);
    Check.due("there is room for one", w.x.count(2), 99);
    w.x.pass(5);
    w.x.echo(1, 2, 0);
    Check.due("which is taken", w.x.count(2), 100);
    Check.dueText("at the end", w.frame(99), "1>* asks 2");
    Check.due("nothing more was lost", w.x.count(4), 4);
  }

  /** "the rest of it divided by the number of frames is the one"; "by the length of the frame .. the index". */
  private static void choicesAndPlaces() {
    Watch w = known(1);
    for (int k = 0; k < 7; k++) w.x.echo(1, 0, k);
    // 1000 is 142 times 7, and 6; the frame 6 has 48 bytes, and 1000 is 20 times 48, and 40.
    Check.due("the last one", w.x.spoil(1000, 1000, 255), 40);
    Check.due("is spoilt", w.x.frameAt(6, 2), 1);
    Check.due("the first byte of the first", w.x.spoil(0, 0, 1), 0);
    Check.due("round to the first byte", w.x.spoil(8, 43, 1), 0);
    Check.due("the last byte", w.x.spoil(2, 43, 1), 43);
    Check.due("the length of the one before the last", w.x.lose(999), 42 + 5);
    Check.due("of six", w.x.twice(1000), 42 + 4);
    Check.due("of seven", w.x.lose(1000), 42 + 4);
    Check.due("delivered: the last of six", w.x.deliver(5), 1);
    Check.due("which was spoilt, and not taken", w.x.hostAt(0, 4), 2);
  }

  /** "a frame is spoilt once at most (one that was doubled from a spoilt one is spoilt, too)". */
  private static void spoiltOnce() {
    Watch w = known(1);
    w.x.echo(1, 0, 3);
    w.x.twice(0);
    w.x.spoil(0, 44, 255);
    Check.due("the one doubled ahead of it is not", w.x.frameAt(1, 2), 0);
    Check.due("and has its byte", w.x.byteAt(1, 44), 2);
    w.x.twice(0);
    Check.due("the one doubled behind it is", w.x.frameAt(2, 2), 1);
    Check.due("and has the same byte", w.x.byteAt(2, 44), 253);
    Check.due("no more", w.x.spoil(2, 44, 255), NONE);
    Check.due("its byte stays", w.x.byteAt(2, 44), 253);
    Check.due("the other one can be", w.x.spoil(1, 44, 255), 44);
    Check.due("so often", w.x.count(5), 2);
    w.x.deliver(1);
    w.x.echo(1, 0, 3);
    Check.due("a frame at its place is not spoilt", w.x.frameAt(2, 2), 0);
    Check.due("its sender stands apart from that", w.x.frameAt(2, 1), 1);
    w.x.echo(0, 1, 3);
    Check.due("the server's, not spoilt", w.x.frameAt(3, 1) + w.x.frameAt(3, 2), 0);
  }

  /** "and none that carries a piece of a datagram": neither the first, nor one between, nor the last. */
  private static void piecesAreNotSpoilt() {
    Watch w = known(1);
    w.x.setMtu(1, 100);
    w.x.echo(1, 0, 200);
    w.x.echo(1, 0, 72);
    for (int k = 0; k < 4; k++) {
      String before = w.hex(k, 0, 614);
      boolean isPiece = k < 3;
      Check.due("is a piece", w.x.frameAt(k, 3), isPiece ? 1 : 0);
      Check.due("can be spoilt", w.x.spoil(k, 5, 1), isPiece ? NONE : 5);
      Check.due("is spoilt", w.x.frameAt(k, 2), isPiece ? 0 : 1);
      Check.isTrue("as it was", w.hex(k, 0, 614).equals(before) == isPiece);
    }
    Check.due("once", w.x.count(5), 1);
    w.x.twice(1);
    Check.due("the double of a piece is one", w.x.frameAt(4, 3), 1);
    Check.due("and cannot be spoilt", w.x.spoil(4, 0, 1), NONE);
  }

  // ---- section 3

  /** "if it asked for this address never or at least 5 ticks ago": also if that was at the time 0. */
  private static void firstQuestion() {
    Watch w = new Watch();
    w.x.addHost(600, 500);
    w.x.echo(1, 0, 0);
    Check.due("never", w.x.count(2), 1);
    w.x.echo(1, 0, 0);
    Check.due("just now", w.x.count(2), 1);
    w.x.pass(4);
    w.x.echo(1, 0, 0);
    Check.due("4 ticks ago", w.x.count(2), 1);
    w.x.pass(1);
    w.x.echo(1, 0, 0);
    Check.due("5 ticks ago", w.x.count(2), 2);
    w.x.pass(4);
    w.x.echo(1, 0, 0);
    Check.due("4 ticks ago, again", w.x.count(2), 2);
    w.x.pass(1);
    w.x.echo(1, 0, 0);
    Check.due("5 ticks ago, again", w.x.count(2), 3);
  }

  /** Likewise: when one asked does not count for other addresses, nor for other hosts, nor end with the table. */
  private static void askedByAddress() {
    Watch w = hosts(2);
    w.x.echo(1, 0, 0);
    w.x.echo(1, 2, 0);
    w.x.echo(2, 0, 0);
    wire("three questions", w, "1>* asks 0; 1>* asks 2; 2>* asks 0");
    w.x.settle(1);
    w.x.pass(100);
    w.x.pass(99);
    w.x.echo(1, 0, 0);
    wire("still in the table", w, "1>0 echo 3");
    w.x.pass(1);
    w.x.echo(1, 0, 0);
    wire("no more", w, "1>0 echo 3; 1>* asks 0");
  }

  /** "A message that has just 28 bytes and right first six and a kind 1 or 2". */
  private static void lengthAndKind() {
    int[] wrong = {1, 2, 4, 128};
    for (int by : wrong) {
      Watch w = hosts(1);
      w.x.echo(1, 0, 0);
      w.x.spoil(0, 21, by);
      w.x.deliver(0);
      Check.due("a question of kind " + (1 ^ by), w.x.hostAt(0, 5), 1);
      Check.due("puts nothing down", w.x.hostAt(0, 0), 0);
      Check.due("and has no answer", w.x.count(2), 0);
      w = hosts(1);
      w.x.echo(1, 0, 0);
      w.x.deliver(0);
      w.x.spoil(0, 21, by == 1 ? 2 : by == 2 ? 1 : by);
      w.x.deliver(0);
      Check.due("an answer that is none", w.x.hostAt(1, 5), 1);
      Check.due("so that it waits on", w.x.hostAt(1, 1), 1);
    }
    for (int at = 12; at < 14; at++) {
      Watch w = hosts(1);
      w.x.echo(1, 0, 0);
      w.x.spoil(0, at, at == 12 ? 8 : 1);
      w.x.deliver(0);
      Check.due("a message of another type", w.x.hostAt(0, 5), 1);
      Check.due("puts nothing down", w.x.hostAt(0, 0), 0);
      Check.due("and has no answer", w.x.count(2), 0);
    }
    Watch w = hosts(1);
    w.x.echo(1, 0, 0);
    w.x.deliver(0);
    w.x.spoil(0, 21, 3);
    w.x.deliver(0);
    wire("an answer that became a question: what waits goes, then it is answered", w, "1>0 echo 0; 1>0 tells 0");
    Check.due("that was taken", w.x.hostAt(1, 5), 0);
  }

  /** "if the sender's address is in the table, its hardware address is put there": also by questions for others. */
  private static void putAnewByOthersQuestions() {
    Watch w = hosts(3);
    w.x.echo(2, 1, 0);
    w.x.settle(1);
    w.x.pass(100);
    w.x.echo(2, 0, 0);
    w.x.twice(0);
    w.x.spoil(1, 27, 5);
    w.x.deliver(1);
    Check.due("another hardware address", w.x.tableAt(1, 2), 6);
    Check.due("whoever does not know it puts nothing down", w.x.tableAt(3, 2), NONE);
    w.x.deliver(0);
    Check.due("the right one again", w.x.tableAt(1, 2), 3);
    Check.due("is one entry", w.x.hostAt(1, 0), 1);
    w.x.settle(1);
    w.x.pass(100);
    Check.due("it was put there anew", w.x.tableAt(1, 2), 3);
    w.x.pass(99);
    Check.due("for 200 ticks", w.x.tableAt(1, 2), 3);
    w.x.pass(1);
    Check.due("and is gone", w.x.tableAt(1, 2), NONE);
  }

  /** "the sender is put into the table, if it was not". */
  private static void putAnewOnce() {
    Watch w = hosts(1);
    w.x.echo(1, 0, 0);
    w.x.twice(0);
    w.x.twice(0);
    for (int k = 0; k < 3; k++) {
      w.x.deliver(0);
      Check.due("one entry at the server", w.x.hostAt(0, 0), 1);
    }
    for (int k = 0; k < 3; k++) {
      w.x.deliver(0);
      Check.due("one entry at the host", w.x.hostAt(1, 0), 1);
    }
    // The sender's address can be the host's own, if the frame was spoilt: that is an entry like others.
    w = hosts(2);
    w.x.echo(2, 1, 0);
    w.x.spoil(0, 31, 1);
    w.x.deliver(0);
    Check.due("its own address", w.x.tableAt(1, 1), 3);
    Check.due("not the sender's", w.x.tableAt(1, 2), NONE);
  }

  /** "What was put into the table (also anew) goes at the tick by which 200 ticks have passed." */
  private static void tableTicks() {
    Watch w = new Watch();
    w.x.addHost(600, 500);
    w.x.echo(1, 0, 0);
    w.x.deliver(0);
    w.x.pass(3);
    w.x.deliver(0);
    w.x.pass(100);
    w.x.pass(96);
    Check.due("put down at the time 0: 199 ticks", w.x.tableAt(0, 1), 2);
    w.x.pass(1);
    Check.due("200 ticks", w.x.tableAt(0, 1), NONE);
    Check.due("entries", w.x.hostAt(0, 0), 0);
    w.x.pass(2);
    Check.due("put down at the time 3: 199 ticks", w.x.tableAt(1, 0), 1);
    w.x.pass(1);
    Check.due("200 ticks", w.x.tableAt(1, 0), NONE);
  }

  /** "of 4 of the host that wait already, whatever their addresses, the first one is thrown away". */
  private static void fourWait() {
    Watch w = hosts(4);
    for (int k = 0; k < 4; k++) {
      w.x.echo(1, k == 0 ? 0 : k + 1, k);
      Check.due("wait", w.x.hostAt(1, 1), k + 1);
    }
    w.x.echo(1, 4, 9);
    Check.due("four wait", w.x.hostAt(1, 1), 4);
    Check.due("others' do not count", w.x.hostAt(2, 1), 0);
    w.x.echo(2, 1, 0);
    Check.due("one of the second host", w.x.hostAt(2, 1), 1);
    Check.due("four of the first one", w.x.hostAt(1, 1), 4);
    w.x.settle(1);
    Check.isTrue("the first one was thrown away", !w.x.isAnswered(0));
    for (int k = 1; k < 6; k++) Check.isTrue("the others were answered " + k, w.x.isAnswered(k));
    Check.due("nothing waits", w.x.hostAt(1, 1), 0);
  }

  /** "the datagram waits, as it was made, one in pieces as one"; "the host counts its datagrams" as they are made. */
  private static void waitsAsItWasMade() {
    Watch w = hosts(1);
    w.x.setMtu(1, 100);
    for (int k = 0; k < 5; k++) w.x.echo(1, 0, 73);
    Check.due("all are counted, also the one thrown away", w.x.hostAt(1, 2), 5);
    w.x.setMtu(1, 600);
    w.x.echo(1, 0, 73);
    w.x.deliver(0);
    w.x.deliver(0);
    wire("three in pieces, one whole", w, "1>0 part 0+80 more; 1>0 part 80+1; 1>0 part 0+80 more; 1>0 part 80+1;"
        + " 1>0 part 0+80 more; 1>0 part 80+1; 1>0 echo 5");
    Check.dueText("identifications", w.hex(0, 18, 20) + " " + w.hex(1, 18, 20) + " " + w.hex(6, 18, 20),
        "00 02 00 02 00 05");
  }

  // ---- section 4

  /** "the host counts its datagrams from 0, modulo 65536": far beyond what 512 calls can do, but told. */
  private static void identificationGoesRound() {
    Watch w = known(1);
    Check.due("two datagrams", w.x.hostAt(0, 2) + w.x.hostAt(1, 2), 2);
    w.type("a").x.lookUp(1);
    Check.dueText("the second", w.hex(0, 18, 20), "00 01");
    w.x.lose(0);
    for (int k = 2; k < 65535; k++) {
      w.x.askAgain(0);
      w.x.lose(0);
    }
    w.x.askAgain(0);
    w.x.askAgain(0);
    w.x.askAgain(0);
    Check.dueText("round to 0", w.hex(0, 18, 20) + " " + w.hex(1, 18, 20) + " " + w.hex(2, 18, 20), "ff ff 00 00 00 01");
    Check.due("sum of the header", Watch.sum(w.bytes(0), 14, 34), 0);
    w.x.settle(1);
    Check.due("all are taken", w.x.found(0), -2);
  }

  /** "If it is longer than the MTU, it is sent in pieces": just the MTU, and a byte more. */
  private static void largestWhole() {
    int[] mtus = {100, 101, 107, 108, 599, 600};
    for (int mtu : mtus) {
      Watch w = known(1);
      w.x.setMtu(1, mtu);
      int step = (mtu - 20) / 8 * 8;
      w.x.echo(1, 0, mtu - 28);
      wire("just the MTU " + mtu, w, "1>0 echo 1");
      Check.due("its length", w.x.frameAt(0, 0), 14 + mtu);
      Check.due("is no piece", w.x.frameAt(0, 3), 0);
      w.x.settle(1);
      w.x.echo(1, 0, mtu - 27);
      wire("a byte more than " + mtu, w, "1>0 part 0+" + step + " more; 1>0 part " + step + "+" + (mtu - 19 - step));
      w.x.settle(1);
      Check.due("both are answered", w.x.count(14), 3);
    }
  }

  /** "in the lowest 13 bits the place of the piece divided by 8", odd ones, too; "bit 13 set if more pieces follow". */
  private static void placesOfPieces() {
    Watch w = known(1);
    w.x.setMtu(1, 108);
    w.x.setMtu(0, 108);
    w.x.echo(1, 0, 900);
    Check.due("908 by 88", w.x.count(2), 11);
    for (int k = 0; k < 11; k++) {
      Check.dueText("place of " + k, w.hex(k, 20, 22), String.format("%02x %02x", k < 10 ? 0x20 : 0, 11 * k));
      Check.due("length of " + k, w.x.frameAt(k, 0), 34 + (k < 10 ? 88 : 28));
      Check.due("sum of " + k, Watch.sum(w.bytes(k), 14, 34), 0);
    }
    // Turned round, the last one first.
    for (int k = 10; k > 0; k--) {
      w.x.deliver(k);
      Check.due("is being put together", w.x.hostAt(0, 3), 1);
    }
    w.x.deliver(0);
    Check.due("put together", w.x.hostAt(0, 3), 0);
    w.x.settle(1);
    Check.isTrue("answered", w.x.isAnswered(1));
  }

  /** "the greatest multiple of 8 bytes that fits (the last one what is left, up to that)". */
  private static void lastPieceIsFull() {
    Watch w = known(1);
    w.x.setMtu(1, 100);
    w.x.echo(1, 0, 152);
    wire("two full ones", w, "1>0 part 0+80 more; 1>0 part 80+80");
    w.x.settle(1);
    w.x.echo(1, 0, 153);
    wire("and a byte", w, "1>0 part 0+80 more; 1>0 part 80+80 more; 1>0 part 160+1");
    w.x.settle(1);
    w.x.echo(1, 0, 73);
    wire("a last one of one byte", w, "1>0 part 0+80 more; 1>0 part 80+1");
    w.x.deliver(1);
    Check.due("not whole without the first", w.x.hostAt(0, 4), 3);
    w.x.settle(1);
    Check.due("all answered", w.x.count(14), 4);
  }

  /** "up to 4 datagrams at a time (of 4 .. for a fifth)": one that is whole is none of these. */
  private static void wholeBesideFour() {
    Watch w = known(1);
    w.x.setMtu(1, 100);
    for (int k = 0; k < 4; k++) w.x.echo(1, 0, 100 + k);
    for (int k = 0; k < 4; k++) w.x.deliver(k);
    Check.due("four", w.x.hostAt(0, 3), 4);
    w.x.echo(1, 0, 5);
    w.x.deliver(4);
    Check.due("the whole one is taken", w.x.hostAt(0, 4), 2);
    Check.due("still four", w.x.hostAt(0, 3), 4);
    w.x.settle(1);
    Check.due("all are answered", w.x.count(14), 6);
    Check.due("none is left", w.x.hostAt(0, 3), 0);
  }

  /** "of 4 the one whose first piece came first goes for a fifth": whatever its place, and when others of it came. */
  private static void firstPieceThatCameFirst() {
    Watch w = known(1);
    w.x.setMtu(1, 100);
    for (int k = 0; k < 5; k++) w.x.echo(1, 0, 200);
    // Of the second its last piece comes first, then one of each of the others, then one more of the second.
    w.x.deliver(5);
    w.x.deliver(0);
    w.x.deliver(4);
    w.x.deliver(6);
    w.x.deliver(2);
    Check.due("four", w.x.hostAt(0, 3), 4);
    Check.dueText("what is left", w.hex(0, 18, 20) + ", " + w.hex(2, 18, 20) + ", " + w.hex(3, 18, 20) + ", "
        + w.hex(5, 18, 20) + ", " + w.hex(7, 18, 20), "00 01, 00 02, 00 03, 00 04, 00 05");
    w.x.deliver(7);
    Check.due("still four", w.x.hostAt(0, 3), 4);
    w.x.settle(1);
    for (int k = 1; k < 6; k++) Check.isTrue("all but the second are answered " + k, w.x.isAnswered(k) == (k != 2));
    Check.due("a piece of it is left", w.x.hostAt(0, 3), 1);
  }

  /** "Pieces are kept by sender, identification and protocol". */
  private static void keptBySender() {
    Watch w = known(2);
    w.x.setMtu(1, 100);
    w.x.setMtu(2, 100);
    w.x.addHost(600, 500);
    // One more of the first host, so that both have counted as many.
    w.x.echo(1, 0, 0);
    w.x.settle(1);
    while (w.x.hostAt(1, 2) < w.x.hostAt(2, 2)) {
      w.x.echo(1, 0, 0);
      w.x.settle(1);
    }
    while (w.x.hostAt(2, 2) < w.x.hostAt(1, 2)) {
      w.x.echo(2, 0, 0);
      w.x.settle(1);
    }
    int answered = w.x.count(14);
    w.x.echo(1, 0, 100);
    w.x.echo(2, 0, 100);
    Check.dueText("the same identification", w.hex(0, 18, 20), w.hex(2, 18, 20));
    w.x.deliver(0);
    w.x.deliver(1);
    Check.due("two datagrams", w.x.hostAt(0, 3), 2);
    w.x.deliver(0);
    Check.due("one is whole", w.x.hostAt(0, 3), 1);
    w.x.settle(1);
    Check.due("both are answered", w.x.count(14), answered + 2);
    // And by identification: a first and a last piece of two datagrams are none.
    w = known(1);
    w.x.setMtu(1, 100);
    w.x.echo(1, 0, 100);
    w.x.echo(1, 0, 100);
    w.x.lose(1);
    w.x.lose(1);
    w.x.deliver(0);
    w.x.deliver(0);
    Check.due("two that are not whole", w.x.hostAt(0, 3), 2);
    Check.due("none was taken", w.x.hostAt(0, 4), 1);
  }

  /** "until the tick by which 60 have passed since the first piece". */
  private static void keptUntil() {
    Watch w = known(1);
    w.x.setMtu(1, 100);
    w.x.echo(1, 0, 200);
    w.x.deliver(0);
    w.x.pass(30);
    w.x.deliver(0);
    w.x.pass(29);
    Check.due("59 ticks", w.x.hostAt(0, 3), 1);
    w.x.deliver(0);
    Check.due("whole by the last piece", w.x.hostAt(0, 4), 2);
    w.x.settle(1);
    w.x.echo(1, 0, 200);
    w.x.deliver(0);
    w.x.pass(30);
    w.x.deliver(0);
    w.x.pass(30);
    Check.due("60 ticks since the first, 30 since the second", w.x.hostAt(0, 3), 0);
    w.x.deliver(0);
    Check.due("the last one is alone", w.x.hostAt(0, 3), 1);
    Check.due("and not taken", w.x.hostAt(0, 4), 2);
    w.x.pass(59);
    Check.due("its own 59", w.x.hostAt(0, 3), 1);
    w.x.pass(1);
    Check.due("its own 60", w.x.hostAt(0, 3), 0);
  }

  private static void keptOfDifferentAges() {
    Watch w = known(1);
    w.x.setMtu(1, 100);
    for (int k = 0; k < 4; k++) {
      w.x.echo(1, 0, 100);
      w.x.deliver(0);
      w.x.lose(0);
      w.x.pass(5);
    }
    w.x.pass(39);
    Check.due("all four", w.x.hostAt(0, 3), 4);
    for (int k = 3; k >= 0; k--) {
      w.x.pass(k == 3 ? 1 : 4);
      Check.due("the oldest goes", w.x.hostAt(0, 3), k);
      w.x.pass(1);
      Check.due("no other, until its time", w.x.hostAt(0, 3), k == 0 ? 0 : k);
    }
  }

  /** "Bytes that come again are put again." */
  private static void putAgain() {
    Watch w = known(1);
    w.x.setMtu(1, 100);
    w.x.echo(1, 0, 200);
    w.x.twice(0);
    w.x.twice(1);
    w.x.deliver(0);
    w.x.deliver(0);
    // Left: the last one, the first again, the second again.
    w.x.deliver(1);
    w.x.deliver(1);
    Check.due("one datagram", w.x.hostAt(0, 3), 1);
    Check.due("not taken yet", w.x.hostAt(0, 4), 1);
    w.x.deliver(0);
    Check.due("taken", w.x.hostAt(0, 4), 2);
    w.x.settle(1);
    Check.isTrue("with the right bytes", w.x.isAnswered(lastEcho(w)));
  }

  // ---- promises 17 to 19

  /** "host by host .. then the host's connections, by ascending numbers". */
  private static void tickByTick() {
    Watch w = known(2);
    w.x.connect(2, 0, 80);
    w.x.connect(1, 0, 80);
    w.x.connect(2, 0, 80);
    w.x.connect(1, 0, 80);
    while (w.x.count(2) > 0) w.x.lose(0);
    w.x.pass(10);
    Check.dueText("SYNs", w.hex(0, 34, 36) + ", " + w.hex(1, 34, 36) + ", " + w.hex(2, 34, 36) + ", " + w.hex(3, 34, 36),
        "9c 41, 9c 43, 9c 40, 9c 42");
    for (int k = 0; k < 4; k++) w.x.deliver(0);
    while (w.x.count(2) > 0) w.x.lose(0);
    w.x.pass(10);
    Check.due("the server's, each in its turn", w.x.count(2), 4);
    Check.dueText("to their ports", w.hex(0, 36, 38) + ", " + w.hex(1, 36, 38) + ", " + w.hex(2, 36, 38) + ", "
        + w.hex(3, 36, 38), "9c 41, 9c 43, 9c 40, 9c 42");
    w.x.pass(10);
    Check.dueText("the server ahead of its clients", w.frame(4).substring(0, 6) + w.frame(7).substring(0, 3),
        "1>0 S 2>0");
  }

  /** "not so many ticks have passed by this": the last one, and none too many. */
  private static void settlesToTheLastTick() {
    for (int ticks = 1; ticks <= 60; ticks += 59) {
      Watch w = known(1);
      w.x.connect(1, 0, 80);
      w.x.lose(0);
      w.x.addHost(600, 500);
      w.x.connect(2, 1, 80);
      w.x.lose(0);
      // What the timers send goes to a host that does not exist.
      int time = w.x.count(0);
      int passed = w.x.settle(ticks);
      Check.due("ticks", w.x.count(0) - time, passed);
      Check.due("as many as are let, or as needed", passed, ticks == 1 ? 1 : 10);
      Check.due("all frames are delivered", w.x.count(2), 0);
    }
    Watch w = known(1);
    w.x.echo(1, 0, 0);
    Check.due("no timer, no tick", w.x.settle(60), 0);
    Check.isTrue("but all frames", w.x.isAnswered(1));
  }

  /** "at most 500 of them in the whole call (with the 500th it ends)": 499 frames and a tick, 500 and none, 501. */
  private static void settlesToTheLastFrame() {
    int least = deliveries(many(0));
    Check.isTrue("frames of their own: " + least, least > 450 && least < 499);
    for (int all = 499; all <= 502; all++) {
      int due = deliveries(many(all - least));
      Check.due("frames in all", due, all);
      Watch w = many(all - least);
      int time = w.x.count(0);
      Check.due("ticks behind " + all, w.x.settle(1), all < 500 ? 1 : 0);
      Check.due("the time", w.x.count(0) - time, all < 500 ? 1 : 0);
      Check.due("frames that are left", w.x.count(2), Math.max(0, all - 500));
      if (all == 500) Check.due("the next call lets a tick pass", w.x.settle(1), 1);
    }
  }

  /** Delivers all frames by hand; returns how many these were. */
  private static int deliveries(Watch w) {
    int many = 0;
    while (w.x.count(2) > 0) {
      w.x.deliver(0);
      many++;
    }
    return many;
  }

  /** A wire with frames that make many others, and with so many that make none. */
  private static Watch many(int extra) {
    Watch w = new Watch();
    for (int k = 0; k < 3; k++) w.x.addHost(600, 40);
    for (int k = 0; k < 6; k++) {
      w.x.connect(1 + k % 3, 0, 80);
      w.x.settle(1);
    }
    w.type("a").x.lookUp(1);
    for (int k = 0; k < extra; k++) {
      // An answer, to which there is none, is doubled.
      if (k == 0) w.x.deliver(0);
      else w.x.twice(0);
    }
    String requests = "GET / HTTP/1.1\r\nHost:\r\n\r\n".repeat(15);
    for (int k = 0; k < 12; k++) w.write(k / 2 * 2, requests);
    int first = w.x.count(2) - 6;
    for (int k = 0; k < 24; k++) w.x.twice(first + k);
    // Questions, each of which has an answer.
    if (extra > 0) w.type("b").x.lookUp(1);
    for (int k = 0; k < 34; k++) w.x.askAgain(extra > 0 ? 1 : 0);
    return w;
  }

  /** "0 to 10 deliver(), 11 lose(), 12 twice(), 13 spoil() by draws of 1000, of 1000 and of 255 (and 1), 14 and 15 a tick". */
  private static void playsEachAct() {
    for (int seed = 0; seed < 400; seed++) {
      Watch played = known(1);
      Watch made = known(1);
      for (Watch w : new Watch[] {played, made}) {
        w.x.setMtu(1, 100);
        for (int k = 0; k < 3; k++) w.x.echo(1, 0, 60 + 20 * k);
      }
      int drawn = seed * 40503 + 11;
      Check.due("the time", played.x.play(drawn, 9), handPlay(made.x, drawn, 9));
      Check.dueText("all of seed " + seed, played.all(), made.all());
    }
  }

  private static int handPlay(Lanternserver x, int seed, int many) {
    int[] drawn = {seed};
    for (int k = 0; k < many; k++) {
      int act = draw(drawn, 16);
      if (act <= 10) x.deliver(draw(drawn, 1000));
      else if (act == 11) x.lose(draw(drawn, 1000));
      else if (act == 12) x.twice(draw(drawn, 1000));
      else if (act == 13) x.spoil(draw(drawn, 1000), draw(drawn, 1000), draw(drawn, 255) + 1);
      else x.pass(1);
    }
    return x.count(0);
  }

  private static int draw(int[] seed, int many) {
    seed[0] = seed[0] * 1103515245 + 12345;
    return (seed[0] >>> 16) % many;
  }
}
