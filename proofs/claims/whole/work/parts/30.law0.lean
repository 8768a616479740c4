/-! THE CLAIM OUT OF ONE WALK OF THE LAW'S BODY. Your part is whole_start (and what it stands on); all else here is the same for every law, but numbers. -/
def R_law : String := "FuneralDebtsLaw"
def lw_P (b : Addr) (xs : List Int32) (args : Array Value) (s : State) : Prop := args = #[.ref b] ∧ s.IntsAt b xs ∧ xs.length ≤ 3072 ∧ (Jvm.Cond.and given_1 narrow_1).before args s = true
def lw_Q (_ : Array Value) (s : State) (o : Outcome) (t : State) : Prop := o = .returned (some (.int 1)) ∧ Framed s o t [] 600000 7302250
def lw_Z (below : List Frame) (a : Array Value) (s : State) : State → Prop := fun t => ∃ o, t.status = .running ∧ Ended t below o ∧ lw_Q a s o t
/-- the law's own end, with 1 on the stack, nothing written that was there before, its room as the claim has it -/
theorem lw_ret {p : Program} {l : Launch} {e : Env} {s : State} {m : MethodId} {below : List Frame} {meth : Method} {c : Code} {b : Nat} (hx : p.tables.exec = Jvm.exec) (hb : c.code = code) (hr : meth.sig.returnType = ret) (hlocks : meth.locks = false) {pc : Nat} {H : Heap} {ls : Array Slot} (hdg : decode code pc = .ok (.ireturn, 1)) : W p l e room_1 s m #[Value.ref b] below meth c H [] 600000 7302250 (lw_Z below #[Value.ref b] s) (F0 m pc ls [.int 1]) := by
  intro T hT X
  obtain ⟨fs, hret, hrun, hended, hW, hframe⟩ := X.leave (v := some (.int 1)) (hlocks := hlocks) (fun h => by rw [hr] at h; cases h)
  have hmeth' : T.vm.method? m = some meth := X.method'
  refine ⟨T.setFrames fs, ?_, .returned (some (.int 1)), hrun, hended, rfl, ⟨_, rfl⟩, hW, hframe⟩
  jvm_step X.here [X.here.top, hx, hb, hdg, hmeth', hr, ret, narrow_b1]
  (try refine ⟨rfl, ?_⟩); (try refine ⟨rfl, ?_⟩)
  first | (intro acts; rw [hret _ acts rfl rfl rfl]) | rw [hret _ _ rfl rfl rfl]
  exact Steps.refl _
/-- what holds at the law's entry: the machine, the code, the tables' words (any of lw_tbl by 'hts w (by decide +kernel)'), the script of L ints xs at the cell b, what the Statement gives of the start (any of its parts by flat_of_before) -/
def lw_At (p : Program) (s : State) (m : MethodId) (meth : Method) (c : Code) (b L : Nat) (xs : Nat → Int32) : Prop :=
  p.tables.exec = Jvm.exec ∧ c.code = code ∧ meth.sig.returnType = ret ∧ c.maxLocals = 4 ∧ s.vm.findClass R_law = some m.cls ∧ (∀ w ∈ lw_tbl, w.before #[Value.ref b] s = true) ∧ va_X b L xs s s.heap ∧ b < s.heap.size ∧ meth.locks = false ∧ (Jvm.Cond.and given_1 narrow_1).before #[Value.ref b] s = true
theorem tw_289 : Cond.methodLink RL (13 : Nat) yX7_mourner ∈ TB := TB_in 339 (by decide +kernel) rfl
theorem tw_290 : Cond.instanceMethod yX7_mourner ∈ TB := TB_in 340 (by decide +kernel) rfl
theorem tw_291 : Cond.selects RX7 yX7_mourner yX7_mourner ∈ TB := TB_in 341 (by decide +kernel) rfl
theorem tw_292 : Cond.code yX7_mourner cX7_mourner (5 : Nat) (Option.some Jvm.ClassFile.FieldType.int) ∈ TB := TB_in 342 (by decide +kernel) rfl
theorem tw_303 : Cond.methodLink RL (18 : Nat) yX7_of ∈ TB := TB_in 353 (by decide +kernel) rfl
theorem tw_304 : Cond.instanceMethod yX7_of ∈ TB := TB_in 354 (by decide +kernel) rfl
theorem tw_305 : Cond.selects RX7 yX7_of yX7_of ∈ TB := TB_in 355 (by decide +kernel) rfl
theorem tw_306 : Cond.code yX7_of cX7_of (3 : Nat) (Option.some Jvm.ClassFile.FieldType.int) ∈ TB := TB_in 356 (by decide +kernel) rfl
theorem tw_375 : Cond.methodLink RL (23 : Nat) yX7_set ∈ TB := TB_in 425 (by decide +kernel) rfl
theorem tw_376 : Cond.instanceMethod yX7_set ∈ TB := TB_in 426 (by decide +kernel) rfl
theorem tw_377 : Cond.selects RX7 yX7_set yX7_set ∈ TB := TB_in 427 (by decide +kernel) rfl
theorem tw_378 : Cond.code yX7_set cX7_set (6 : Nat) (Option.some Jvm.ClassFile.FieldType.int) ∈ TB := TB_in 428 (by decide +kernel) rfl
theorem tw_380 : Cond.methodLink RL (28 : Nat) yX7_away ∈ TB := TB_in 430 (by decide +kernel) rfl
theorem tw_381 : Cond.instanceMethod yX7_away ∈ TB := TB_in 431 (by decide +kernel) rfl
theorem tw_382 : Cond.selects RX7 yX7_away yX7_away ∈ TB := TB_in 432 (by decide +kernel) rfl
theorem tw_383 : Cond.code yX7_away cX7_away (4 : Nat) (Option.some Jvm.ClassFile.FieldType.int) ∈ TB := TB_in 433 (by decide +kernel) rfl
theorem tw_388 : Cond.methodLink RL (33 : Nat) yX7_debt ∈ TB := TB_in 438 (by decide +kernel) rfl
theorem tw_389 : Cond.instanceMethod yX7_debt ∈ TB := TB_in 439 (by decide +kernel) rfl
theorem tw_390 : Cond.selects RX7 yX7_debt yX7_debt ∈ TB := TB_in 440 (by decide +kernel) rfl
theorem tw_391 : Cond.code yX7_debt cX7_debt (3 : Nat) (Option.some Jvm.ClassFile.FieldType.int) ∈ TB := TB_in 441 (by decide +kernel) rfl
theorem tw_392 : Cond.methodLink RL (38 : Nat) yX7_row ∈ TB := TB_in 442 (by decide +kernel) rfl
theorem tw_393 : Cond.instanceMethod yX7_row ∈ TB := TB_in 443 (by decide +kernel) rfl
theorem tw_394 : Cond.selects RX7 yX7_row yX7_row ∈ TB := TB_in 444 (by decide +kernel) rfl
theorem tw_395 : Cond.code yX7_row cX7_row (6 : Nat) (Option.some Jvm.ClassFile.FieldType.int) ∈ TB := TB_in 445 (by decide +kernel) rfl
theorem tw_396 : Cond.methodLink RL (42 : Nat) yX7_feed ∈ TB := TB_in 446 (by decide +kernel) rfl
theorem tw_397 : Cond.instanceMethod yX7_feed ∈ TB := TB_in 447 (by decide +kernel) rfl
theorem tw_398 : Cond.selects RX7 yX7_feed yX7_feed ∈ TB := TB_in 448 (by decide +kernel) rfl
theorem tw_399 : Cond.code yX7_feed cX7_feed (2 : Nat) (Option.some Jvm.ClassFile.FieldType.int) ∈ TB := TB_in 449 (by decide +kernel) rfl
theorem tw_404 : Cond.methodLink RL (46 : Nat) yX7_parish ∈ TB := TB_in 454 (by decide +kernel) rfl
theorem tw_405 : Cond.instanceMethod yX7_parish ∈ TB := TB_in 455 (by decide +kernel) rfl
theorem tw_406 : Cond.selects RX7 yX7_parish yX7_parish ∈ TB := TB_in 456 (by decide +kernel) rfl
theorem tw_407 : Cond.code yX7_parish cX7_parish (2 : Nat) (Option.some Jvm.ClassFile.FieldType.int) ∈ TB := TB_in 457 (by decide +kernel) rfl
theorem tw_509 : Cond.methodLink RL (51 : Nat) yX7_told ∈ TB := TB_in 559 (by decide +kernel) rfl
theorem tw_510 : Cond.instanceMethod yX7_told ∈ TB := TB_in 560 (by decide +kernel) rfl
theorem tw_511 : Cond.selects RX7 yX7_told yX7_told ∈ TB := TB_in 561 (by decide +kernel) rfl
theorem tw_512 : Cond.code yX7_told cX7_told (2 : Nat) (Option.some Jvm.ClassFile.FieldType.int) ∈ TB := TB_in 562 (by decide +kernel) rfl
theorem tw_555 : Cond.methodLink RL (55 : Nat) yX7_pass ∈ TB := TB_in 605 (by decide +kernel) rfl
theorem tw_556 : Cond.instanceMethod yX7_pass ∈ TB := TB_in 606 (by decide +kernel) rfl
theorem tw_557 : Cond.selects RX7 yX7_pass yX7_pass ∈ TB := TB_in 607 (by decide +kernel) rfl
theorem tw_558 : Cond.code yX7_pass cX7_pass (3 : Nat) (Option.some Jvm.ClassFile.FieldType.int) ∈ TB := TB_in 608 (by decide +kernel) rfl
theorem tw_560 : Cond.methodLink RL (59 : Nat) yX7_on ∈ TB := TB_in 610 (by decide +kernel) rfl
theorem tw_561 : Cond.instanceMethod yX7_on ∈ TB := TB_in 611 (by decide +kernel) rfl
theorem tw_562 : Cond.selects RX7 yX7_on yX7_on ∈ TB := TB_in 612 (by decide +kernel) rfl
theorem tw_563 : Cond.code yX7_on cX7_on (6 : Nat) (Option.some Jvm.ClassFile.FieldType.int) ∈ TB := TB_in 613 (by decide +kernel) rfl
theorem tw_564 : Cond.methodLink RL (63 : Nat) yX7_kept ∈ TB := TB_in 614 (by decide +kernel) rfl
theorem tw_565 : Cond.instanceMethod yX7_kept ∈ TB := TB_in 615 (by decide +kernel) rfl
theorem tw_566 : Cond.selects RX7 yX7_kept yX7_kept ∈ TB := TB_in 616 (by decide +kernel) rfl
theorem tw_567 : Cond.code yX7_kept cX7_kept (7 : Nat) (Option.some Jvm.ClassFile.FieldType.int) ∈ TB := TB_in 617 (by decide +kernel) rfl
theorem tw_574 : Cond.methodLink RL (67 : Nat) yX7_see ∈ TB := TB_in 624 (by decide +kernel) rfl
theorem tw_575 : Cond.instanceMethod yX7_see ∈ TB := TB_in 625 (by decide +kernel) rfl
theorem tw_576 : Cond.selects RX7 yX7_see yX7_see ∈ TB := TB_in 626 (by decide +kernel) rfl
theorem tw_577 : Cond.code yX7_see cX7_see (3 : Nat) (Option.some Jvm.ClassFile.FieldType.int) ∈ TB := TB_in 627 (by decide +kernel) rfl
theorem tw_587 : Cond.methodLink RL (71 : Nat) yX7_can ∈ TB := TB_in 637 (by decide +kernel) rfl
theorem tw_588 : Cond.instanceMethod yX7_can ∈ TB := TB_in 638 (by decide +kernel) rfl
theorem tw_589 : Cond.selects RX7 yX7_can yX7_can ∈ TB := TB_in 639 (by decide +kernel) rfl
theorem tw_590 : Cond.code yX7_can cX7_can (6 : Nat) (Option.some Jvm.ClassFile.FieldType.int) ∈ TB := TB_in 640 (by decide +kernel) rfl
theorem tw_591 : Cond.methodLink RL (75 : Nat) yX7_odds ∈ TB := TB_in 641 (by decide +kernel) rfl
theorem tw_592 : Cond.instanceMethod yX7_odds ∈ TB := TB_in 642 (by decide +kernel) rfl
theorem tw_593 : Cond.selects RX7 yX7_odds yX7_odds ∈ TB := TB_in 643 (by decide +kernel) rfl
theorem tw_594 : Cond.code yX7_odds cX7_odds (8 : Nat) (Option.some Jvm.ClassFile.FieldType.long) ∈ TB := TB_in 644 (by decide +kernel) rfl
theorem tw_599 : Cond.methodLink RL (80 : Nat) yX7_mean ∈ TB := TB_in 649 (by decide +kernel) rfl
theorem tw_600 : Cond.instanceMethod yX7_mean ∈ TB := TB_in 650 (by decide +kernel) rfl
theorem tw_601 : Cond.selects RX7 yX7_mean yX7_mean ∈ TB := TB_in 651 (by decide +kernel) rfl
theorem tw_602 : Cond.code yX7_mean cX7_mean (4 : Nat) (Option.some Jvm.ClassFile.FieldType.long) ∈ TB := TB_in 652 (by decide +kernel) rfl
theorem tw_603 : Cond.methodLink RL (85 : Nat) yX7_plan ∈ TB := TB_in 653 (by decide +kernel) rfl
theorem tw_604 : Cond.instanceMethod yX7_plan ∈ TB := TB_in 654 (by decide +kernel) rfl
theorem tw_605 : Cond.selects RX7 yX7_plan yX7_plan ∈ TB := TB_in 655 (by decide +kernel) rfl
theorem tw_606 : Cond.code yX7_plan cX7_plan (3 : Nat) (Option.some Jvm.ClassFile.FieldType.int) ∈ TB := TB_in 656 (by decide +kernel) rfl
theorem tw_607 : Cond.methodLink RL (89 : Nat) yX7_ends ∈ TB := TB_in 657 (by decide +kernel) rfl
theorem tw_608 : Cond.instanceMethod yX7_ends ∈ TB := TB_in 658 (by decide +kernel) rfl
theorem tw_609 : Cond.selects RX7 yX7_ends yX7_ends ∈ TB := TB_in 659 (by decide +kernel) rfl
theorem tw_610 : Cond.code yX7_ends cX7_ends (4 : Nat) (Option.some Jvm.ClassFile.FieldType.int) ∈ TB := TB_in 660 (by decide +kernel) rfl
theorem tw_615 : Cond.methodLink RL (93 : Nat) yX7_book ∈ TB := TB_in 665 (by decide +kernel) rfl
theorem tw_616 : Cond.instanceMethod yX7_book ∈ TB := TB_in 666 (by decide +kernel) rfl
theorem tw_617 : Cond.selects RX7 yX7_book yX7_book ∈ TB := TB_in 667 (by decide +kernel) rfl
theorem tw_618 : Cond.code yX7_book cX7_book (3 : Nat) (Option.some Jvm.ClassFile.FieldType.int) ∈ TB := TB_in 668 (by decide +kernel) rfl
theorem tw_619 : Cond.methodLink RL (97 : Nat) yX7_looked ∈ TB := TB_in 669 (by decide +kernel) rfl
theorem tw_620 : Cond.instanceMethod yX7_looked ∈ TB := TB_in 670 (by decide +kernel) rfl
theorem tw_621 : Cond.selects RX7 yX7_looked yX7_looked ∈ TB := TB_in 671 (by decide +kernel) rfl
theorem tw_622 : Cond.code yX7_looked cX7_looked (2 : Nat) (Option.some Jvm.ClassFile.FieldType.int) ∈ TB := TB_in 672 (by decide +kernel) rfl
theorem tw_623 : Cond.methodLink RL (101 : Nat) yX7_judge ∈ TB := TB_in 673 (by decide +kernel) rfl
theorem tw_624 : Cond.instanceMethod yX7_judge ∈ TB := TB_in 674 (by decide +kernel) rfl
theorem tw_625 : Cond.selects RX7 yX7_judge yX7_judge ∈ TB := TB_in 675 (by decide +kernel) rfl
theorem tw_626 : Cond.code yX7_judge cX7_judge (5 : Nat) (Option.some Jvm.ClassFile.FieldType.int) ∈ TB := TB_in 676 (by decide +kernel) rfl
theorem tw_640 : Cond.methodLink RL (105 : Nat) yX7_image ∈ TB := TB_in 690 (by decide +kernel) rfl
theorem tw_641 : Cond.instanceMethod yX7_image ∈ TB := TB_in 691 (by decide +kernel) rfl
theorem tw_642 : Cond.selects RX7 yX7_image yX7_image ∈ TB := TB_in 692 (by decide +kernel) rfl
theorem tw_643 : Cond.code yX7_image cX7_image (1 : Nat) (Option.some Jvm.ClassFile.FieldType.int) ∈ TB := TB_in 693 (by decide +kernel) rfl
theorem tw_644 : Cond.methodLink RL (109 : Nat) yX7_undo ∈ TB := TB_in 694 (by decide +kernel) rfl
theorem tw_645 : Cond.instanceMethod yX7_undo ∈ TB := TB_in 695 (by decide +kernel) rfl
theorem tw_646 : Cond.selects RX7 yX7_undo yX7_undo ∈ TB := TB_in 696 (by decide +kernel) rfl
theorem tw_647 : Cond.code yX7_undo cX7_undo (1 : Nat) (Option.some Jvm.ClassFile.FieldType.int) ∈ TB := TB_in 697 (by decide +kernel) rfl
theorem tw_648 : Cond.methodLink RL (113 : Nat) yX7_act ∈ TB := TB_in 698 (by decide +kernel) rfl
theorem tw_649 : Cond.instanceMethod yX7_act ∈ TB := TB_in 699 (by decide +kernel) rfl
theorem tw_650 : Cond.selects RX7 yX7_act yX7_act ∈ TB := TB_in 700 (by decide +kernel) rfl
theorem tw_651 : Cond.code yX7_act cX7_act (4 : Nat) (Option.some Jvm.ClassFile.FieldType.int) ∈ TB := TB_in 701 (by decide +kernel) rfl
theorem tw_673 : Cond.methodLink RL (117 : Nat) yX7_trace ∈ TB := TB_in 723 (by decide +kernel) rfl
theorem tw_674 : Cond.instanceMethod yX7_trace ∈ TB := TB_in 724 (by decide +kernel) rfl
theorem tw_675 : Cond.selects RX7 yX7_trace yX7_trace ∈ TB := TB_in 725 (by decide +kernel) rfl
theorem tw_676 : Cond.code yX7_trace cX7_trace (2 : Nat) (Option.some Jvm.ClassFile.FieldType.int) ∈ TB := TB_in 726 (by decide +kernel) rfl
theorem tw_677 : Cond.methodLink RL (121 : Nat) yX7_taken ∈ TB := TB_in 727 (by decide +kernel) rfl
theorem tw_678 : Cond.instanceMethod yX7_taken ∈ TB := TB_in 728 (by decide +kernel) rfl
theorem tw_679 : Cond.selects RX7 yX7_taken yX7_taken ∈ TB := TB_in 729 (by decide +kernel) rfl
theorem tw_680 : Cond.code yX7_taken cX7_taken (6 : Nat) (Option.some Jvm.ClassFile.FieldType.int) ∈ TB := TB_in 730 (by decide +kernel) rfl
theorem tw_682 : Cond.methodLink RL (125 : Nat) yX7_count ∈ TB := TB_in 732 (by decide +kernel) rfl
theorem tw_683 : Cond.instanceMethod yX7_count ∈ TB := TB_in 733 (by decide +kernel) rfl
theorem tw_684 : Cond.selects RX7 yX7_count yX7_count ∈ TB := TB_in 734 (by decide +kernel) rfl
theorem tw_685 : Cond.code yX7_count cX7_count (2 : Nat) (Option.some Jvm.ClassFile.FieldType.int) ∈ TB := TB_in 735 (by decide +kernel) rfl
theorem tw_686 : Cond.methodLink RL (129 : Nat) yX7_tape ∈ TB := TB_in 736 (by decide +kernel) rfl
theorem tw_687 : Cond.instanceMethod yX7_tape ∈ TB := TB_in 737 (by decide +kernel) rfl
theorem tw_688 : Cond.selects RX7 yX7_tape yX7_tape ∈ TB := TB_in 738 (by decide +kernel) rfl
theorem tw_689 : Cond.code yX7_tape cX7_tape (5 : Nat) (Option.some Jvm.ClassFile.FieldType.int) ∈ TB := TB_in 739 (by decide +kernel) rfl
theorem tw_695 : Cond.methodLink RL (135 : Nat) yX7_item ∈ TB := TB_in 745 (by decide +kernel) rfl
theorem tw_696 : Cond.instanceMethod yX7_item ∈ TB := TB_in 746 (by decide +kernel) rfl
theorem tw_697 : Cond.selects RX7 yX7_item yX7_item ∈ TB := TB_in 747 (by decide +kernel) rfl
theorem tw_698 : Cond.code yX7_item cX7_item (6 : Nat) (Option.some Jvm.ClassFile.FieldType.int) ∈ TB := TB_in 748 (by decide +kernel) rfl
theorem tw_707 : Cond.methodLink RL (140 : Nat) yX7_read ∈ TB := TB_in 757 (by decide +kernel) rfl
theorem tw_708 : Cond.instanceMethod yX7_read ∈ TB := TB_in 758 (by decide +kernel) rfl
theorem tw_709 : Cond.selects RX7 yX7_read yX7_read ∈ TB := TB_in 759 (by decide +kernel) rfl
theorem tw_710 : Cond.code yX7_read cX7_read (4 : Nat) (Option.some Jvm.ClassFile.FieldType.long) ∈ TB := TB_in 760 (by decide +kernel) rfl
theorem tw_711 : Cond.methodLink RL (144 : Nat) yX7_shift ∈ TB := TB_in 761 (by decide +kernel) rfl
theorem tw_712 : Cond.instanceMethod yX7_shift ∈ TB := TB_in 762 (by decide +kernel) rfl
theorem tw_713 : Cond.selects RX7 yX7_shift yX7_shift ∈ TB := TB_in 763 (by decide +kernel) rfl
theorem tw_714 : Cond.code yX7_shift cX7_shift (8 : Nat) (Option.some Jvm.ClassFile.FieldType.int) ∈ TB := TB_in 764 (by decide +kernel) rfl
theorem tw_823 : Cond.methodLink RL (108 : Nat) yX8_image ∈ TB := TB_in 873 (by decide +kernel) rfl
theorem tw_824 : Cond.instanceMethod yX8_image ∈ TB := TB_in 874 (by decide +kernel) rfl
theorem tw_825 : Cond.selects RX8 yX8_image yX8_image ∈ TB := TB_in 875 (by decide +kernel) rfl
theorem tw_826 : Cond.code yX8_image cX8_image (2 : Nat) (Option.some Jvm.ClassFile.FieldType.int) ∈ TB := TB_in 876 (by decide +kernel) rfl
theorem tw_827 : Cond.methodLink RL (112 : Nat) yX8_undo ∈ TB := TB_in 877 (by decide +kernel) rfl
theorem tw_828 : Cond.instanceMethod yX8_undo ∈ TB := TB_in 878 (by decide +kernel) rfl
theorem tw_829 : Cond.selects RX8 yX8_undo yX8_undo ∈ TB := TB_in 879 (by decide +kernel) rfl
theorem tw_830 : Cond.code yX8_undo cX8_undo (2 : Nat) (Option.some Jvm.ClassFile.FieldType.int) ∈ TB := TB_in 880 (by decide +kernel) rfl
theorem tw_831 : Cond.methodLink RL (17 : Nat) yX8_mourner ∈ TB := TB_in 881 (by decide +kernel) rfl
theorem tw_832 : Cond.instanceMethod yX8_mourner ∈ TB := TB_in 882 (by decide +kernel) rfl
theorem tw_833 : Cond.selects RX8 yX8_mourner yX8_mourner ∈ TB := TB_in 883 (by decide +kernel) rfl
theorem tw_834 : Cond.code yX8_mourner cX8_mourner (7 : Nat) (Option.some Jvm.ClassFile.FieldType.int) ∈ TB := TB_in 884 (by decide +kernel) rfl
theorem tw_849 : Cond.methodLink RL (22 : Nat) yX8_of ∈ TB := TB_in 899 (by decide +kernel) rfl
theorem tw_850 : Cond.instanceMethod yX8_of ∈ TB := TB_in 900 (by decide +kernel) rfl
theorem tw_851 : Cond.selects RX8 yX8_of yX8_of ∈ TB := TB_in 901 (by decide +kernel) rfl
theorem tw_852 : Cond.code yX8_of cX8_of (3 : Nat) (Option.some Jvm.ClassFile.FieldType.int) ∈ TB := TB_in 902 (by decide +kernel) rfl
theorem tw_922 : Cond.methodLink RL (27 : Nat) yX8_set ∈ TB := TB_in 972 (by decide +kernel) rfl
theorem tw_923 : Cond.instanceMethod yX8_set ∈ TB := TB_in 973 (by decide +kernel) rfl
theorem tw_924 : Cond.selects RX8 yX8_set yX8_set ∈ TB := TB_in 974 (by decide +kernel) rfl
theorem tw_925 : Cond.code yX8_set cX8_set (4 : Nat) (Option.some Jvm.ClassFile.FieldType.int) ∈ TB := TB_in 975 (by decide +kernel) rfl
theorem tw_926 : Cond.methodLink RL (32 : Nat) yX8_away ∈ TB := TB_in 976 (by decide +kernel) rfl
theorem tw_927 : Cond.instanceMethod yX8_away ∈ TB := TB_in 977 (by decide +kernel) rfl
theorem tw_928 : Cond.selects RX8 yX8_away yX8_away ∈ TB := TB_in 978 (by decide +kernel) rfl
theorem tw_929 : Cond.code yX8_away cX8_away (3 : Nat) (Option.some Jvm.ClassFile.FieldType.int) ∈ TB := TB_in 979 (by decide +kernel) rfl
theorem tw_930 : Cond.methodLink RL (37 : Nat) yX8_debt ∈ TB := TB_in 980 (by decide +kernel) rfl
theorem tw_931 : Cond.instanceMethod yX8_debt ∈ TB := TB_in 981 (by decide +kernel) rfl
theorem tw_932 : Cond.selects RX8 yX8_debt yX8_debt ∈ TB := TB_in 982 (by decide +kernel) rfl
theorem tw_933 : Cond.code yX8_debt cX8_debt (3 : Nat) (Option.some Jvm.ClassFile.FieldType.int) ∈ TB := TB_in 983 (by decide +kernel) rfl
theorem tw_934 : Cond.methodLink RL (41 : Nat) yX8_row ∈ TB := TB_in 984 (by decide +kernel) rfl
theorem tw_935 : Cond.instanceMethod yX8_row ∈ TB := TB_in 985 (by decide +kernel) rfl
theorem tw_936 : Cond.selects RX8 yX8_row yX8_row ∈ TB := TB_in 986 (by decide +kernel) rfl
theorem tw_937 : Cond.code yX8_row cX8_row (4 : Nat) (Option.some Jvm.ClassFile.FieldType.int) ∈ TB := TB_in 987 (by decide +kernel) rfl
theorem tw_938 : Cond.methodLink RL (45 : Nat) yX8_feed ∈ TB := TB_in 988 (by decide +kernel) rfl
theorem tw_939 : Cond.instanceMethod yX8_feed ∈ TB := TB_in 989 (by decide +kernel) rfl
theorem tw_940 : Cond.selects RX8 yX8_feed yX8_feed ∈ TB := TB_in 990 (by decide +kernel) rfl
theorem tw_941 : Cond.code yX8_feed cX8_feed (2 : Nat) (Option.some Jvm.ClassFile.FieldType.int) ∈ TB := TB_in 991 (by decide +kernel) rfl
theorem tw_942 : Cond.methodLink RL (50 : Nat) yX8_parish ∈ TB := TB_in 992 (by decide +kernel) rfl
theorem tw_943 : Cond.instanceMethod yX8_parish ∈ TB := TB_in 993 (by decide +kernel) rfl
theorem tw_944 : Cond.selects RX8 yX8_parish yX8_parish ∈ TB := TB_in 994 (by decide +kernel) rfl
theorem tw_945 : Cond.code yX8_parish cX8_parish (2 : Nat) (Option.some Jvm.ClassFile.FieldType.int) ∈ TB := TB_in 995 (by decide +kernel) rfl
theorem tw_946 : Cond.methodLink RL (54 : Nat) yX8_told ∈ TB := TB_in 996 (by decide +kernel) rfl
theorem tw_947 : Cond.instanceMethod yX8_told ∈ TB := TB_in 997 (by decide +kernel) rfl
theorem tw_948 : Cond.selects RX8 yX8_told yX8_told ∈ TB := TB_in 998 (by decide +kernel) rfl
theorem tw_949 : Cond.code yX8_told cX8_told (2 : Nat) (Option.some Jvm.ClassFile.FieldType.int) ∈ TB := TB_in 999 (by decide +kernel) rfl
theorem tw_988 : Cond.methodLink RL (58 : Nat) yX8_pass ∈ TB := TB_in 1038 (by decide +kernel) rfl
theorem tw_989 : Cond.instanceMethod yX8_pass ∈ TB := TB_in 1039 (by decide +kernel) rfl
theorem tw_990 : Cond.selects RX8 yX8_pass yX8_pass ∈ TB := TB_in 1040 (by decide +kernel) rfl
theorem tw_991 : Cond.code yX8_pass cX8_pass (3 : Nat) (Option.some Jvm.ClassFile.FieldType.int) ∈ TB := TB_in 1041 (by decide +kernel) rfl
theorem tw_992 : Cond.methodLink RL (62 : Nat) yX8_on ∈ TB := TB_in 1042 (by decide +kernel) rfl
theorem tw_993 : Cond.instanceMethod yX8_on ∈ TB := TB_in 1043 (by decide +kernel) rfl
theorem tw_994 : Cond.selects RX8 yX8_on yX8_on ∈ TB := TB_in 1044 (by decide +kernel) rfl
theorem tw_995 : Cond.code yX8_on cX8_on (4 : Nat) (Option.some Jvm.ClassFile.FieldType.int) ∈ TB := TB_in 1045 (by decide +kernel) rfl
theorem tw_996 : Cond.methodLink RL (66 : Nat) yX8_kept ∈ TB := TB_in 1046 (by decide +kernel) rfl
theorem tw_997 : Cond.instanceMethod yX8_kept ∈ TB := TB_in 1047 (by decide +kernel) rfl
theorem tw_998 : Cond.selects RX8 yX8_kept yX8_kept ∈ TB := TB_in 1048 (by decide +kernel) rfl
theorem tw_999 : Cond.code yX8_kept cX8_kept (6 : Nat) (Option.some Jvm.ClassFile.FieldType.int) ∈ TB := TB_in 1049 (by decide +kernel) rfl
theorem tw_1003 : Cond.methodLink RL (70 : Nat) yX8_see ∈ TB := TB_in 1053 (by decide +kernel) rfl
theorem tw_1004 : Cond.instanceMethod yX8_see ∈ TB := TB_in 1054 (by decide +kernel) rfl
theorem tw_1005 : Cond.selects RX8 yX8_see yX8_see ∈ TB := TB_in 1055 (by decide +kernel) rfl
theorem tw_1006 : Cond.code yX8_see cX8_see (4 : Nat) (Option.some Jvm.ClassFile.FieldType.int) ∈ TB := TB_in 1056 (by decide +kernel) rfl
theorem tw_1007 : Cond.methodLink RL (74 : Nat) yX8_can ∈ TB := TB_in 1057 (by decide +kernel) rfl
theorem tw_1008 : Cond.instanceMethod yX8_can ∈ TB := TB_in 1058 (by decide +kernel) rfl
theorem tw_1009 : Cond.selects RX8 yX8_can yX8_can ∈ TB := TB_in 1059 (by decide +kernel) rfl
theorem tw_1010 : Cond.code yX8_can cX8_can (8 : Nat) (Option.some Jvm.ClassFile.FieldType.int) ∈ TB := TB_in 1060 (by decide +kernel) rfl
theorem tw_1011 : Cond.methodLink RL (79 : Nat) yX8_odds ∈ TB := TB_in 1061 (by decide +kernel) rfl
theorem tw_1012 : Cond.instanceMethod yX8_odds ∈ TB := TB_in 1062 (by decide +kernel) rfl
theorem tw_1013 : Cond.selects RX8 yX8_odds yX8_odds ∈ TB := TB_in 1063 (by decide +kernel) rfl
theorem tw_1014 : Cond.code yX8_odds cX8_odds (7 : Nat) (Option.some Jvm.ClassFile.FieldType.long) ∈ TB := TB_in 1064 (by decide +kernel) rfl
theorem tw_1019 : Cond.methodLink RL (84 : Nat) yX8_mean ∈ TB := TB_in 1069 (by decide +kernel) rfl
theorem tw_1020 : Cond.instanceMethod yX8_mean ∈ TB := TB_in 1070 (by decide +kernel) rfl
theorem tw_1021 : Cond.selects RX8 yX8_mean yX8_mean ∈ TB := TB_in 1071 (by decide +kernel) rfl
theorem tw_1022 : Cond.code yX8_mean cX8_mean (3 : Nat) (Option.some Jvm.ClassFile.FieldType.long) ∈ TB := TB_in 1072 (by decide +kernel) rfl
theorem tw_1023 : Cond.methodLink RL (88 : Nat) yX8_plan ∈ TB := TB_in 1073 (by decide +kernel) rfl
theorem tw_1024 : Cond.instanceMethod yX8_plan ∈ TB := TB_in 1074 (by decide +kernel) rfl
theorem tw_1025 : Cond.selects RX8 yX8_plan yX8_plan ∈ TB := TB_in 1075 (by decide +kernel) rfl
theorem tw_1026 : Cond.code yX8_plan cX8_plan (3 : Nat) (Option.some Jvm.ClassFile.FieldType.int) ∈ TB := TB_in 1076 (by decide +kernel) rfl
theorem tw_1027 : Cond.methodLink RL (92 : Nat) yX8_ends ∈ TB := TB_in 1077 (by decide +kernel) rfl
theorem tw_1028 : Cond.instanceMethod yX8_ends ∈ TB := TB_in 1078 (by decide +kernel) rfl
theorem tw_1029 : Cond.selects RX8 yX8_ends yX8_ends ∈ TB := TB_in 1079 (by decide +kernel) rfl
theorem tw_1030 : Cond.code yX8_ends cX8_ends (5 : Nat) (Option.some Jvm.ClassFile.FieldType.int) ∈ TB := TB_in 1080 (by decide +kernel) rfl
theorem tw_1031 : Cond.methodLink RL (96 : Nat) yX8_book ∈ TB := TB_in 1081 (by decide +kernel) rfl
theorem tw_1032 : Cond.instanceMethod yX8_book ∈ TB := TB_in 1082 (by decide +kernel) rfl
theorem tw_1033 : Cond.selects RX8 yX8_book yX8_book ∈ TB := TB_in 1083 (by decide +kernel) rfl
theorem tw_1034 : Cond.code yX8_book cX8_book (3 : Nat) (Option.some Jvm.ClassFile.FieldType.int) ∈ TB := TB_in 1084 (by decide +kernel) rfl
theorem tw_1035 : Cond.methodLink RL (100 : Nat) yX8_looked ∈ TB := TB_in 1085 (by decide +kernel) rfl
theorem tw_1036 : Cond.instanceMethod yX8_looked ∈ TB := TB_in 1086 (by decide +kernel) rfl
theorem tw_1037 : Cond.selects RX8 yX8_looked yX8_looked ∈ TB := TB_in 1087 (by decide +kernel) rfl
theorem tw_1038 : Cond.code yX8_looked cX8_looked (2 : Nat) (Option.some Jvm.ClassFile.FieldType.int) ∈ TB := TB_in 1088 (by decide +kernel) rfl
theorem tw_1039 : Cond.methodLink RL (116 : Nat) yX8_act ∈ TB := TB_in 1089 (by decide +kernel) rfl
theorem tw_1040 : Cond.instanceMethod yX8_act ∈ TB := TB_in 1090 (by decide +kernel) rfl
theorem tw_1041 : Cond.selects RX8 yX8_act yX8_act ∈ TB := TB_in 1091 (by decide +kernel) rfl
theorem tw_1042 : Cond.code yX8_act cX8_act (4 : Nat) (Option.some Jvm.ClassFile.FieldType.int) ∈ TB := TB_in 1092 (by decide +kernel) rfl
theorem tw_1055 : Cond.methodLink RL (120 : Nat) yX8_trace ∈ TB := TB_in 1105 (by decide +kernel) rfl
theorem tw_1056 : Cond.instanceMethod yX8_trace ∈ TB := TB_in 1106 (by decide +kernel) rfl
theorem tw_1057 : Cond.selects RX8 yX8_trace yX8_trace ∈ TB := TB_in 1107 (by decide +kernel) rfl
theorem tw_1058 : Cond.code yX8_trace cX8_trace (2 : Nat) (Option.some Jvm.ClassFile.FieldType.int) ∈ TB := TB_in 1108 (by decide +kernel) rfl
theorem tw_1059 : Cond.methodLink RL (124 : Nat) yX8_taken ∈ TB := TB_in 1109 (by decide +kernel) rfl
theorem tw_1060 : Cond.instanceMethod yX8_taken ∈ TB := TB_in 1110 (by decide +kernel) rfl
theorem tw_1061 : Cond.selects RX8 yX8_taken yX8_taken ∈ TB := TB_in 1111 (by decide +kernel) rfl
theorem tw_1062 : Cond.code yX8_taken cX8_taken (4 : Nat) (Option.some Jvm.ClassFile.FieldType.int) ∈ TB := TB_in 1112 (by decide +kernel) rfl
theorem tw_1063 : Cond.methodLink RL (128 : Nat) yX8_count ∈ TB := TB_in 1113 (by decide +kernel) rfl
theorem tw_1064 : Cond.instanceMethod yX8_count ∈ TB := TB_in 1114 (by decide +kernel) rfl
theorem tw_1065 : Cond.selects RX8 yX8_count yX8_count ∈ TB := TB_in 1115 (by decide +kernel) rfl
theorem tw_1066 : Cond.code yX8_count cX8_count (2 : Nat) (Option.some Jvm.ClassFile.FieldType.int) ∈ TB := TB_in 1116 (by decide +kernel) rfl
theorem tw_1067 : Cond.methodLink RL (132 : Nat) yX8_tape ∈ TB := TB_in 1117 (by decide +kernel) rfl
theorem tw_1068 : Cond.instanceMethod yX8_tape ∈ TB := TB_in 1118 (by decide +kernel) rfl
theorem tw_1069 : Cond.selects RX8 yX8_tape yX8_tape ∈ TB := TB_in 1119 (by decide +kernel) rfl
theorem tw_1070 : Cond.code yX8_tape cX8_tape (5 : Nat) (Option.some Jvm.ClassFile.FieldType.int) ∈ TB := TB_in 1120 (by decide +kernel) rfl
theorem tw_1074 : Cond.methodLink RL (139 : Nat) yX8_item ∈ TB := TB_in 1124 (by decide +kernel) rfl
theorem tw_1075 : Cond.instanceMethod yX8_item ∈ TB := TB_in 1125 (by decide +kernel) rfl
theorem tw_1076 : Cond.selects RX8 yX8_item yX8_item ∈ TB := TB_in 1126 (by decide +kernel) rfl
theorem tw_1077 : Cond.code yX8_item cX8_item (6 : Nat) (Option.some Jvm.ClassFile.FieldType.int) ∈ TB := TB_in 1127 (by decide +kernel) rfl
theorem tw_1078 : Cond.methodLink RL (143 : Nat) yX8_read ∈ TB := TB_in 1128 (by decide +kernel) rfl
theorem tw_1079 : Cond.instanceMethod yX8_read ∈ TB := TB_in 1129 (by decide +kernel) rfl
theorem tw_1080 : Cond.selects RX8 yX8_read yX8_read ∈ TB := TB_in 1130 (by decide +kernel) rfl
theorem tw_1081 : Cond.code yX8_read cX8_read (3 : Nat) (Option.some Jvm.ClassFile.FieldType.long) ∈ TB := TB_in 1131 (by decide +kernel) rfl
theorem tw_1082 : Cond.methodLink RL (148 : Nat) yX8_shift ∈ TB := TB_in 1132 (by decide +kernel) rfl
theorem tw_1083 : Cond.instanceMethod yX8_shift ∈ TB := TB_in 1133 (by decide +kernel) rfl
theorem tw_1084 : Cond.selects RX8 yX8_shift yX8_shift ∈ TB := TB_in 1134 (by decide +kernel) rfl
theorem tw_1085 : Cond.code yX8_shift cX8_shift (7 : Nat) (Option.some Jvm.ClassFile.FieldType.int) ∈ TB := TB_in 1135 (by decide +kernel) rfl
theorem tw_1086 : Cond.methodLink RL (104 : Nat) yX8_judge ∈ TB := TB_in 1136 (by decide +kernel) rfl
theorem tw_1087 : Cond.instanceMethod yX8_judge ∈ TB := TB_in 1137 (by decide +kernel) rfl
theorem tw_1088 : Cond.selects RX8 yX8_judge yX8_judge ∈ TB := TB_in 1138 (by decide +kernel) rfl
theorem tw_1089 : Cond.code yX8_judge cX8_judge (6 : Nat) (Option.some Jvm.ClassFile.FieldType.int) ∈ TB := TB_in 1139 (by decide +kernel) rfl
theorem tw_1090 : Cond.constantLong RL (133 : Nat) (4294967295 : Int64) ∈ TB := TB_in 1140 (by decide +kernel) rfl
theorem hv_X7_mourner : yX7_mourner.cls = RX7 ∧ yX7_mourner.cls ≠ "java/lang/invoke/MethodHandle" ∧ yX7_mourner.cls ≠ "java/lang/invoke/VarHandle" ∧ (parseMethodDescriptor yX7_mourner.desc).map (fun d => d.parameters.length) = some 4 := by decide +kernel
theorem hv_X8_mourner : yX8_mourner.cls = RX8 ∧ yX8_mourner.cls ≠ "java/lang/invoke/MethodHandle" ∧ yX8_mourner.cls ≠ "java/lang/invoke/VarHandle" ∧ (parseMethodDescriptor yX8_mourner.desc).map (fun d => d.parameters.length) = some 4 := by decide +kernel
theorem hv_X7_of : yX7_of.cls = RX7 ∧ yX7_of.cls ≠ "java/lang/invoke/MethodHandle" ∧ yX7_of.cls ≠ "java/lang/invoke/VarHandle" ∧ (parseMethodDescriptor yX7_of.desc).map (fun d => d.parameters.length) = some 2 := by decide +kernel
theorem hv_X8_of : yX8_of.cls = RX8 ∧ yX8_of.cls ≠ "java/lang/invoke/MethodHandle" ∧ yX8_of.cls ≠ "java/lang/invoke/VarHandle" ∧ (parseMethodDescriptor yX8_of.desc).map (fun d => d.parameters.length) = some 2 := by decide +kernel
theorem hv_X7_set : yX7_set.cls = RX7 ∧ yX7_set.cls ≠ "java/lang/invoke/MethodHandle" ∧ yX7_set.cls ≠ "java/lang/invoke/VarHandle" ∧ (parseMethodDescriptor yX7_set.desc).map (fun d => d.parameters.length) = some 3 := by decide +kernel
theorem hv_X8_set : yX8_set.cls = RX8 ∧ yX8_set.cls ≠ "java/lang/invoke/MethodHandle" ∧ yX8_set.cls ≠ "java/lang/invoke/VarHandle" ∧ (parseMethodDescriptor yX8_set.desc).map (fun d => d.parameters.length) = some 3 := by decide +kernel
theorem hv_X7_away : yX7_away.cls = RX7 ∧ yX7_away.cls ≠ "java/lang/invoke/MethodHandle" ∧ yX7_away.cls ≠ "java/lang/invoke/VarHandle" ∧ (parseMethodDescriptor yX7_away.desc).map (fun d => d.parameters.length) = some 2 := by decide +kernel
theorem hv_X8_away : yX8_away.cls = RX8 ∧ yX8_away.cls ≠ "java/lang/invoke/MethodHandle" ∧ yX8_away.cls ≠ "java/lang/invoke/VarHandle" ∧ (parseMethodDescriptor yX8_away.desc).map (fun d => d.parameters.length) = some 2 := by decide +kernel
theorem hv_X7_debt : yX7_debt.cls = RX7 ∧ yX7_debt.cls ≠ "java/lang/invoke/MethodHandle" ∧ yX7_debt.cls ≠ "java/lang/invoke/VarHandle" ∧ (parseMethodDescriptor yX7_debt.desc).map (fun d => d.parameters.length) = some 1 := by decide +kernel
theorem hv_X8_debt : yX8_debt.cls = RX8 ∧ yX8_debt.cls ≠ "java/lang/invoke/MethodHandle" ∧ yX8_debt.cls ≠ "java/lang/invoke/VarHandle" ∧ (parseMethodDescriptor yX8_debt.desc).map (fun d => d.parameters.length) = some 1 := by decide +kernel
theorem hv_X7_row : yX7_row.cls = RX7 ∧ yX7_row.cls ≠ "java/lang/invoke/MethodHandle" ∧ yX7_row.cls ≠ "java/lang/invoke/VarHandle" ∧ (parseMethodDescriptor yX7_row.desc).map (fun d => d.parameters.length) = some 3 := by decide +kernel
theorem hv_X8_row : yX8_row.cls = RX8 ∧ yX8_row.cls ≠ "java/lang/invoke/MethodHandle" ∧ yX8_row.cls ≠ "java/lang/invoke/VarHandle" ∧ (parseMethodDescriptor yX8_row.desc).map (fun d => d.parameters.length) = some 3 := by decide +kernel
theorem hv_X7_feed : yX7_feed.cls = RX7 ∧ yX7_feed.cls ≠ "java/lang/invoke/MethodHandle" ∧ yX7_feed.cls ≠ "java/lang/invoke/VarHandle" ∧ (parseMethodDescriptor yX7_feed.desc).map (fun d => d.parameters.length) = some 1 := by decide +kernel
theorem hv_X8_feed : yX8_feed.cls = RX8 ∧ yX8_feed.cls ≠ "java/lang/invoke/MethodHandle" ∧ yX8_feed.cls ≠ "java/lang/invoke/VarHandle" ∧ (parseMethodDescriptor yX8_feed.desc).map (fun d => d.parameters.length) = some 1 := by decide +kernel
theorem hv_X7_parish : yX7_parish.cls = RX7 ∧ yX7_parish.cls ≠ "java/lang/invoke/MethodHandle" ∧ yX7_parish.cls ≠ "java/lang/invoke/VarHandle" ∧ (parseMethodDescriptor yX7_parish.desc).map (fun d => d.parameters.length) = some 0 := by decide +kernel
theorem hv_X8_parish : yX8_parish.cls = RX8 ∧ yX8_parish.cls ≠ "java/lang/invoke/MethodHandle" ∧ yX8_parish.cls ≠ "java/lang/invoke/VarHandle" ∧ (parseMethodDescriptor yX8_parish.desc).map (fun d => d.parameters.length) = some 0 := by decide +kernel
theorem hv_X7_told : yX7_told.cls = RX7 ∧ yX7_told.cls ≠ "java/lang/invoke/MethodHandle" ∧ yX7_told.cls ≠ "java/lang/invoke/VarHandle" ∧ (parseMethodDescriptor yX7_told.desc).map (fun d => d.parameters.length) = some 1 := by decide +kernel
theorem hv_X8_told : yX8_told.cls = RX8 ∧ yX8_told.cls ≠ "java/lang/invoke/MethodHandle" ∧ yX8_told.cls ≠ "java/lang/invoke/VarHandle" ∧ (parseMethodDescriptor yX8_told.desc).map (fun d => d.parameters.length) = some 1 := by decide +kernel
theorem hv_X7_pass : yX7_pass.cls = RX7 ∧ yX7_pass.cls ≠ "java/lang/invoke/MethodHandle" ∧ yX7_pass.cls ≠ "java/lang/invoke/VarHandle" ∧ (parseMethodDescriptor yX7_pass.desc).map (fun d => d.parameters.length) = some 1 := by decide +kernel
theorem hv_X8_pass : yX8_pass.cls = RX8 ∧ yX8_pass.cls ≠ "java/lang/invoke/MethodHandle" ∧ yX8_pass.cls ≠ "java/lang/invoke/VarHandle" ∧ (parseMethodDescriptor yX8_pass.desc).map (fun d => d.parameters.length) = some 1 := by decide +kernel
theorem hv_X7_on : yX7_on.cls = RX7 ∧ yX7_on.cls ≠ "java/lang/invoke/MethodHandle" ∧ yX7_on.cls ≠ "java/lang/invoke/VarHandle" ∧ (parseMethodDescriptor yX7_on.desc).map (fun d => d.parameters.length) = some 2 := by decide +kernel
theorem hv_X8_on : yX8_on.cls = RX8 ∧ yX8_on.cls ≠ "java/lang/invoke/MethodHandle" ∧ yX8_on.cls ≠ "java/lang/invoke/VarHandle" ∧ (parseMethodDescriptor yX8_on.desc).map (fun d => d.parameters.length) = some 2 := by decide +kernel
theorem hv_X7_kept : yX7_kept.cls = RX7 ∧ yX7_kept.cls ≠ "java/lang/invoke/MethodHandle" ∧ yX7_kept.cls ≠ "java/lang/invoke/VarHandle" ∧ (parseMethodDescriptor yX7_kept.desc).map (fun d => d.parameters.length) = some 2 := by decide +kernel
theorem hv_X8_kept : yX8_kept.cls = RX8 ∧ yX8_kept.cls ≠ "java/lang/invoke/MethodHandle" ∧ yX8_kept.cls ≠ "java/lang/invoke/VarHandle" ∧ (parseMethodDescriptor yX8_kept.desc).map (fun d => d.parameters.length) = some 2 := by decide +kernel
theorem hv_X7_see : yX7_see.cls = RX7 ∧ yX7_see.cls ≠ "java/lang/invoke/MethodHandle" ∧ yX7_see.cls ≠ "java/lang/invoke/VarHandle" ∧ (parseMethodDescriptor yX7_see.desc).map (fun d => d.parameters.length) = some 2 := by decide +kernel
theorem hv_X8_see : yX8_see.cls = RX8 ∧ yX8_see.cls ≠ "java/lang/invoke/MethodHandle" ∧ yX8_see.cls ≠ "java/lang/invoke/VarHandle" ∧ (parseMethodDescriptor yX8_see.desc).map (fun d => d.parameters.length) = some 2 := by decide +kernel
theorem hv_X7_can : yX7_can.cls = RX7 ∧ yX7_can.cls ≠ "java/lang/invoke/MethodHandle" ∧ yX7_can.cls ≠ "java/lang/invoke/VarHandle" ∧ (parseMethodDescriptor yX7_can.desc).map (fun d => d.parameters.length) = some 2 := by decide +kernel
theorem hv_X8_can : yX8_can.cls = RX8 ∧ yX8_can.cls ≠ "java/lang/invoke/MethodHandle" ∧ yX8_can.cls ≠ "java/lang/invoke/VarHandle" ∧ (parseMethodDescriptor yX8_can.desc).map (fun d => d.parameters.length) = some 2 := by decide +kernel
theorem hv_X7_odds : yX7_odds.cls = RX7 ∧ yX7_odds.cls ≠ "java/lang/invoke/MethodHandle" ∧ yX7_odds.cls ≠ "java/lang/invoke/VarHandle" ∧ (parseMethodDescriptor yX7_odds.desc).map (fun d => d.parameters.length) = some 2 := by decide +kernel
theorem hv_X8_odds : yX8_odds.cls = RX8 ∧ yX8_odds.cls ≠ "java/lang/invoke/MethodHandle" ∧ yX8_odds.cls ≠ "java/lang/invoke/VarHandle" ∧ (parseMethodDescriptor yX8_odds.desc).map (fun d => d.parameters.length) = some 2 := by decide +kernel
theorem hv_X7_mean : yX7_mean.cls = RX7 ∧ yX7_mean.cls ≠ "java/lang/invoke/MethodHandle" ∧ yX7_mean.cls ≠ "java/lang/invoke/VarHandle" ∧ (parseMethodDescriptor yX7_mean.desc).map (fun d => d.parameters.length) = some 1 := by decide +kernel
theorem hv_X8_mean : yX8_mean.cls = RX8 ∧ yX8_mean.cls ≠ "java/lang/invoke/MethodHandle" ∧ yX8_mean.cls ≠ "java/lang/invoke/VarHandle" ∧ (parseMethodDescriptor yX8_mean.desc).map (fun d => d.parameters.length) = some 1 := by decide +kernel
theorem hv_X7_plan : yX7_plan.cls = RX7 ∧ yX7_plan.cls ≠ "java/lang/invoke/MethodHandle" ∧ yX7_plan.cls ≠ "java/lang/invoke/VarHandle" ∧ (parseMethodDescriptor yX7_plan.desc).map (fun d => d.parameters.length) = some 2 := by decide +kernel
theorem hv_X8_plan : yX8_plan.cls = RX8 ∧ yX8_plan.cls ≠ "java/lang/invoke/MethodHandle" ∧ yX8_plan.cls ≠ "java/lang/invoke/VarHandle" ∧ (parseMethodDescriptor yX8_plan.desc).map (fun d => d.parameters.length) = some 2 := by decide +kernel
theorem hv_X7_ends : yX7_ends.cls = RX7 ∧ yX7_ends.cls ≠ "java/lang/invoke/MethodHandle" ∧ yX7_ends.cls ≠ "java/lang/invoke/VarHandle" ∧ (parseMethodDescriptor yX7_ends.desc).map (fun d => d.parameters.length) = some 1 := by decide +kernel
theorem hv_X8_ends : yX8_ends.cls = RX8 ∧ yX8_ends.cls ≠ "java/lang/invoke/MethodHandle" ∧ yX8_ends.cls ≠ "java/lang/invoke/VarHandle" ∧ (parseMethodDescriptor yX8_ends.desc).map (fun d => d.parameters.length) = some 1 := by decide +kernel
theorem hv_X7_book : yX7_book.cls = RX7 ∧ yX7_book.cls ≠ "java/lang/invoke/MethodHandle" ∧ yX7_book.cls ≠ "java/lang/invoke/VarHandle" ∧ (parseMethodDescriptor yX7_book.desc).map (fun d => d.parameters.length) = some 2 := by decide +kernel
theorem hv_X8_book : yX8_book.cls = RX8 ∧ yX8_book.cls ≠ "java/lang/invoke/MethodHandle" ∧ yX8_book.cls ≠ "java/lang/invoke/VarHandle" ∧ (parseMethodDescriptor yX8_book.desc).map (fun d => d.parameters.length) = some 2 := by decide +kernel
theorem hv_X7_looked : yX7_looked.cls = RX7 ∧ yX7_looked.cls ≠ "java/lang/invoke/MethodHandle" ∧ yX7_looked.cls ≠ "java/lang/invoke/VarHandle" ∧ (parseMethodDescriptor yX7_looked.desc).map (fun d => d.parameters.length) = some 0 := by decide +kernel
theorem hv_X8_looked : yX8_looked.cls = RX8 ∧ yX8_looked.cls ≠ "java/lang/invoke/MethodHandle" ∧ yX8_looked.cls ≠ "java/lang/invoke/VarHandle" ∧ (parseMethodDescriptor yX8_looked.desc).map (fun d => d.parameters.length) = some 0 := by decide +kernel
theorem hv_X7_judge : yX7_judge.cls = RX7 ∧ yX7_judge.cls ≠ "java/lang/invoke/MethodHandle" ∧ yX7_judge.cls ≠ "java/lang/invoke/VarHandle" ∧ (parseMethodDescriptor yX7_judge.desc).map (fun d => d.parameters.length) = some 2 := by decide +kernel
theorem hv_X8_judge : yX8_judge.cls = RX8 ∧ yX8_judge.cls ≠ "java/lang/invoke/MethodHandle" ∧ yX8_judge.cls ≠ "java/lang/invoke/VarHandle" ∧ (parseMethodDescriptor yX8_judge.desc).map (fun d => d.parameters.length) = some 2 := by decide +kernel
theorem hv_X7_image : yX7_image.cls = RX7 ∧ yX7_image.cls ≠ "java/lang/invoke/MethodHandle" ∧ yX7_image.cls ≠ "java/lang/invoke/VarHandle" ∧ (parseMethodDescriptor yX7_image.desc).map (fun d => d.parameters.length) = some 0 := by decide +kernel
theorem hv_X8_image : yX8_image.cls = RX8 ∧ yX8_image.cls ≠ "java/lang/invoke/MethodHandle" ∧ yX8_image.cls ≠ "java/lang/invoke/VarHandle" ∧ (parseMethodDescriptor yX8_image.desc).map (fun d => d.parameters.length) = some 0 := by decide +kernel
theorem hv_X7_undo : yX7_undo.cls = RX7 ∧ yX7_undo.cls ≠ "java/lang/invoke/MethodHandle" ∧ yX7_undo.cls ≠ "java/lang/invoke/VarHandle" ∧ (parseMethodDescriptor yX7_undo.desc).map (fun d => d.parameters.length) = some 0 := by decide +kernel
theorem hv_X8_undo : yX8_undo.cls = RX8 ∧ yX8_undo.cls ≠ "java/lang/invoke/MethodHandle" ∧ yX8_undo.cls ≠ "java/lang/invoke/VarHandle" ∧ (parseMethodDescriptor yX8_undo.desc).map (fun d => d.parameters.length) = some 0 := by decide +kernel
theorem hv_X7_act : yX7_act.cls = RX7 ∧ yX7_act.cls ≠ "java/lang/invoke/MethodHandle" ∧ yX7_act.cls ≠ "java/lang/invoke/VarHandle" ∧ (parseMethodDescriptor yX7_act.desc).map (fun d => d.parameters.length) = some 3 := by decide +kernel
theorem hv_X8_act : yX8_act.cls = RX8 ∧ yX8_act.cls ≠ "java/lang/invoke/MethodHandle" ∧ yX8_act.cls ≠ "java/lang/invoke/VarHandle" ∧ (parseMethodDescriptor yX8_act.desc).map (fun d => d.parameters.length) = some 3 := by decide +kernel
theorem hv_X7_trace : yX7_trace.cls = RX7 ∧ yX7_trace.cls ≠ "java/lang/invoke/MethodHandle" ∧ yX7_trace.cls ≠ "java/lang/invoke/VarHandle" ∧ (parseMethodDescriptor yX7_trace.desc).map (fun d => d.parameters.length) = some 1 := by decide +kernel
theorem hv_X8_trace : yX8_trace.cls = RX8 ∧ yX8_trace.cls ≠ "java/lang/invoke/MethodHandle" ∧ yX8_trace.cls ≠ "java/lang/invoke/VarHandle" ∧ (parseMethodDescriptor yX8_trace.desc).map (fun d => d.parameters.length) = some 1 := by decide +kernel
theorem hv_X7_taken : yX7_taken.cls = RX7 ∧ yX7_taken.cls ≠ "java/lang/invoke/MethodHandle" ∧ yX7_taken.cls ≠ "java/lang/invoke/VarHandle" ∧ (parseMethodDescriptor yX7_taken.desc).map (fun d => d.parameters.length) = some 2 := by decide +kernel
theorem hv_X8_taken : yX8_taken.cls = RX8 ∧ yX8_taken.cls ≠ "java/lang/invoke/MethodHandle" ∧ yX8_taken.cls ≠ "java/lang/invoke/VarHandle" ∧ (parseMethodDescriptor yX8_taken.desc).map (fun d => d.parameters.length) = some 2 := by decide +kernel
theorem hv_X7_count : yX7_count.cls = RX7 ∧ yX7_count.cls ≠ "java/lang/invoke/MethodHandle" ∧ yX7_count.cls ≠ "java/lang/invoke/VarHandle" ∧ (parseMethodDescriptor yX7_count.desc).map (fun d => d.parameters.length) = some 1 := by decide +kernel
theorem hv_X8_count : yX8_count.cls = RX8 ∧ yX8_count.cls ≠ "java/lang/invoke/MethodHandle" ∧ yX8_count.cls ≠ "java/lang/invoke/VarHandle" ∧ (parseMethodDescriptor yX8_count.desc).map (fun d => d.parameters.length) = some 1 := by decide +kernel
theorem hv_X7_tape : yX7_tape.cls = RX7 ∧ yX7_tape.cls ≠ "java/lang/invoke/MethodHandle" ∧ yX7_tape.cls ≠ "java/lang/invoke/VarHandle" ∧ (parseMethodDescriptor yX7_tape.desc).map (fun d => d.parameters.length) = some 3 := by decide +kernel
theorem hv_X8_tape : yX8_tape.cls = RX8 ∧ yX8_tape.cls ≠ "java/lang/invoke/MethodHandle" ∧ yX8_tape.cls ≠ "java/lang/invoke/VarHandle" ∧ (parseMethodDescriptor yX8_tape.desc).map (fun d => d.parameters.length) = some 3 := by decide +kernel
theorem hv_X7_item : yX7_item.cls = RX7 ∧ yX7_item.cls ≠ "java/lang/invoke/MethodHandle" ∧ yX7_item.cls ≠ "java/lang/invoke/VarHandle" ∧ (parseMethodDescriptor yX7_item.desc).map (fun d => d.parameters.length) = some 3 := by decide +kernel
theorem hv_X8_item : yX8_item.cls = RX8 ∧ yX8_item.cls ≠ "java/lang/invoke/MethodHandle" ∧ yX8_item.cls ≠ "java/lang/invoke/VarHandle" ∧ (parseMethodDescriptor yX8_item.desc).map (fun d => d.parameters.length) = some 3 := by decide +kernel
theorem hv_X7_read : yX7_read.cls = RX7 ∧ yX7_read.cls ≠ "java/lang/invoke/MethodHandle" ∧ yX7_read.cls ≠ "java/lang/invoke/VarHandle" ∧ (parseMethodDescriptor yX7_read.desc).map (fun d => d.parameters.length) = some 2 := by decide +kernel
theorem hv_X8_read : yX8_read.cls = RX8 ∧ yX8_read.cls ≠ "java/lang/invoke/MethodHandle" ∧ yX8_read.cls ≠ "java/lang/invoke/VarHandle" ∧ (parseMethodDescriptor yX8_read.desc).map (fun d => d.parameters.length) = some 2 := by decide +kernel
theorem hv_X7_shift : yX7_shift.cls = RX7 ∧ yX7_shift.cls ≠ "java/lang/invoke/MethodHandle" ∧ yX7_shift.cls ≠ "java/lang/invoke/VarHandle" ∧ (parseMethodDescriptor yX7_shift.desc).map (fun d => d.parameters.length) = some 5 := by decide +kernel
theorem hv_X8_shift : yX8_shift.cls = RX8 ∧ yX8_shift.cls ≠ "java/lang/invoke/MethodHandle" ∧ yX8_shift.cls ≠ "java/lang/invoke/VarHandle" ∧ (parseMethodDescriptor yX8_shift.desc).map (fun d => d.parameters.length) = some 5 := by decide +kernel
theorem gs_L_13 : GoodIn TB (wsV RL 13 RX7 yX7_mourner (.code yX7_mourner cX7_mourner 5 ((Option.some Jvm.ClassFile.FieldType.int)) :: TB)) := xw_gV tw_289 tw_290 tw_291 tw_1 tw_292
theorem gs_L_17 : GoodIn TB (wsV RL 17 RX8 yX8_mourner (.code yX8_mourner cX8_mourner 7 ((Option.some Jvm.ClassFile.FieldType.int)) :: TB)) := xw_gV tw_831 tw_832 tw_833 tw_10 tw_834
theorem gs_L_18 : GoodIn TB (wsV RL 18 RX7 yX7_of (.code yX7_of cX7_of 3 ((Option.some Jvm.ClassFile.FieldType.int)) :: TB)) := xw_gV tw_303 tw_304 tw_305 tw_1 tw_306
theorem gs_L_22 : GoodIn TB (wsV RL 22 RX8 yX8_of (.code yX8_of cX8_of 3 ((Option.some Jvm.ClassFile.FieldType.int)) :: TB)) := xw_gV tw_849 tw_850 tw_851 tw_10 tw_852
theorem gs_L_23 : GoodIn TB (wsV RL 23 RX7 yX7_set (.code yX7_set cX7_set 6 ((Option.some Jvm.ClassFile.FieldType.int)) :: TB)) := xw_gV tw_375 tw_376 tw_377 tw_1 tw_378
theorem gs_L_27 : GoodIn TB (wsV RL 27 RX8 yX8_set (.code yX8_set cX8_set 4 ((Option.some Jvm.ClassFile.FieldType.int)) :: TB)) := xw_gV tw_922 tw_923 tw_924 tw_10 tw_925
theorem gs_L_28 : GoodIn TB (wsV RL 28 RX7 yX7_away (.code yX7_away cX7_away 4 ((Option.some Jvm.ClassFile.FieldType.int)) :: TB)) := xw_gV tw_380 tw_381 tw_382 tw_1 tw_383
theorem gs_L_32 : GoodIn TB (wsV RL 32 RX8 yX8_away (.code yX8_away cX8_away 3 ((Option.some Jvm.ClassFile.FieldType.int)) :: TB)) := xw_gV tw_926 tw_927 tw_928 tw_10 tw_929
theorem gs_L_33 : GoodIn TB (wsV RL 33 RX7 yX7_debt (.code yX7_debt cX7_debt 3 ((Option.some Jvm.ClassFile.FieldType.int)) :: TB)) := xw_gV tw_388 tw_389 tw_390 tw_1 tw_391
theorem gs_L_37 : GoodIn TB (wsV RL 37 RX8 yX8_debt (.code yX8_debt cX8_debt 3 ((Option.some Jvm.ClassFile.FieldType.int)) :: TB)) := xw_gV tw_930 tw_931 tw_932 tw_10 tw_933
theorem gs_L_38 : GoodIn TB (wsV RL 38 RX7 yX7_row (.code yX7_row cX7_row 6 ((Option.some Jvm.ClassFile.FieldType.int)) :: TB)) := xw_gV tw_392 tw_393 tw_394 tw_1 tw_395
theorem gs_L_41 : GoodIn TB (wsV RL 41 RX8 yX8_row (.code yX8_row cX8_row 4 ((Option.some Jvm.ClassFile.FieldType.int)) :: TB)) := xw_gV tw_934 tw_935 tw_936 tw_10 tw_937
theorem gs_L_42 : GoodIn TB (wsV RL 42 RX7 yX7_feed (.code yX7_feed cX7_feed 2 ((Option.some Jvm.ClassFile.FieldType.int)) :: TB)) := xw_gV tw_396 tw_397 tw_398 tw_1 tw_399
theorem gs_L_45 : GoodIn TB (wsV RL 45 RX8 yX8_feed (.code yX8_feed cX8_feed 2 ((Option.some Jvm.ClassFile.FieldType.int)) :: TB)) := xw_gV tw_938 tw_939 tw_940 tw_10 tw_941
theorem gs_L_46 : GoodIn TB (wsV RL 46 RX7 yX7_parish (.code yX7_parish cX7_parish 2 ((Option.some Jvm.ClassFile.FieldType.int)) :: TB)) := xw_gV tw_404 tw_405 tw_406 tw_1 tw_407
theorem gs_L_50 : GoodIn TB (wsV RL 50 RX8 yX8_parish (.code yX8_parish cX8_parish 2 ((Option.some Jvm.ClassFile.FieldType.int)) :: TB)) := xw_gV tw_942 tw_943 tw_944 tw_10 tw_945
theorem gs_L_51 : GoodIn TB (wsV RL 51 RX7 yX7_told (.code yX7_told cX7_told 2 ((Option.some Jvm.ClassFile.FieldType.int)) :: TB)) := xw_gV tw_509 tw_510 tw_511 tw_1 tw_512
theorem gs_L_54 : GoodIn TB (wsV RL 54 RX8 yX8_told (.code yX8_told cX8_told 2 ((Option.some Jvm.ClassFile.FieldType.int)) :: TB)) := xw_gV tw_946 tw_947 tw_948 tw_10 tw_949
theorem gs_L_55 : GoodIn TB (wsV RL 55 RX7 yX7_pass (.code yX7_pass cX7_pass 3 ((Option.some Jvm.ClassFile.FieldType.int)) :: TB)) := xw_gV tw_555 tw_556 tw_557 tw_1 tw_558
theorem gs_L_58 : GoodIn TB (wsV RL 58 RX8 yX8_pass (.code yX8_pass cX8_pass 3 ((Option.some Jvm.ClassFile.FieldType.int)) :: TB)) := xw_gV tw_988 tw_989 tw_990 tw_10 tw_991
theorem gs_L_59 : GoodIn TB (wsV RL 59 RX7 yX7_on (.code yX7_on cX7_on 6 ((Option.some Jvm.ClassFile.FieldType.int)) :: TB)) := xw_gV tw_560 tw_561 tw_562 tw_1 tw_563
theorem gs_L_62 : GoodIn TB (wsV RL 62 RX8 yX8_on (.code yX8_on cX8_on 4 ((Option.some Jvm.ClassFile.FieldType.int)) :: TB)) := xw_gV tw_992 tw_993 tw_994 tw_10 tw_995
theorem gs_L_63 : GoodIn TB (wsV RL 63 RX7 yX7_kept (.code yX7_kept cX7_kept 7 ((Option.some Jvm.ClassFile.FieldType.int)) :: TB)) := xw_gV tw_564 tw_565 tw_566 tw_1 tw_567
theorem gs_L_66 : GoodIn TB (wsV RL 66 RX8 yX8_kept (.code yX8_kept cX8_kept 6 ((Option.some Jvm.ClassFile.FieldType.int)) :: TB)) := xw_gV tw_996 tw_997 tw_998 tw_10 tw_999
theorem gs_L_67 : GoodIn TB (wsV RL 67 RX7 yX7_see (.code yX7_see cX7_see 3 ((Option.some Jvm.ClassFile.FieldType.int)) :: TB)) := xw_gV tw_574 tw_575 tw_576 tw_1 tw_577
theorem gs_L_70 : GoodIn TB (wsV RL 70 RX8 yX8_see (.code yX8_see cX8_see 4 ((Option.some Jvm.ClassFile.FieldType.int)) :: TB)) := xw_gV tw_1003 tw_1004 tw_1005 tw_10 tw_1006
theorem gs_L_71 : GoodIn TB (wsV RL 71 RX7 yX7_can (.code yX7_can cX7_can 6 ((Option.some Jvm.ClassFile.FieldType.int)) :: TB)) := xw_gV tw_587 tw_588 tw_589 tw_1 tw_590
theorem gs_L_74 : GoodIn TB (wsV RL 74 RX8 yX8_can (.code yX8_can cX8_can 8 ((Option.some Jvm.ClassFile.FieldType.int)) :: TB)) := xw_gV tw_1007 tw_1008 tw_1009 tw_10 tw_1010
theorem gs_L_75 : GoodIn TB (wsV RL 75 RX7 yX7_odds (.code yX7_odds cX7_odds 8 ((Option.some Jvm.ClassFile.FieldType.long)) :: TB)) := xw_gV tw_591 tw_592 tw_593 tw_1 tw_594
theorem gs_L_79 : GoodIn TB (wsV RL 79 RX8 yX8_odds (.code yX8_odds cX8_odds 7 ((Option.some Jvm.ClassFile.FieldType.long)) :: TB)) := xw_gV tw_1011 tw_1012 tw_1013 tw_10 tw_1014
theorem gs_L_80 : GoodIn TB (wsV RL 80 RX7 yX7_mean (.code yX7_mean cX7_mean 4 ((Option.some Jvm.ClassFile.FieldType.long)) :: TB)) := xw_gV tw_599 tw_600 tw_601 tw_1 tw_602
theorem gs_L_84 : GoodIn TB (wsV RL 84 RX8 yX8_mean (.code yX8_mean cX8_mean 3 ((Option.some Jvm.ClassFile.FieldType.long)) :: TB)) := xw_gV tw_1019 tw_1020 tw_1021 tw_10 tw_1022
theorem gs_L_85 : GoodIn TB (wsV RL 85 RX7 yX7_plan (.code yX7_plan cX7_plan 3 ((Option.some Jvm.ClassFile.FieldType.int)) :: TB)) := xw_gV tw_603 tw_604 tw_605 tw_1 tw_606
theorem gs_L_88 : GoodIn TB (wsV RL 88 RX8 yX8_plan (.code yX8_plan cX8_plan 3 ((Option.some Jvm.ClassFile.FieldType.int)) :: TB)) := xw_gV tw_1023 tw_1024 tw_1025 tw_10 tw_1026
theorem gs_L_89 : GoodIn TB (wsV RL 89 RX7 yX7_ends (.code yX7_ends cX7_ends 4 ((Option.some Jvm.ClassFile.FieldType.int)) :: TB)) := xw_gV tw_607 tw_608 tw_609 tw_1 tw_610
theorem gs_L_92 : GoodIn TB (wsV RL 92 RX8 yX8_ends (.code yX8_ends cX8_ends 5 ((Option.some Jvm.ClassFile.FieldType.int)) :: TB)) := xw_gV tw_1027 tw_1028 tw_1029 tw_10 tw_1030
theorem gs_L_93 : GoodIn TB (wsV RL 93 RX7 yX7_book (.code yX7_book cX7_book 3 ((Option.some Jvm.ClassFile.FieldType.int)) :: TB)) := xw_gV tw_615 tw_616 tw_617 tw_1 tw_618
theorem gs_L_96 : GoodIn TB (wsV RL 96 RX8 yX8_book (.code yX8_book cX8_book 3 ((Option.some Jvm.ClassFile.FieldType.int)) :: TB)) := xw_gV tw_1031 tw_1032 tw_1033 tw_10 tw_1034
theorem gs_L_97 : GoodIn TB (wsV RL 97 RX7 yX7_looked (.code yX7_looked cX7_looked 2 ((Option.some Jvm.ClassFile.FieldType.int)) :: TB)) := xw_gV tw_619 tw_620 tw_621 tw_1 tw_622
theorem gs_L_100 : GoodIn TB (wsV RL 100 RX8 yX8_looked (.code yX8_looked cX8_looked 2 ((Option.some Jvm.ClassFile.FieldType.int)) :: TB)) := xw_gV tw_1035 tw_1036 tw_1037 tw_10 tw_1038
theorem gs_L_101 : GoodIn TB (wsV RL 101 RX7 yX7_judge (.code yX7_judge cX7_judge 5 ((Option.some Jvm.ClassFile.FieldType.int)) :: TB)) := xw_gV tw_623 tw_624 tw_625 tw_1 tw_626
theorem gs_L_104 : GoodIn TB (wsV RL 104 RX8 yX8_judge (.code yX8_judge cX8_judge 6 ((Option.some Jvm.ClassFile.FieldType.int)) :: TB)) := xw_gV tw_1086 tw_1087 tw_1088 tw_10 tw_1089
theorem gs_L_105 : GoodIn TB (wsV RL 105 RX7 yX7_image (.code yX7_image cX7_image 1 ((Option.some Jvm.ClassFile.FieldType.int)) :: TB)) := xw_gV tw_640 tw_641 tw_642 tw_1 tw_643
theorem gs_L_108 : GoodIn TB (wsV RL 108 RX8 yX8_image (.code yX8_image cX8_image 2 ((Option.some Jvm.ClassFile.FieldType.int)) :: TB)) := xw_gV tw_823 tw_824 tw_825 tw_10 tw_826
theorem gs_L_109 : GoodIn TB (wsV RL 109 RX7 yX7_undo (.code yX7_undo cX7_undo 1 ((Option.some Jvm.ClassFile.FieldType.int)) :: TB)) := xw_gV tw_644 tw_645 tw_646 tw_1 tw_647
theorem gs_L_112 : GoodIn TB (wsV RL 112 RX8 yX8_undo (.code yX8_undo cX8_undo 2 ((Option.some Jvm.ClassFile.FieldType.int)) :: TB)) := xw_gV tw_827 tw_828 tw_829 tw_10 tw_830
theorem gs_L_113 : GoodIn TB (wsV RL 113 RX7 yX7_act (.code yX7_act cX7_act 4 ((Option.some Jvm.ClassFile.FieldType.int)) :: TB)) := xw_gV tw_648 tw_649 tw_650 tw_1 tw_651
theorem gs_L_116 : GoodIn TB (wsV RL 116 RX8 yX8_act (.code yX8_act cX8_act 4 ((Option.some Jvm.ClassFile.FieldType.int)) :: TB)) := xw_gV tw_1039 tw_1040 tw_1041 tw_10 tw_1042
theorem gs_L_117 : GoodIn TB (wsV RL 117 RX7 yX7_trace (.code yX7_trace cX7_trace 2 ((Option.some Jvm.ClassFile.FieldType.int)) :: TB)) := xw_gV tw_673 tw_674 tw_675 tw_1 tw_676
theorem gs_L_120 : GoodIn TB (wsV RL 120 RX8 yX8_trace (.code yX8_trace cX8_trace 2 ((Option.some Jvm.ClassFile.FieldType.int)) :: TB)) := xw_gV tw_1055 tw_1056 tw_1057 tw_10 tw_1058
theorem gs_L_121 : GoodIn TB (wsV RL 121 RX7 yX7_taken (.code yX7_taken cX7_taken 6 ((Option.some Jvm.ClassFile.FieldType.int)) :: TB)) := xw_gV tw_677 tw_678 tw_679 tw_1 tw_680
theorem gs_L_124 : GoodIn TB (wsV RL 124 RX8 yX8_taken (.code yX8_taken cX8_taken 4 ((Option.some Jvm.ClassFile.FieldType.int)) :: TB)) := xw_gV tw_1059 tw_1060 tw_1061 tw_10 tw_1062
theorem gs_L_125 : GoodIn TB (wsV RL 125 RX7 yX7_count (.code yX7_count cX7_count 2 ((Option.some Jvm.ClassFile.FieldType.int)) :: TB)) := xw_gV tw_682 tw_683 tw_684 tw_1 tw_685
theorem gs_L_128 : GoodIn TB (wsV RL 128 RX8 yX8_count (.code yX8_count cX8_count 2 ((Option.some Jvm.ClassFile.FieldType.int)) :: TB)) := xw_gV tw_1063 tw_1064 tw_1065 tw_10 tw_1066
theorem gs_L_129 : GoodIn TB (wsV RL 129 RX7 yX7_tape (.code yX7_tape cX7_tape 5 ((Option.some Jvm.ClassFile.FieldType.int)) :: TB)) := xw_gV tw_686 tw_687 tw_688 tw_1 tw_689
theorem gs_L_132 : GoodIn TB (wsV RL 132 RX8 yX8_tape (.code yX8_tape cX8_tape 5 ((Option.some Jvm.ClassFile.FieldType.int)) :: TB)) := xw_gV tw_1067 tw_1068 tw_1069 tw_10 tw_1070
theorem gs_L_135 : GoodIn TB (wsV RL 135 RX7 yX7_item (.code yX7_item cX7_item 6 ((Option.some Jvm.ClassFile.FieldType.int)) :: TB)) := xw_gV tw_695 tw_696 tw_697 tw_1 tw_698
theorem gs_L_139 : GoodIn TB (wsV RL 139 RX8 yX8_item (.code yX8_item cX8_item 6 ((Option.some Jvm.ClassFile.FieldType.int)) :: TB)) := xw_gV tw_1074 tw_1075 tw_1076 tw_10 tw_1077
theorem gs_L_140 : GoodIn TB (wsV RL 140 RX7 yX7_read (.code yX7_read cX7_read 4 ((Option.some Jvm.ClassFile.FieldType.long)) :: TB)) := xw_gV tw_707 tw_708 tw_709 tw_1 tw_710
theorem gs_L_143 : GoodIn TB (wsV RL 143 RX8 yX8_read (.code yX8_read cX8_read 3 ((Option.some Jvm.ClassFile.FieldType.long)) :: TB)) := xw_gV tw_1078 tw_1079 tw_1080 tw_10 tw_1081
theorem gs_L_144 : GoodIn TB (wsV RL 144 RX7 yX7_shift (.code yX7_shift cX7_shift 8 ((Option.some Jvm.ClassFile.FieldType.int)) :: TB)) := xw_gV tw_711 tw_712 tw_713 tw_1 tw_714
theorem gs_L_148 : GoodIn TB (wsV RL 148 RX8 yX8_shift (.code yX8_shift cX8_shift 7 ((Option.some Jvm.ClassFile.FieldType.int)) :: TB)) := xw_gV tw_1082 tw_1083 tw_1084 tw_10 tw_1085
section LAW
variable {p : Program} {l : Launch} {e : Env} {R : Room} {s : State} {m : MethodId} {args : Array Value} {below : List Frame} {meth : Method} {c : Code} {H : Heap} {locs : List Loc} {cells slots : Nat} {Q : State → Prop}
variable {cc : ByteArray} {pc : Nat} {ls : Array Slot} {rest : List Value} {A : Nat → Prop} {H0 : Heap}
theorem xl_ld (hx : p.tables.exec = Jvm.exec) (hb : c.code = cc) {b L : Nat} {xs : Nat → Int32} (hX : va_X b L xs s H0) (hbl : b < H0.size) (hbA : ¬ A b) (hS : va_S A H0 H locs) (hL : L ≤ 3072) {i : Nat} (j : Nat) {z : Int32} (hz : z = nI j) (hi : i + j < L) (hdg : decode cc pc = .ok (.iaload, 1))
    (kk : W p l e R s m args below meth c H locs cells slots Q (F0 m (pc + 1) ls (.int (xs (i + j)) :: rest))) : W p l e R s m args below meth c H locs cells slots Q (F0 m pc ls (.int (nI i + z) :: .ref b :: rest)) := by
  subst hz
  have e1 : nI i + nI j = nI (i + j) := nI_add i j
  have e2 : (nI (i + j)).toNatClampNeg = i + j := nI_clamp (by omega)
  rw [e1]
  refine va_sld hx hb hX hbl hbA hS (vp_in_nI hi (by omega)) hdg ?_
  rw [e2]
  exact kk
theorem xl_ld0 (hx : p.tables.exec = Jvm.exec) (hb : c.code = cc) {b L : Nat} {xs : Nat → Int32} (hX : va_X b L xs s H0) (hbl : b < H0.size) (hbA : ¬ A b) (hS : va_S A H0 H locs) (hL : L ≤ 3072) {i : Nat} (hi : i < L) (hdg : decode cc pc = .ok (.iaload, 1))
    (kk : W p l e R s m args below meth c H locs cells slots Q (F0 m (pc + 1) ls (.int (xs i) :: rest))) : W p l e R s m args below meth c H locs cells slots Q (F0 m pc ls (.int (nI i) :: .ref b :: rest)) := by
  have e2 : (nI i).toNatClampNeg = i := nI_clamp (by omega)
  refine va_sld hx hb hX hbl hbA hS (vp_in_nI hi (by omega)) hdg ?_
  rw [e2]
  exact kk
theorem xl_cmp (r : Int64) : lg_cmp r r = 0 := by simp [lg_cmp]
end LAW
