theorem dL_law_504 : decode cL_law 504 = .ok (.aload_n 1, 1) := by decide +kernel
theorem dL_law_505 : decode cL_law 505 = .ok (.invokevirtual 66, 3) := by decide +kernel
theorem dL_law_508 : decode cL_law 508 = .ok (.pop, 1) := by decide +kernel
theorem dL_law_509 : decode cL_law 509 = .ok (.aload_n 2, 1) := by decide +kernel
theorem dL_law_510 : decode cL_law 510 = .ok (.invokevirtual 69, 3) := by decide +kernel
theorem dL_law_513 : decode cL_law 513 = .ok (.pop, 1) := by decide +kernel
theorem dL_law_514 : decode cL_law 514 = .ok (.goto 542, 3) := by decide +kernel
theorem dL_law_517 : decode cL_law 517 = .ok (.aload_n 1, 1) := by decide +kernel
theorem dL_law_518 : decode cL_law 518 = .ok (.invokevirtual 70, 3) := by decide +kernel
theorem dL_law_521 : decode cL_law 521 = .ok (.pop, 1) := by decide +kernel
theorem dL_law_522 : decode cL_law 522 = .ok (.aload_n 2, 1) := by decide +kernel
theorem dL_law_523 : decode cL_law 523 = .ok (.invokevirtual 73, 3) := by decide +kernel
theorem dL_law_526 : decode cL_law 526 = .ok (.pop, 1) := by decide +kernel
theorem dL_law_527 : decode cL_law 527 = .ok (.goto 529, 3) := by decide +kernel
theorem dL_law_530 : decode cL_law 530 = .ok (.aload_n 1, 1) := by decide +kernel
theorem dL_law_531 : decode cL_law 531 = .ok (.aload_n 0, 1) := by decide +kernel
theorem dL_law_532 : decode cL_law 532 = .ok (.iload_n 3, 1) := by decide +kernel
theorem dL_law_533 : decode cL_law 533 = .ok (.iconst 1, 1) := by decide +kernel
theorem dL_law_534 : decode cL_law 534 = .ok (.iadd, 1) := by decide +kernel
theorem dL_law_535 : decode cL_law 535 = .ok (.iaload, 1) := by decide +kernel
theorem dL_law_536 : decode cL_law 536 = .ok (.invokevirtual 74, 3) := by decide +kernel
theorem dL_law_539 : decode cL_law 539 = .ok (.pop, 1) := by decide +kernel
theorem dL_law_540 : decode cL_law 540 = .ok (.aload_n 2, 1) := by decide +kernel
theorem dL_law_541 : decode cL_law 541 = .ok (.aload_n 0, 1) := by decide +kernel
theorem dL_law_542 : decode cL_law 542 = .ok (.iload_n 3, 1) := by decide +kernel
theorem dL_law_543 : decode cL_law 543 = .ok (.iconst 1, 1) := by decide +kernel
theorem dL_law_544 : decode cL_law 544 = .ok (.iadd, 1) := by decide +kernel
theorem dL_law_545 : decode cL_law 545 = .ok (.iaload, 1) := by decide +kernel
theorem dL_law_546 : decode cL_law 546 = .ok (.invokevirtual 77, 3) := by decide +kernel
theorem dL_law_549 : decode cL_law 549 = .ok (.pop, 1) := by decide +kernel
theorem dL_law_550 : decode cL_law 550 = .ok (.goto 506, 3) := by decide +kernel
theorem dL_law_553 : decode cL_law 553 = .ok (.aload_n 1, 1) := by decide +kernel
theorem dL_law_554 : decode cL_law 554 = .ok (.aload_n 0, 1) := by decide +kernel
theorem dL_law_555 : decode cL_law 555 = .ok (.iload_n 3, 1) := by decide +kernel
theorem dL_law_556 : decode cL_law 556 = .ok (.iconst 1, 1) := by decide +kernel
theorem dL_law_557 : decode cL_law 557 = .ok (.iadd, 1) := by decide +kernel
theorem dL_law_558 : decode cL_law 558 = .ok (.iaload, 1) := by decide +kernel
theorem dL_law_559 : decode cL_law 559 = .ok (.invokevirtual 78, 3) := by decide +kernel
theorem dL_law_562 : decode cL_law 562 = .ok (.pop, 1) := by decide +kernel
theorem dL_law_563 : decode cL_law 563 = .ok (.aload_n 2, 1) := by decide +kernel
theorem dL_law_564 : decode cL_law 564 = .ok (.aload_n 0, 1) := by decide +kernel
theorem dL_law_565 : decode cL_law 565 = .ok (.iload_n 3, 1) := by decide +kernel
theorem dL_law_566 : decode cL_law 566 = .ok (.iconst 1, 1) := by decide +kernel
theorem dL_law_567 : decode cL_law 567 = .ok (.iadd, 1) := by decide +kernel
theorem dL_law_568 : decode cL_law 568 = .ok (.iaload, 1) := by decide +kernel
theorem dL_law_569 : decode cL_law 569 = .ok (.invokevirtual 81, 3) := by decide +kernel
theorem dL_law_572 : decode cL_law 572 = .ok (.pop, 1) := by decide +kernel
theorem dL_law_573 : decode cL_law 573 = .ok (.goto 483, 3) := by decide +kernel
theorem dL_law_576 : decode cL_law 576 = .ok (.aload_n 1, 1) := by decide +kernel
theorem dL_law_577 : decode cL_law 577 = .ok (.aload_n 0, 1) := by decide +kernel
theorem dL_law_578 : decode cL_law 578 = .ok (.iload_n 3, 1) := by decide +kernel
theorem dL_law_579 : decode cL_law 579 = .ok (.iconst 1, 1) := by decide +kernel
theorem dL_law_580 : decode cL_law 580 = .ok (.iadd, 1) := by decide +kernel
theorem dL_law_581 : decode cL_law 581 = .ok (.iaload, 1) := by decide +kernel
theorem dL_law_582 : decode cL_law 582 = .ok (.invokevirtual 82, 3) := by decide +kernel
theorem dL_law_585 : decode cL_law 585 = .ok (.pop, 1) := by decide +kernel
theorem dL_law_586 : decode cL_law 586 = .ok (.aload_n 2, 1) := by decide +kernel
theorem dL_law_587 : decode cL_law 587 = .ok (.aload_n 0, 1) := by decide +kernel
theorem dL_law_588 : decode cL_law 588 = .ok (.iload_n 3, 1) := by decide +kernel
theorem dL_law_589 : decode cL_law 589 = .ok (.iconst 1, 1) := by decide +kernel
theorem dL_law_590 : decode cL_law 590 = .ok (.iadd, 1) := by decide +kernel
theorem dL_law_591 : decode cL_law 591 = .ok (.iaload, 1) := by decide +kernel
theorem dL_law_592 : decode cL_law 592 = .ok (.invokevirtual 85, 3) := by decide +kernel
theorem dL_law_595 : decode cL_law 595 = .ok (.pop, 1) := by decide +kernel
theorem dL_law_596 : decode cL_law 596 = .ok (.goto 460, 3) := by decide +kernel
theorem dL_law_599 : decode cL_law 599 = .ok (.aload_n 1, 1) := by decide +kernel
theorem dL_law_600 : decode cL_law 600 = .ok (.invokevirtual 86, 3) := by decide +kernel
theorem dL_law_603 : decode cL_law 603 = .ok (.pop, 1) := by decide +kernel
theorem dL_law_604 : decode cL_law 604 = .ok (.aload_n 2, 1) := by decide +kernel
theorem dL_law_605 : decode cL_law 605 = .ok (.invokevirtual 89, 3) := by decide +kernel
theorem dL_law_608 : decode cL_law 608 = .ok (.pop, 1) := by decide +kernel
theorem dL_law_609 : decode cL_law 609 = .ok (.goto 447, 3) := by decide +kernel
theorem dL_law_612 : decode cL_law 612 = .ok (.aload_n 1, 1) := by decide +kernel
theorem dL_law_613 : decode cL_law 613 = .ok (.aload_n 0, 1) := by decide +kernel
theorem dL_law_614 : decode cL_law 614 = .ok (.iload_n 3, 1) := by decide +kernel
theorem dL_law_615 : decode cL_law 615 = .ok (.iconst 1, 1) := by decide +kernel
theorem dL_law_616 : decode cL_law 616 = .ok (.iadd, 1) := by decide +kernel
theorem dL_law_617 : decode cL_law 617 = .ok (.iaload, 1) := by decide +kernel
theorem dL_law_618 : decode cL_law 618 = .ok (.aload_n 0, 1) := by decide +kernel
theorem dL_law_619 : decode cL_law 619 = .ok (.iload_n 3, 1) := by decide +kernel
theorem dL_law_620 : decode cL_law 620 = .ok (.iconst 2, 1) := by decide +kernel
theorem dL_law_621 : decode cL_law 621 = .ok (.iadd, 1) := by decide +kernel
theorem dL_law_622 : decode cL_law 622 = .ok (.iaload, 1) := by decide +kernel
theorem dL_law_623 : decode cL_law 623 = .ok (.invokevirtual 90, 3) := by decide +kernel
theorem dL_law_626 : decode cL_law 626 = .ok (.pop, 1) := by decide +kernel
theorem dL_law_627 : decode cL_law 627 = .ok (.aload_n 2, 1) := by decide +kernel
theorem dL_law_628 : decode cL_law 628 = .ok (.aload_n 0, 1) := by decide +kernel
theorem dL_law_629 : decode cL_law 629 = .ok (.iload_n 3, 1) := by decide +kernel
theorem dL_law_630 : decode cL_law 630 = .ok (.iconst 1, 1) := by decide +kernel
theorem dL_law_631 : decode cL_law 631 = .ok (.iadd, 1) := by decide +kernel
theorem dL_law_632 : decode cL_law 632 = .ok (.iaload, 1) := by decide +kernel
theorem dL_law_633 : decode cL_law 633 = .ok (.aload_n 0, 1) := by decide +kernel
theorem dL_law_634 : decode cL_law 634 = .ok (.iload_n 3, 1) := by decide +kernel
theorem dL_law_635 : decode cL_law 635 = .ok (.iconst 2, 1) := by decide +kernel
theorem dL_law_636 : decode cL_law 636 = .ok (.iadd, 1) := by decide +kernel
theorem dL_law_637 : decode cL_law 637 = .ok (.iaload, 1) := by decide +kernel
theorem dL_law_638 : decode cL_law 638 = .ok (.invokevirtual 93, 3) := by decide +kernel
theorem dL_law_641 : decode cL_law 641 = .ok (.pop, 1) := by decide +kernel
theorem dL_law_642 : decode cL_law 642 = .ok (.goto 414, 3) := by decide +kernel
theorem dL_law_645 : decode cL_law 645 = .ok (.aload_n 1, 1) := by decide +kernel
theorem dL_law_646 : decode cL_law 646 = .ok (.invokevirtual 94, 3) := by decide +kernel
theorem dL_law_649 : decode cL_law 649 = .ok (.pop, 1) := by decide +kernel
theorem dL_law_650 : decode cL_law 650 = .ok (.aload_n 2, 1) := by decide +kernel
theorem dL_law_651 : decode cL_law 651 = .ok (.invokevirtual 97, 3) := by decide +kernel
theorem dL_law_654 : decode cL_law 654 = .ok (.pop, 1) := by decide +kernel
theorem dL_law_655 : decode cL_law 655 = .ok (.goto 401, 3) := by decide +kernel
theorem dL_law_658 : decode cL_law 658 = .ok (.aload_n 1, 1) := by decide +kernel
theorem dL_law_659 : decode cL_law 659 = .ok (.aload_n 0, 1) := by decide +kernel
theorem dL_law_660 : decode cL_law 660 = .ok (.iload_n 3, 1) := by decide +kernel
theorem dL_law_661 : decode cL_law 661 = .ok (.iconst 1, 1) := by decide +kernel
theorem dL_law_662 : decode cL_law 662 = .ok (.iadd, 1) := by decide +kernel
theorem dL_law_663 : decode cL_law 663 = .ok (.iaload, 1) := by decide +kernel
theorem dL_law_664 : decode cL_law 664 = .ok (.invokevirtual 98, 3) := by decide +kernel
theorem dL_law_667 : decode cL_law 667 = .ok (.pop, 1) := by decide +kernel
theorem dL_law_668 : decode cL_law 668 = .ok (.aload_n 2, 1) := by decide +kernel
theorem dL_law_669 : decode cL_law 669 = .ok (.aload_n 0, 1) := by decide +kernel
theorem dL_law_670 : decode cL_law 670 = .ok (.iload_n 3, 1) := by decide +kernel
theorem dL_law_671 : decode cL_law 671 = .ok (.iconst 1, 1) := by decide +kernel
theorem dL_law_672 : decode cL_law 672 = .ok (.iadd, 1) := by decide +kernel
theorem dL_law_673 : decode cL_law 673 = .ok (.iaload, 1) := by decide +kernel
theorem dL_law_674 : decode cL_law 674 = .ok (.invokevirtual 101, 3) := by decide +kernel
theorem dL_law_677 : decode cL_law 677 = .ok (.pop, 1) := by decide +kernel
theorem dL_law_678 : decode cL_law 678 = .ok (.goto 378, 3) := by decide +kernel
theorem dL_law_681 : decode cL_law 681 = .ok (.aload_n 1, 1) := by decide +kernel
theorem dL_law_682 : decode cL_law 682 = .ok (.aload_n 0, 1) := by decide +kernel
theorem dL_law_683 : decode cL_law 683 = .ok (.iload_n 3, 1) := by decide +kernel
theorem dL_law_684 : decode cL_law 684 = .ok (.iconst 1, 1) := by decide +kernel
theorem dL_law_685 : decode cL_law 685 = .ok (.iadd, 1) := by decide +kernel
theorem dL_law_686 : decode cL_law 686 = .ok (.iaload, 1) := by decide +kernel
theorem dL_law_687 : decode cL_law 687 = .ok (.invokevirtual 102, 3) := by decide +kernel
theorem dL_law_690 : decode cL_law 690 = .ok (.pop, 1) := by decide +kernel
theorem dL_law_691 : decode cL_law 691 = .ok (.aload_n 2, 1) := by decide +kernel
theorem dL_law_692 : decode cL_law 692 = .ok (.aload_n 0, 1) := by decide +kernel
theorem dL_law_693 : decode cL_law 693 = .ok (.iload_n 3, 1) := by decide +kernel
theorem dL_law_694 : decode cL_law 694 = .ok (.iconst 1, 1) := by decide +kernel
theorem dL_law_695 : decode cL_law 695 = .ok (.iadd, 1) := by decide +kernel
theorem dL_law_696 : decode cL_law 696 = .ok (.iaload, 1) := by decide +kernel
theorem dL_law_697 : decode cL_law 697 = .ok (.invokevirtual 105, 3) := by decide +kernel
theorem dL_law_700 : decode cL_law 700 = .ok (.pop, 1) := by decide +kernel
theorem dL_law_701 : decode cL_law 701 = .ok (.goto 355, 3) := by decide +kernel
theorem dL_law_704 : decode cL_law 704 = .ok (.aload_n 1, 1) := by decide +kernel
theorem dL_law_705 : decode cL_law 705 = .ok (.aload_n 0, 1) := by decide +kernel
theorem dL_law_706 : decode cL_law 706 = .ok (.iload_n 3, 1) := by decide +kernel
theorem dL_law_707 : decode cL_law 707 = .ok (.iconst 1, 1) := by decide +kernel
theorem dL_law_708 : decode cL_law 708 = .ok (.iadd, 1) := by decide +kernel
theorem dL_law_709 : decode cL_law 709 = .ok (.iaload, 1) := by decide +kernel
theorem dL_law_710 : decode cL_law 710 = .ok (.invokevirtual 106, 3) := by decide +kernel
theorem dL_law_713 : decode cL_law 713 = .ok (.pop, 1) := by decide +kernel
theorem dL_law_714 : decode cL_law 714 = .ok (.aload_n 2, 1) := by decide +kernel
theorem dL_law_715 : decode cL_law 715 = .ok (.aload_n 0, 1) := by decide +kernel
theorem dL_law_716 : decode cL_law 716 = .ok (.iload_n 3, 1) := by decide +kernel
theorem dL_law_717 : decode cL_law 717 = .ok (.iconst 1, 1) := by decide +kernel
theorem dL_law_718 : decode cL_law 718 = .ok (.iadd, 1) := by decide +kernel
theorem dL_law_719 : decode cL_law 719 = .ok (.iaload, 1) := by decide +kernel
theorem dL_law_720 : decode cL_law 720 = .ok (.invokevirtual 109, 3) := by decide +kernel
theorem dL_law_723 : decode cL_law 723 = .ok (.pop, 1) := by decide +kernel
theorem dL_law_724 : decode cL_law 724 = .ok (.goto 332, 3) := by decide +kernel
theorem dL_law_727 : decode cL_law 727 = .ok (.aload_n 1, 1) := by decide +kernel
theorem dL_law_728 : decode cL_law 728 = .ok (.aload_n 0, 1) := by decide +kernel
theorem dL_law_729 : decode cL_law 729 = .ok (.iload_n 3, 1) := by decide +kernel
theorem dL_law_730 : decode cL_law 730 = .ok (.iconst 1, 1) := by decide +kernel
theorem dL_law_731 : decode cL_law 731 = .ok (.iadd, 1) := by decide +kernel
theorem dL_law_732 : decode cL_law 732 = .ok (.iaload, 1) := by decide +kernel
theorem dL_law_733 : decode cL_law 733 = .ok (.invokevirtual 110, 3) := by decide +kernel
theorem dL_law_736 : decode cL_law 736 = .ok (.pop, 1) := by decide +kernel
theorem dL_law_737 : decode cL_law 737 = .ok (.aload_n 2, 1) := by decide +kernel
theorem dL_law_738 : decode cL_law 738 = .ok (.aload_n 0, 1) := by decide +kernel
theorem dL_law_739 : decode cL_law 739 = .ok (.iload_n 3, 1) := by decide +kernel
theorem dL_law_740 : decode cL_law 740 = .ok (.iconst 1, 1) := by decide +kernel
theorem dL_law_741 : decode cL_law 741 = .ok (.iadd, 1) := by decide +kernel
theorem dL_law_742 : decode cL_law 742 = .ok (.iaload, 1) := by decide +kernel
theorem dL_law_743 : decode cL_law 743 = .ok (.invokevirtual 113, 3) := by decide +kernel
theorem dL_law_746 : decode cL_law 746 = .ok (.pop, 1) := by decide +kernel
theorem dL_law_747 : decode cL_law 747 = .ok (.goto 309, 3) := by decide +kernel
set_option maxHeartbeats 4000000 in
set_option maxRecDepth 100000 in
theorem lc_worthy {p : Program} {l : Launch} {e : Env} {s : State} {m : MethodId} {below : List Frame} {meth : Method} {c : Code} {b L : Nat} {xs : Nat → Int32} {D : va_G} {cB cI cJ cS cZ cO : ClassId} {A : Nat → Prop} {adK adV : Nat → Nat} {o mo i ph cl sl : Nat} {tm : Int32} {wc wm : va_W} {H : Heap} {locs : List Jvm.Loc} {ls : Array Slot} (C0 : lw_At p s m meth c b L xs) (hL : L ≤ 3072) (hi6 : i + 6 ≤ L) (hK : va_K D vwCl (tyL cB cI cJ cS cZ cO) s) (hN : nwA s) (hE : strE adK adV A s s.heap) (hR : strR adK s) (hA : ∀ q : Nat, s.heap.size ≤ q → A q) (hAf : ∀ q : Nat, A q → s.heap.size ≤ q) (hC : okC cB cI cJ cS cZ cO o tm ph wc) (hM : okM cB cI cJ cS cZ cO mo tm wm) (hP : va_P D vwCl (wc ++ wm) H) (hD : va_D A (wc ++ wm)) (hS : va_S A s.heap H locs) (hl : lv_has ls 4 [(0, .ref b), (1, .ref o), (2, .ref mo), (3, .int (nI i))]) (hcl : cl ≤ 1000 + i) (hsl : sl ≤ 1000000 + 2 * ph) (kk : ∀ (cl2 sl2 : Nat) (H2 : Heap) (locs2 : List Jvm.Loc) (ls2 : Array Slot), LI cB cI cJ cS cZ cO D s A b o mo L (L - (i + 6)) cl2 sl2 H2 locs2 ls2 → W p l e room_1 s m #[Value.ref b] below meth c H2 locs2 cl2 sl2 (lw_Z below #[Value.ref b] s) (F0 m 18 ls2 [])) : W p l e room_1 s m #[Value.ref b] below meth c H locs cl sl (lw_Z below #[Value.ref b] s) (F0 m 504 ls []) := by
  obtain ⟨hx, hb, hr, hml, hown, hts0, hX, hbl, hlocks, hgv⟩ := id C0
  have hts := fun w h => hts0 w (wsL_law_in w h)
  have hbA : ¬ A b := fun h => absurd (hAf b h) (Nat.not_le.mpr hbl)
  refine lv_aload_n hx hb dL_law_504 rfl (lv_at hl 1 rfl) ?_
  obtain ⟨⟨fs, hfs⟩, hph⟩ := okC_o hC
  obtain ⟨ms, hml7, hmet⟩ := p_X10_worthy l D cB cI cJ cS cZ cO H.size o tm ph wc  hC
  refine xAi hP hD hS hA (va_runV (As := []) (rest := []) ⟨hx, hb, hml, hown, hts⟩ hmet (cwV 0 hts0 gl_X10_worthy rfl rfl rfl (by decide +kernel) ⟨Nat.le_of_ble_eq_true rfl, Nat.le_of_ble_eq_true rfl⟩) (xPreVA hN hK hP hD hfs rfl rfl) rfl rfl hl.1 rfl (lv_room (Nat.le_of_ble_eq_true rfl)) dL_law_505 ⟨show cl + 3 ≤ 600000 by omega, show sl + ms ≤ 7302250 by omega⟩) (fun r_1 wc H locs hw hP hD hS => ?_)
  obtain ⟨ph2, hC, hms⟩ := hw
  refine lv_pop hx hb dL_law_508 rfl ?_
  refine lv_aload_n hx hb dL_law_509 rfl (lv_at hl 2 rfl) ?_
  obtain ⟨fs2, hfs2⟩ := okM_o hM
  have hP := P_swap hP
  have hD := D_swap hD
  have hmet2 := p_X11_worthy l D cB cI cJ cS cZ cO H.size mo tm wm  hM
  refine xAi hP hD hS hA (va_runV (As := []) (rest := []) ⟨hx, hb, hml, hown, hts⟩ hmet2 (cwV 0 hts0 gl_X11_worthy rfl rfl rfl (by decide +kernel) ⟨Nat.le_of_ble_eq_true rfl, Nat.le_of_ble_eq_true rfl⟩) (xPreVA hN hK hP hD hfs2 rfl rfl) rfl rfl hl.1 rfl (lv_room (Nat.le_of_ble_eq_true rfl)) dL_law_510 ⟨show cl + 3 + 0 ≤ 600000 by omega, show sl + ms + 0 ≤ 7302250 by omega⟩) (fun r_2 wm H locs hM hP hD hS => ?_)
  have hP := P_swap hP
  have hD := D_swap hD
  refine lv_pop hx hb dL_law_513 rfl ?_
  refine lv_goto (tgt := 1056) hx hb dL_law_514 (by decide) ?_
  refine lv_iinc (v := nI (i + 6)) (lv' := [(3, .int (nI (i + 6))), (0, .ref b), (1, .ref o), (2, .ref mo)]) hx hb dL_law_1056 hl (k := 3) rfl (nI_add i 6) (by decide) rfl (fun ls hl => ?_)
  refine lv_goto (tgt := 18) hx hb dL_law_1059 (by decide) ?_
  exact kk _ _ _ _ _ ⟨i + 6, wc, wm, _, ph2, rfl, hC, hM, hP, hD, hS, lv_sub hl [1, 2, 3, 0] rfl, by omega, by omega, by omega⟩

set_option maxHeartbeats 4000000 in
set_option maxRecDepth 100000 in
theorem lc_parted {p : Program} {l : Launch} {e : Env} {s : State} {m : MethodId} {below : List Frame} {meth : Method} {c : Code} {b L : Nat} {xs : Nat → Int32} {D : va_G} {cB cI cJ cS cZ cO : ClassId} {A : Nat → Prop} {adK adV : Nat → Nat} {o mo i ph cl sl : Nat} {tm : Int32} {wc wm : va_W} {H : Heap} {locs : List Jvm.Loc} {ls : Array Slot} (C0 : lw_At p s m meth c b L xs) (hL : L ≤ 3072) (hi6 : i + 6 ≤ L) (hK : va_K D vwCl (tyL cB cI cJ cS cZ cO) s) (hN : nwA s) (hE : strE adK adV A s s.heap) (hR : strR adK s) (hA : ∀ q : Nat, s.heap.size ≤ q → A q) (hAf : ∀ q : Nat, A q → s.heap.size ≤ q) (hC : okC cB cI cJ cS cZ cO o tm ph wc) (hM : okM cB cI cJ cS cZ cO mo tm wm) (hP : va_P D vwCl (wc ++ wm) H) (hD : va_D A (wc ++ wm)) (hS : va_S A s.heap H locs) (hl : lv_has ls 4 [(0, .ref b), (1, .ref o), (2, .ref mo), (3, .int (nI i))]) (hcl : cl ≤ 1000 + i) (hsl : sl ≤ 1000000 + 2 * ph) (kk : ∀ (cl2 sl2 : Nat) (H2 : Heap) (locs2 : List Jvm.Loc) (ls2 : Array Slot), LI cB cI cJ cS cZ cO D s A b o mo L (L - (i + 6)) cl2 sl2 H2 locs2 ls2 → W p l e room_1 s m #[Value.ref b] below meth c H2 locs2 cl2 sl2 (lw_Z below #[Value.ref b] s) (F0 m 18 ls2 [])) : W p l e room_1 s m #[Value.ref b] below meth c H locs cl sl (lw_Z below #[Value.ref b] s) (F0 m 517 ls []) := by
  obtain ⟨hx, hb, hr, hml, hown, hts0, hX, hbl, hlocks, hgv⟩ := id C0
  have hts := fun w h => hts0 w (wsL_law_in w h)
  have hbA : ¬ A b := fun h => absurd (hAf b h) (Nat.not_le.mpr hbl)
  refine lv_aload_n hx hb dL_law_517 rfl (lv_at hl 1 rfl) ?_
  obtain ⟨⟨fs, hfs⟩, hph⟩ := okC_o hC
  obtain ⟨ms, hml7, hmet⟩ := p_X10_parted l D cB cI cJ cS cZ cO H.size o tm ph wc  hC
  refine xAi hP hD hS hA (va_runV (As := []) (rest := []) ⟨hx, hb, hml, hown, hts⟩ hmet (cwV 0 hts0 gl_X10_parted rfl rfl rfl (by decide +kernel) ⟨Nat.le_of_ble_eq_true rfl, Nat.le_of_ble_eq_true rfl⟩) (xPreVA hN hK hP hD hfs rfl rfl) rfl rfl hl.1 rfl (lv_room (Nat.le_of_ble_eq_true rfl)) dL_law_518 ⟨show cl + 3 ≤ 600000 by omega, show sl + ms ≤ 7302250 by omega⟩) (fun r_1 wc H locs hw hP hD hS => ?_)
  obtain ⟨ph2, hC, hms⟩ := hw
  refine lv_pop hx hb dL_law_521 rfl ?_
  refine lv_aload_n hx hb dL_law_522 rfl (lv_at hl 2 rfl) ?_
  obtain ⟨fs2, hfs2⟩ := okM_o hM
  have hP := P_swap hP
  have hD := D_swap hD
  have hmet2 := p_X11_parted l D cB cI cJ cS cZ cO H.size mo tm wm  hM
  refine xAi hP hD hS hA (va_runV (As := []) (rest := []) ⟨hx, hb, hml, hown, hts⟩ hmet2 (cwV 0 hts0 gl_X11_parted rfl rfl rfl (by decide +kernel) ⟨Nat.le_of_ble_eq_true rfl, Nat.le_of_ble_eq_true rfl⟩) (xPreVA hN hK hP hD hfs2 rfl rfl) rfl rfl hl.1 rfl (lv_room (Nat.le_of_ble_eq_true rfl)) dL_law_523 ⟨show cl + 3 + 0 ≤ 600000 by omega, show sl + ms + 0 ≤ 7302250 by omega⟩) (fun r_2 wm H locs hM hP hD hS => ?_)
  have hP := P_swap hP
  have hD := D_swap hD
  refine lv_pop hx hb dL_law_526 rfl ?_
  refine lv_goto (tgt := 1056) hx hb dL_law_527 (by decide) ?_
  refine lv_iinc (v := nI (i + 6)) (lv' := [(3, .int (nI (i + 6))), (0, .ref b), (1, .ref o), (2, .ref mo)]) hx hb dL_law_1056 hl (k := 3) rfl (nI_add i 6) (by decide) rfl (fun ls hl => ?_)
  refine lv_goto (tgt := 18) hx hb dL_law_1059 (by decide) ?_
  exact kk _ _ _ _ _ ⟨i + 6, wc, wm, _, ph2, rfl, hC, hM, hP, hD, hS, lv_sub hl [1, 2, 3, 0] rfl, by omega, by omega, by omega⟩

set_option maxHeartbeats 4000000 in
set_option maxRecDepth 100000 in
theorem lc_missed {p : Program} {l : Launch} {e : Env} {s : State} {m : MethodId} {below : List Frame} {meth : Method} {c : Code} {b L : Nat} {xs : Nat → Int32} {D : va_G} {cB cI cJ cS cZ cO : ClassId} {A : Nat → Prop} {adK adV : Nat → Nat} {o mo i ph cl sl : Nat} {tm : Int32} {wc wm : va_W} {H : Heap} {locs : List Jvm.Loc} {ls : Array Slot} (C0 : lw_At p s m meth c b L xs) (hL : L ≤ 3072) (hi6 : i + 6 ≤ L) (hK : va_K D vwCl (tyL cB cI cJ cS cZ cO) s) (hN : nwA s) (hE : strE adK adV A s s.heap) (hR : strR adK s) (hA : ∀ q : Nat, s.heap.size ≤ q → A q) (hAf : ∀ q : Nat, A q → s.heap.size ≤ q) (hC : okC cB cI cJ cS cZ cO o tm ph wc) (hM : okM cB cI cJ cS cZ cO mo tm wm) (hP : va_P D vwCl (wc ++ wm) H) (hD : va_D A (wc ++ wm)) (hS : va_S A s.heap H locs) (hl : lv_has ls 4 [(0, .ref b), (1, .ref o), (2, .ref mo), (3, .int (nI i))]) (hcl : cl ≤ 1000 + i) (hsl : sl ≤ 1000000 + 2 * ph) (kk : ∀ (cl2 sl2 : Nat) (H2 : Heap) (locs2 : List Jvm.Loc) (ls2 : Array Slot), LI cB cI cJ cS cZ cO D s A b o mo L (L - (i + 6)) cl2 sl2 H2 locs2 ls2 → W p l e room_1 s m #[Value.ref b] below meth c H2 locs2 cl2 sl2 (lw_Z below #[Value.ref b] s) (F0 m 18 ls2 [])) : W p l e room_1 s m #[Value.ref b] below meth c H locs cl sl (lw_Z below #[Value.ref b] s) (F0 m 530 ls []) := by
  obtain ⟨hx, hb, hr, hml, hown, hts0, hX, hbl, hlocks, hgv⟩ := id C0
  have hts := fun w h => hts0 w (wsL_law_in w h)
  have hbA : ¬ A b := fun h => absurd (hAf b h) (Nat.not_le.mpr hbl)
  refine lv_aload_n hx hb dL_law_530 rfl (lv_at hl 1 rfl) ?_
  refine lv_aload_n hx hb dL_law_531 rfl (lv_at hl 0 rfl) ?_
  refine lv_iload_n hx hb dL_law_532 rfl (lv_at hl 3 rfl) ?_
  refine lv_iconst (v := 1) hx hb dL_law_533 (by decide) ?_
  refine lv_iadd hx hb dL_law_534 ?_
  refine xb_top (y := nI (i + 1)) (nI_add i 1) ?_
  refine va_sld hx hb hX hbl hbA hS (vp_in_nI (by omega) (by omega)) dL_law_535 ?_
  refine xb_top (y := xs (i + 1)) (by rw [nI_clamp (by omega)]) ?_
  obtain ⟨⟨fs, hfs⟩, hph⟩ := okC_o hC
  obtain ⟨ms, hml7, hmet⟩ := p_X10_missed l D cB cI cJ cS cZ cO H.size o tm ph wc (xs (i + 1)) hC
  refine xAi hP hD hS hA (va_runV (As := [.int (xs (i + 1))]) (rest := []) ⟨hx, hb, hml, hown, hts⟩ hmet (cwV 1 hts0 gl_X10_missed rfl rfl rfl (by decide +kernel) ⟨Nat.le_of_ble_eq_true rfl, Nat.le_of_ble_eq_true rfl⟩) (xPreVA hN hK hP hD hfs rfl rfl) rfl rfl hl.1 rfl (lv_room (Nat.le_of_ble_eq_true rfl)) dL_law_536 ⟨show cl + 3 ≤ 600000 by omega, show sl + ms ≤ 7302250 by omega⟩) (fun r_1 wc H locs hw hP hD hS => ?_)
  obtain ⟨ph2, hC, hms⟩ := hw
  refine lv_pop hx hb dL_law_539 rfl ?_
  refine lv_aload_n hx hb dL_law_540 rfl (lv_at hl 2 rfl) ?_
  refine lv_aload_n hx hb dL_law_541 rfl (lv_at hl 0 rfl) ?_
  refine lv_iload_n hx hb dL_law_542 rfl (lv_at hl 3 rfl) ?_
  refine lv_iconst (v := 1) hx hb dL_law_543 (by decide) ?_
  refine lv_iadd hx hb dL_law_544 ?_
  refine xb_top (y := nI (i + 1)) (nI_add i 1) ?_
  refine va_sld hx hb hX hbl hbA hS (vp_in_nI (by omega) (by omega)) dL_law_545 ?_
  refine xb_top (y := xs (i + 1)) (by rw [nI_clamp (by omega)]) ?_
  obtain ⟨fs2, hfs2⟩ := okM_o hM
  have hP := P_swap hP
  have hD := D_swap hD
  have hmet2 := p_X11_missed l D cB cI cJ cS cZ cO H.size mo tm wm (xs (i + 1)) hM
  refine xAi hP hD hS hA (va_runV (As := [.int (xs (i + 1))]) (rest := []) ⟨hx, hb, hml, hown, hts⟩ hmet2 (cwV 1 hts0 gl_X11_missed rfl rfl rfl (by decide +kernel) ⟨Nat.le_of_ble_eq_true rfl, Nat.le_of_ble_eq_true rfl⟩) (xPreVA hN hK hP hD hfs2 rfl rfl) rfl rfl hl.1 rfl (lv_room (Nat.le_of_ble_eq_true rfl)) dL_law_546 ⟨show cl + 3 + 0 ≤ 600000 by omega, show sl + ms + 0 ≤ 7302250 by omega⟩) (fun r_2 wm H locs hM hP hD hS => ?_)
  have hP := P_swap hP
  have hD := D_swap hD
  refine lv_pop hx hb dL_law_549 rfl ?_
  refine lv_goto (tgt := 1056) hx hb dL_law_550 (by decide) ?_
  refine lv_iinc (v := nI (i + 6)) (lv' := [(3, .int (nI (i + 6))), (0, .ref b), (1, .ref o), (2, .ref mo)]) hx hb dL_law_1056 hl (k := 3) rfl (nI_add i 6) (by decide) rfl (fun ls hl => ?_)
  refine lv_goto (tgt := 18) hx hb dL_law_1059 (by decide) ?_
  exact kk _ _ _ _ _ ⟨i + 6, wc, wm, _, ph2, rfl, hC, hM, hP, hD, hS, lv_sub hl [1, 2, 3, 0] rfl, by omega, by omega, by omega⟩

set_option maxHeartbeats 4000000 in
set_option maxRecDepth 100000 in
theorem lc_lies {p : Program} {l : Launch} {e : Env} {s : State} {m : MethodId} {below : List Frame} {meth : Method} {c : Code} {b L : Nat} {xs : Nat → Int32} {D : va_G} {cB cI cJ cS cZ cO : ClassId} {A : Nat → Prop} {adK adV : Nat → Nat} {o mo i ph cl sl : Nat} {tm : Int32} {wc wm : va_W} {H : Heap} {locs : List Jvm.Loc} {ls : Array Slot} (C0 : lw_At p s m meth c b L xs) (hL : L ≤ 3072) (hi6 : i + 6 ≤ L) (hK : va_K D vwCl (tyL cB cI cJ cS cZ cO) s) (hN : nwA s) (hE : strE adK adV A s s.heap) (hR : strR adK s) (hA : ∀ q : Nat, s.heap.size ≤ q → A q) (hAf : ∀ q : Nat, A q → s.heap.size ≤ q) (hC : okC cB cI cJ cS cZ cO o tm ph wc) (hM : okM cB cI cJ cS cZ cO mo tm wm) (hP : va_P D vwCl (wc ++ wm) H) (hD : va_D A (wc ++ wm)) (hS : va_S A s.heap H locs) (hl : lv_has ls 4 [(0, .ref b), (1, .ref o), (2, .ref mo), (3, .int (nI i))]) (hcl : cl ≤ 1000 + i) (hsl : sl ≤ 1000000 + 2 * ph) (kk : ∀ (cl2 sl2 : Nat) (H2 : Heap) (locs2 : List Jvm.Loc) (ls2 : Array Slot), LI cB cI cJ cS cZ cO D s A b o mo L (L - (i + 6)) cl2 sl2 H2 locs2 ls2 → W p l e room_1 s m #[Value.ref b] below meth c H2 locs2 cl2 sl2 (lw_Z below #[Value.ref b] s) (F0 m 18 ls2 [])) : W p l e room_1 s m #[Value.ref b] below meth c H locs cl sl (lw_Z below #[Value.ref b] s) (F0 m 553 ls []) := by
  obtain ⟨hx, hb, hr, hml, hown, hts0, hX, hbl, hlocks, hgv⟩ := id C0
  have hts := fun w h => hts0 w (wsL_law_in w h)
  have hbA : ¬ A b := fun h => absurd (hAf b h) (Nat.not_le.mpr hbl)
  refine lv_aload_n hx hb dL_law_553 rfl (lv_at hl 1 rfl) ?_
  refine lv_aload_n hx hb dL_law_554 rfl (lv_at hl 0 rfl) ?_
  refine lv_iload_n hx hb dL_law_555 rfl (lv_at hl 3 rfl) ?_
  refine lv_iconst (v := 1) hx hb dL_law_556 (by decide) ?_
  refine lv_iadd hx hb dL_law_557 ?_
  refine xb_top (y := nI (i + 1)) (nI_add i 1) ?_
  refine va_sld hx hb hX hbl hbA hS (vp_in_nI (by omega) (by omega)) dL_law_558 ?_
  refine xb_top (y := xs (i + 1)) (by rw [nI_clamp (by omega)]) ?_
  obtain ⟨⟨fs, hfs⟩, hph⟩ := okC_o hC
  obtain ⟨ms, hml7, hmet⟩ := p_X10_lies l D cB cI cJ cS cZ cO H.size o tm ph wc (xs (i + 1)) hC
  refine xAi hP hD hS hA (va_runV (As := [.int (xs (i + 1))]) (rest := []) ⟨hx, hb, hml, hown, hts⟩ hmet (cwV 1 hts0 gl_X10_lies rfl rfl rfl (by decide +kernel) ⟨Nat.le_of_ble_eq_true rfl, Nat.le_of_ble_eq_true rfl⟩) (xPreVA hN hK hP hD hfs rfl rfl) rfl rfl hl.1 rfl (lv_room (Nat.le_of_ble_eq_true rfl)) dL_law_559 ⟨show cl + 0 ≤ 600000 by omega, show sl + ms ≤ 7302250 by omega⟩) (fun r_1 wc H locs hw hP hD hS => ?_)
  obtain ⟨ph2, hC, hms⟩ := hw
  refine lv_pop hx hb dL_law_562 rfl ?_
  refine lv_aload_n hx hb dL_law_563 rfl (lv_at hl 2 rfl) ?_
  refine lv_aload_n hx hb dL_law_564 rfl (lv_at hl 0 rfl) ?_
  refine lv_iload_n hx hb dL_law_565 rfl (lv_at hl 3 rfl) ?_
  refine lv_iconst (v := 1) hx hb dL_law_566 (by decide) ?_
  refine lv_iadd hx hb dL_law_567 ?_
  refine xb_top (y := nI (i + 1)) (nI_add i 1) ?_
  refine va_sld hx hb hX hbl hbA hS (vp_in_nI (by omega) (by omega)) dL_law_568 ?_
  refine xb_top (y := xs (i + 1)) (by rw [nI_clamp (by omega)]) ?_
  obtain ⟨fs2, hfs2⟩ := okM_o hM
  have hP := P_swap hP
  have hD := D_swap hD
  have hmet2 := p_X11_lies l D cB cI cJ cS cZ cO H.size mo tm wm (xs (i + 1)) hM
  refine xAi hP hD hS hA (va_runV (As := [.int (xs (i + 1))]) (rest := []) ⟨hx, hb, hml, hown, hts⟩ hmet2 (cwV 1 hts0 gl_X11_lies rfl rfl rfl (by decide +kernel) ⟨Nat.le_of_ble_eq_true rfl, Nat.le_of_ble_eq_true rfl⟩) (xPreVA hN hK hP hD hfs2 rfl rfl) rfl rfl hl.1 rfl (lv_room (Nat.le_of_ble_eq_true rfl)) dL_law_569 ⟨show cl + 0 + 0 ≤ 600000 by omega, show sl + ms + 0 ≤ 7302250 by omega⟩) (fun r_2 wm H locs hM hP hD hS => ?_)
  have hP := P_swap hP
  have hD := D_swap hD
  refine lv_pop hx hb dL_law_572 rfl ?_
  refine lv_goto (tgt := 1056) hx hb dL_law_573 (by decide) ?_
  refine lv_iinc (v := nI (i + 6)) (lv' := [(3, .int (nI (i + 6))), (0, .ref b), (1, .ref o), (2, .ref mo)]) hx hb dL_law_1056 hl (k := 3) rfl (nI_add i 6) (by decide) rfl (fun ls hl => ?_)
  refine lv_goto (tgt := 18) hx hb dL_law_1059 (by decide) ?_
  exact kk _ _ _ _ _ ⟨i + 6, wc, wm, _, ph2, rfl, hC, hM, hP, hD, hS, lv_sub hl [1, 2, 3, 0] rfl, by omega, by omega, by omega⟩

set_option maxHeartbeats 4000000 in
set_option maxRecDepth 100000 in
theorem lc_surplus {p : Program} {l : Launch} {e : Env} {s : State} {m : MethodId} {below : List Frame} {meth : Method} {c : Code} {b L : Nat} {xs : Nat → Int32} {D : va_G} {cB cI cJ cS cZ cO : ClassId} {A : Nat → Prop} {adK adV : Nat → Nat} {o mo i ph cl sl : Nat} {tm : Int32} {wc wm : va_W} {H : Heap} {locs : List Jvm.Loc} {ls : Array Slot} (C0 : lw_At p s m meth c b L xs) (hL : L ≤ 3072) (hi6 : i + 6 ≤ L) (hK : va_K D vwCl (tyL cB cI cJ cS cZ cO) s) (hN : nwA s) (hE : strE adK adV A s s.heap) (hR : strR adK s) (hA : ∀ q : Nat, s.heap.size ≤ q → A q) (hAf : ∀ q : Nat, A q → s.heap.size ≤ q) (hC : okC cB cI cJ cS cZ cO o tm ph wc) (hM : okM cB cI cJ cS cZ cO mo tm wm) (hP : va_P D vwCl (wc ++ wm) H) (hD : va_D A (wc ++ wm)) (hS : va_S A s.heap H locs) (hl : lv_has ls 4 [(0, .ref b), (1, .ref o), (2, .ref mo), (3, .int (nI i))]) (hcl : cl ≤ 1000 + i) (hsl : sl ≤ 1000000 + 2 * ph) (kk : ∀ (cl2 sl2 : Nat) (H2 : Heap) (locs2 : List Jvm.Loc) (ls2 : Array Slot), LI cB cI cJ cS cZ cO D s A b o mo L (L - (i + 6)) cl2 sl2 H2 locs2 ls2 → W p l e room_1 s m #[Value.ref b] below meth c H2 locs2 cl2 sl2 (lw_Z below #[Value.ref b] s) (F0 m 18 ls2 [])) : W p l e room_1 s m #[Value.ref b] below meth c H locs cl sl (lw_Z below #[Value.ref b] s) (F0 m 576 ls []) := by
  obtain ⟨hx, hb, hr, hml, hown, hts0, hX, hbl, hlocks, hgv⟩ := id C0
  have hts := fun w h => hts0 w (wsL_law_in w h)
  have hbA : ¬ A b := fun h => absurd (hAf b h) (Nat.not_le.mpr hbl)
  refine lv_aload_n hx hb dL_law_576 rfl (lv_at hl 1 rfl) ?_
  refine lv_aload_n hx hb dL_law_577 rfl (lv_at hl 0 rfl) ?_
  refine lv_iload_n hx hb dL_law_578 rfl (lv_at hl 3 rfl) ?_
  refine lv_iconst (v := 1) hx hb dL_law_579 (by decide) ?_
  refine lv_iadd hx hb dL_law_580 ?_
  refine xb_top (y := nI (i + 1)) (nI_add i 1) ?_
  refine va_sld hx hb hX hbl hbA hS (vp_in_nI (by omega) (by omega)) dL_law_581 ?_
  refine xb_top (y := xs (i + 1)) (by rw [nI_clamp (by omega)]) ?_
  obtain ⟨⟨fs, hfs⟩, hph⟩ := okC_o hC
  obtain ⟨ms, hml7, hmet⟩ := p_X10_surplus l D cB cI cJ cS cZ cO H.size o tm ph wc (xs (i + 1)) hC
  refine xAi hP hD hS hA (va_runV (As := [.int (xs (i + 1))]) (rest := []) ⟨hx, hb, hml, hown, hts⟩ hmet (cwV 1 hts0 gl_X10_surplus rfl rfl rfl (by decide +kernel) ⟨Nat.le_of_ble_eq_true rfl, Nat.le_of_ble_eq_true rfl⟩) (xPreVA hN hK hP hD hfs rfl rfl) rfl rfl hl.1 rfl (lv_room (Nat.le_of_ble_eq_true rfl)) dL_law_582 ⟨show cl + 0 ≤ 600000 by omega, show sl + ms ≤ 7302250 by omega⟩) (fun r_1 wc H locs hw hP hD hS => ?_)
  obtain ⟨ph2, hC, hms⟩ := hw
  refine lv_pop hx hb dL_law_585 rfl ?_
  refine lv_aload_n hx hb dL_law_586 rfl (lv_at hl 2 rfl) ?_
  refine lv_aload_n hx hb dL_law_587 rfl (lv_at hl 0 rfl) ?_
  refine lv_iload_n hx hb dL_law_588 rfl (lv_at hl 3 rfl) ?_
  refine lv_iconst (v := 1) hx hb dL_law_589 (by decide) ?_
  refine lv_iadd hx hb dL_law_590 ?_
  refine xb_top (y := nI (i + 1)) (nI_add i 1) ?_
  refine va_sld hx hb hX hbl hbA hS (vp_in_nI (by omega) (by omega)) dL_law_591 ?_
  refine xb_top (y := xs (i + 1)) (by rw [nI_clamp (by omega)]) ?_
  obtain ⟨fs2, hfs2⟩ := okM_o hM
  have hP := P_swap hP
  have hD := D_swap hD
  have hmet2 := p_X11_surplus l D cB cI cJ cS cZ cO H.size mo tm wm (xs (i + 1)) hM
  refine xAi hP hD hS hA (va_runV (As := [.int (xs (i + 1))]) (rest := []) ⟨hx, hb, hml, hown, hts⟩ hmet2 (cwV 1 hts0 gl_X11_surplus rfl rfl rfl (by decide +kernel) ⟨Nat.le_of_ble_eq_true rfl, Nat.le_of_ble_eq_true rfl⟩) (xPreVA hN hK hP hD hfs2 rfl rfl) rfl rfl hl.1 rfl (lv_room (Nat.le_of_ble_eq_true rfl)) dL_law_592 ⟨show cl + 0 + 0 ≤ 600000 by omega, show sl + ms + 0 ≤ 7302250 by omega⟩) (fun r_2 wm H locs hM hP hD hS => ?_)
  have hP := P_swap hP
  have hD := D_swap hD
  refine lv_pop hx hb dL_law_595 rfl ?_
  refine lv_goto (tgt := 1056) hx hb dL_law_596 (by decide) ?_
  refine lv_iinc (v := nI (i + 6)) (lv' := [(3, .int (nI (i + 6))), (0, .ref b), (1, .ref o), (2, .ref mo)]) hx hb dL_law_1056 hl (k := 3) rfl (nI_add i 6) (by decide) rfl (fun ls hl => ?_)
  refine lv_goto (tgt := 18) hx hb dL_law_1059 (by decide) ?_
  exact kk _ _ _ _ _ ⟨i + 6, wc, wm, _, ph2, rfl, hC, hM, hP, hD, hS, lv_sub hl [1, 2, 3, 0] rfl, by omega, by omega, by omega⟩

set_option maxHeartbeats 4000000 in
set_option maxRecDepth 100000 in
theorem lc_mended {p : Program} {l : Launch} {e : Env} {s : State} {m : MethodId} {below : List Frame} {meth : Method} {c : Code} {b L : Nat} {xs : Nat → Int32} {D : va_G} {cB cI cJ cS cZ cO : ClassId} {A : Nat → Prop} {adK adV : Nat → Nat} {o mo i ph cl sl : Nat} {tm : Int32} {wc wm : va_W} {H : Heap} {locs : List Jvm.Loc} {ls : Array Slot} (C0 : lw_At p s m meth c b L xs) (hL : L ≤ 3072) (hi6 : i + 6 ≤ L) (hK : va_K D vwCl (tyL cB cI cJ cS cZ cO) s) (hN : nwA s) (hE : strE adK adV A s s.heap) (hR : strR adK s) (hA : ∀ q : Nat, s.heap.size ≤ q → A q) (hAf : ∀ q : Nat, A q → s.heap.size ≤ q) (hC : okC cB cI cJ cS cZ cO o tm ph wc) (hM : okM cB cI cJ cS cZ cO mo tm wm) (hP : va_P D vwCl (wc ++ wm) H) (hD : va_D A (wc ++ wm)) (hS : va_S A s.heap H locs) (hl : lv_has ls 4 [(0, .ref b), (1, .ref o), (2, .ref mo), (3, .int (nI i))]) (hcl : cl ≤ 1000 + i) (hsl : sl ≤ 1000000 + 2 * ph) (kk : ∀ (cl2 sl2 : Nat) (H2 : Heap) (locs2 : List Jvm.Loc) (ls2 : Array Slot), LI cB cI cJ cS cZ cO D s A b o mo L (L - (i + 6)) cl2 sl2 H2 locs2 ls2 → W p l e room_1 s m #[Value.ref b] below meth c H2 locs2 cl2 sl2 (lw_Z below #[Value.ref b] s) (F0 m 18 ls2 [])) : W p l e room_1 s m #[Value.ref b] below meth c H locs cl sl (lw_Z below #[Value.ref b] s) (F0 m 599 ls []) := by
  obtain ⟨hx, hb, hr, hml, hown, hts0, hX, hbl, hlocks, hgv⟩ := id C0
  have hts := fun w h => hts0 w (wsL_law_in w h)
  have hbA : ¬ A b := fun h => absurd (hAf b h) (Nat.not_le.mpr hbl)
  refine lv_aload_n hx hb dL_law_599 rfl (lv_at hl 1 rfl) ?_
  obtain ⟨⟨fs, hfs⟩, hph⟩ := okC_o hC
  obtain ⟨ms, hml7, hmet⟩ := p_X10_mended l D cB cI cJ cS cZ cO H.size o tm ph wc  hC
  refine xAi hP hD hS hA (va_runV (As := []) (rest := []) ⟨hx, hb, hml, hown, hts⟩ hmet (cwV 0 hts0 gl_X10_mended rfl rfl rfl (by decide +kernel) ⟨Nat.le_of_ble_eq_true rfl, Nat.le_of_ble_eq_true rfl⟩) (xPreVA hN hK hP hD hfs rfl rfl) rfl rfl hl.1 rfl (lv_room (Nat.le_of_ble_eq_true rfl)) dL_law_600 ⟨show cl + 0 ≤ 600000 by omega, show sl + ms ≤ 7302250 by omega⟩) (fun r_1 wc H locs hw hP hD hS => ?_)
  obtain ⟨ph2, hC, hms⟩ := hw
  refine lv_pop hx hb dL_law_603 rfl ?_
  refine lv_aload_n hx hb dL_law_604 rfl (lv_at hl 2 rfl) ?_
  obtain ⟨fs2, hfs2⟩ := okM_o hM
  have hP := P_swap hP
  have hD := D_swap hD
  have hmet2 := p_X11_mended l D cB cI cJ cS cZ cO H.size mo tm wm  hM
  refine xAi hP hD hS hA (va_runV (As := []) (rest := []) ⟨hx, hb, hml, hown, hts⟩ hmet2 (cwV 0 hts0 gl_X11_mended rfl rfl rfl (by decide +kernel) ⟨Nat.le_of_ble_eq_true rfl, Nat.le_of_ble_eq_true rfl⟩) (xPreVA hN hK hP hD hfs2 rfl rfl) rfl rfl hl.1 rfl (lv_room (Nat.le_of_ble_eq_true rfl)) dL_law_605 ⟨show cl + 0 + 0 ≤ 600000 by omega, show sl + ms + 0 ≤ 7302250 by omega⟩) (fun r_2 wm H locs hM hP hD hS => ?_)
  have hP := P_swap hP
  have hD := D_swap hD
  refine lv_pop hx hb dL_law_608 rfl ?_
  refine lv_goto (tgt := 1056) hx hb dL_law_609 (by decide) ?_
  refine lv_iinc (v := nI (i + 6)) (lv' := [(3, .int (nI (i + 6))), (0, .ref b), (1, .ref o), (2, .ref mo)]) hx hb dL_law_1056 hl (k := 3) rfl (nI_add i 6) (by decide) rfl (fun ls hl => ?_)
  refine lv_goto (tgt := 18) hx hb dL_law_1059 (by decide) ?_
  exact kk _ _ _ _ _ ⟨i + 6, wc, wm, _, ph2, rfl, hC, hM, hP, hD, hS, lv_sub hl [1, 2, 3, 0] rfl, by omega, by omega, by omega⟩

set_option maxHeartbeats 4000000 in
set_option maxRecDepth 100000 in
theorem lc_join {p : Program} {l : Launch} {e : Env} {s : State} {m : MethodId} {below : List Frame} {meth : Method} {c : Code} {b L : Nat} {xs : Nat → Int32} {D : va_G} {cB cI cJ cS cZ cO : ClassId} {A : Nat → Prop} {adK adV : Nat → Nat} {o mo i ph cl sl : Nat} {tm : Int32} {wc wm : va_W} {H : Heap} {locs : List Jvm.Loc} {ls : Array Slot} (C0 : lw_At p s m meth c b L xs) (hL : L ≤ 3072) (hi6 : i + 6 ≤ L) (hK : va_K D vwCl (tyL cB cI cJ cS cZ cO) s) (hN : nwA s) (hE : strE adK adV A s s.heap) (hR : strR adK s) (hA : ∀ q : Nat, s.heap.size ≤ q → A q) (hAf : ∀ q : Nat, A q → s.heap.size ≤ q) (hC : okC cB cI cJ cS cZ cO o tm ph wc) (hM : okM cB cI cJ cS cZ cO mo tm wm) (hP : va_P D vwCl (wc ++ wm) H) (hD : va_D A (wc ++ wm)) (hS : va_S A s.heap H locs) (hl : lv_has ls 4 [(0, .ref b), (1, .ref o), (2, .ref mo), (3, .int (nI i))]) (hcl : cl ≤ 1000 + i) (hsl : sl ≤ 1000000 + 2 * ph) (kk : ∀ (cl2 sl2 : Nat) (H2 : Heap) (locs2 : List Jvm.Loc) (ls2 : Array Slot), LI cB cI cJ cS cZ cO D s A b o mo L (L - (i + 6)) cl2 sl2 H2 locs2 ls2 → W p l e room_1 s m #[Value.ref b] below meth c H2 locs2 cl2 sl2 (lw_Z below #[Value.ref b] s) (F0 m 18 ls2 [])) : W p l e room_1 s m #[Value.ref b] below meth c H locs cl sl (lw_Z below #[Value.ref b] s) (F0 m 612 ls []) := by
  obtain ⟨hx, hb, hr, hml, hown, hts0, hX, hbl, hlocks, hgv⟩ := id C0
  have hts := fun w h => hts0 w (wsL_law_in w h)
  have hbA : ¬ A b := fun h => absurd (hAf b h) (Nat.not_le.mpr hbl)
  refine lv_aload_n hx hb dL_law_612 rfl (lv_at hl 1 rfl) ?_
  refine lv_aload_n hx hb dL_law_613 rfl (lv_at hl 0 rfl) ?_
  refine lv_iload_n hx hb dL_law_614 rfl (lv_at hl 3 rfl) ?_
  refine lv_iconst (v := 1) hx hb dL_law_615 (by decide) ?_
  refine lv_iadd hx hb dL_law_616 ?_
  refine xb_top (y := nI (i + 1)) (nI_add i 1) ?_
  refine va_sld hx hb hX hbl hbA hS (vp_in_nI (by omega) (by omega)) dL_law_617 ?_
  refine xb_top (y := xs (i + 1)) (by rw [nI_clamp (by omega)]) ?_
  refine lv_aload_n hx hb dL_law_618 rfl (lv_at hl 0 rfl) ?_
  refine lv_iload_n hx hb dL_law_619 rfl (lv_at hl 3 rfl) ?_
  refine lv_iconst (v := 2) hx hb dL_law_620 (by decide) ?_
  refine lv_iadd hx hb dL_law_621 ?_
  refine xb_top (y := nI (i + 2)) (nI_add i 2) ?_
  refine va_sld hx hb hX hbl hbA hS (vp_in_nI (by omega) (by omega)) dL_law_622 ?_
  refine xb_top (y := xs (i + 2)) (by rw [nI_clamp (by omega)]) ?_
  obtain ⟨⟨fs, hfs⟩, hph⟩ := okC_o hC
  obtain ⟨ms, hml7, hmet⟩ := p_X10_join l D cB cI cJ cS cZ cO H.size o tm ph wc (xs (i + 1)) (xs (i + 2)) hC
  refine xAi hP hD hS hA (va_runV (As := [.int (xs (i + 1)), .int (xs (i + 2))]) (rest := []) ⟨hx, hb, hml, hown, hts⟩ hmet (cwV 2 hts0 gl_X10_join rfl rfl rfl (by decide +kernel) ⟨Nat.le_of_ble_eq_true rfl, Nat.le_of_ble_eq_true rfl⟩) (xPreVA hN hK hP hD hfs rfl rfl) rfl rfl hl.1 rfl (lv_room (Nat.le_of_ble_eq_true rfl)) dL_law_623 ⟨show cl + 0 ≤ 600000 by omega, show sl + ms ≤ 7302250 by omega⟩) (fun r_1 wc H locs hw hP hD hS => ?_)
  obtain ⟨ph2, hC, hms⟩ := hw
  refine lv_pop hx hb dL_law_626 rfl ?_
  refine lv_aload_n hx hb dL_law_627 rfl (lv_at hl 2 rfl) ?_
  refine lv_aload_n hx hb dL_law_628 rfl (lv_at hl 0 rfl) ?_
  refine lv_iload_n hx hb dL_law_629 rfl (lv_at hl 3 rfl) ?_
  refine lv_iconst (v := 1) hx hb dL_law_630 (by decide) ?_
  refine lv_iadd hx hb dL_law_631 ?_
  refine xb_top (y := nI (i + 1)) (nI_add i 1) ?_
  refine va_sld hx hb hX hbl hbA hS (vp_in_nI (by omega) (by omega)) dL_law_632 ?_
  refine xb_top (y := xs (i + 1)) (by rw [nI_clamp (by omega)]) ?_
  refine lv_aload_n hx hb dL_law_633 rfl (lv_at hl 0 rfl) ?_
  refine lv_iload_n hx hb dL_law_634 rfl (lv_at hl 3 rfl) ?_
  refine lv_iconst (v := 2) hx hb dL_law_635 (by decide) ?_
  refine lv_iadd hx hb dL_law_636 ?_
  refine xb_top (y := nI (i + 2)) (nI_add i 2) ?_
  refine va_sld hx hb hX hbl hbA hS (vp_in_nI (by omega) (by omega)) dL_law_637 ?_
  refine xb_top (y := xs (i + 2)) (by rw [nI_clamp (by omega)]) ?_
  obtain ⟨fs2, hfs2⟩ := okM_o hM
  have hP := P_swap hP
  have hD := D_swap hD
  have hmet2 := p_X11_join l D cB cI cJ cS cZ cO H.size mo tm wm (xs (i + 1)) (xs (i + 2)) hM
  refine xAi hP hD hS hA (va_runV (As := [.int (xs (i + 1)), .int (xs (i + 2))]) (rest := []) ⟨hx, hb, hml, hown, hts⟩ hmet2 (cwV 2 hts0 gl_X11_join rfl rfl rfl (by decide +kernel) ⟨Nat.le_of_ble_eq_true rfl, Nat.le_of_ble_eq_true rfl⟩) (xPreVA hN hK hP hD hfs2 rfl rfl) rfl rfl hl.1 rfl (lv_room (Nat.le_of_ble_eq_true rfl)) dL_law_638 ⟨show cl + 0 + 0 ≤ 600000 by omega, show sl + ms + 0 ≤ 7302250 by omega⟩) (fun r_2 wm H locs hM hP hD hS => ?_)
  have hP := P_swap hP
  have hD := D_swap hD
  refine lv_pop hx hb dL_law_641 rfl ?_
  refine lv_goto (tgt := 1056) hx hb dL_law_642 (by decide) ?_
  refine lv_iinc (v := nI (i + 6)) (lv' := [(3, .int (nI (i + 6))), (0, .ref b), (1, .ref o), (2, .ref mo)]) hx hb dL_law_1056 hl (k := 3) rfl (nI_add i 6) (by decide) rfl (fun ls hl => ?_)
  refine lv_goto (tgt := 18) hx hb dL_law_1059 (by decide) ?_
  exact kk _ _ _ _ _ ⟨i + 6, wc, wm, _, ph2, rfl, hC, hM, hP, hD, hS, lv_sub hl [1, 2, 3, 0] rfl, by omega, by omega, by omega⟩

set_option maxHeartbeats 4000000 in
set_option maxRecDepth 100000 in
theorem lc_telling {p : Program} {l : Launch} {e : Env} {s : State} {m : MethodId} {below : List Frame} {meth : Method} {c : Code} {b L : Nat} {xs : Nat → Int32} {D : va_G} {cB cI cJ cS cZ cO : ClassId} {A : Nat → Prop} {adK adV : Nat → Nat} {o mo i ph cl sl : Nat} {tm : Int32} {wc wm : va_W} {H : Heap} {locs : List Jvm.Loc} {ls : Array Slot} (C0 : lw_At p s m meth c b L xs) (hL : L ≤ 3072) (hi6 : i + 6 ≤ L) (hK : va_K D vwCl (tyL cB cI cJ cS cZ cO) s) (hN : nwA s) (hE : strE adK adV A s s.heap) (hR : strR adK s) (hA : ∀ q : Nat, s.heap.size ≤ q → A q) (hAf : ∀ q : Nat, A q → s.heap.size ≤ q) (hC : okC cB cI cJ cS cZ cO o tm ph wc) (hM : okM cB cI cJ cS cZ cO mo tm wm) (hP : va_P D vwCl (wc ++ wm) H) (hD : va_D A (wc ++ wm)) (hS : va_S A s.heap H locs) (hl : lv_has ls 4 [(0, .ref b), (1, .ref o), (2, .ref mo), (3, .int (nI i))]) (hcl : cl ≤ 1000 + i) (hsl : sl ≤ 1000000 + 2 * ph) (kk : ∀ (cl2 sl2 : Nat) (H2 : Heap) (locs2 : List Jvm.Loc) (ls2 : Array Slot), LI cB cI cJ cS cZ cO D s A b o mo L (L - (i + 6)) cl2 sl2 H2 locs2 ls2 → W p l e room_1 s m #[Value.ref b] below meth c H2 locs2 cl2 sl2 (lw_Z below #[Value.ref b] s) (F0 m 18 ls2 [])) : W p l e room_1 s m #[Value.ref b] below meth c H locs cl sl (lw_Z below #[Value.ref b] s) (F0 m 645 ls []) := by
  obtain ⟨hx, hb, hr, hml, hown, hts0, hX, hbl, hlocks, hgv⟩ := id C0
  have hts := fun w h => hts0 w (wsL_law_in w h)
  have hbA : ¬ A b := fun h => absurd (hAf b h) (Nat.not_le.mpr hbl)
  refine lv_aload_n hx hb dL_law_645 rfl (lv_at hl 1 rfl) ?_
  obtain ⟨⟨fs, hfs⟩, hph⟩ := okC_o hC
  obtain ⟨ms, hml7, hmet⟩ := p_X10_telling l D cB cI cJ cS cZ cO H.size o tm ph wc  hC
  refine xAi hP hD hS hA (va_runV (As := []) (rest := []) ⟨hx, hb, hml, hown, hts⟩ hmet (cwV 0 hts0 gl_X10_telling rfl rfl rfl (by decide +kernel) ⟨Nat.le_of_ble_eq_true rfl, Nat.le_of_ble_eq_true rfl⟩) (xPreVA hN hK hP hD hfs rfl rfl) rfl rfl hl.1 rfl (lv_room (Nat.le_of_ble_eq_true rfl)) dL_law_646 ⟨show cl + 0 ≤ 600000 by omega, show sl + ms ≤ 7302250 by omega⟩) (fun r_1 wc H locs hw hP hD hS => ?_)
  obtain ⟨ph2, hC, hms⟩ := hw
  refine lv_pop hx hb dL_law_649 rfl ?_
  refine lv_aload_n hx hb dL_law_650 rfl (lv_at hl 2 rfl) ?_
  obtain ⟨fs2, hfs2⟩ := okM_o hM
  have hP := P_swap hP
  have hD := D_swap hD
  have hmet2 := p_X11_telling l D cB cI cJ cS cZ cO H.size mo tm wm  hM
  refine xAi hP hD hS hA (va_runV (As := []) (rest := []) ⟨hx, hb, hml, hown, hts⟩ hmet2 (cwV 0 hts0 gl_X11_telling rfl rfl rfl (by decide +kernel) ⟨Nat.le_of_ble_eq_true rfl, Nat.le_of_ble_eq_true rfl⟩) (xPreVA hN hK hP hD hfs2 rfl rfl) rfl rfl hl.1 rfl (lv_room (Nat.le_of_ble_eq_true rfl)) dL_law_651 ⟨show cl + 0 + 0 ≤ 600000 by omega, show sl + ms + 0 ≤ 7302250 by omega⟩) (fun r_2 wm H locs hM hP hD hS => ?_)
  have hP := P_swap hP
  have hD := D_swap hD
  refine lv_pop hx hb dL_law_654 rfl ?_
  refine lv_goto (tgt := 1056) hx hb dL_law_655 (by decide) ?_
  refine lv_iinc (v := nI (i + 6)) (lv' := [(3, .int (nI (i + 6))), (0, .ref b), (1, .ref o), (2, .ref mo)]) hx hb dL_law_1056 hl (k := 3) rfl (nI_add i 6) (by decide) rfl (fun ls hl => ?_)
  refine lv_goto (tgt := 18) hx hb dL_law_1059 (by decide) ?_
  exact kk _ _ _ _ _ ⟨i + 6, wc, wm, _, ph2, rfl, hC, hM, hP, hD, hS, lv_sub hl [1, 2, 3, 0] rfl, by omega, by omega, by omega⟩

set_option maxHeartbeats 4000000 in
set_option maxRecDepth 100000 in
theorem lc_game {p : Program} {l : Launch} {e : Env} {s : State} {m : MethodId} {below : List Frame} {meth : Method} {c : Code} {b L : Nat} {xs : Nat → Int32} {D : va_G} {cB cI cJ cS cZ cO : ClassId} {A : Nat → Prop} {adK adV : Nat → Nat} {o mo i ph cl sl : Nat} {tm : Int32} {wc wm : va_W} {H : Heap} {locs : List Jvm.Loc} {ls : Array Slot} (C0 : lw_At p s m meth c b L xs) (hL : L ≤ 3072) (hi6 : i + 6 ≤ L) (hK : va_K D vwCl (tyL cB cI cJ cS cZ cO) s) (hN : nwA s) (hE : strE adK adV A s s.heap) (hR : strR adK s) (hA : ∀ q : Nat, s.heap.size ≤ q → A q) (hAf : ∀ q : Nat, A q → s.heap.size ≤ q) (hC : okC cB cI cJ cS cZ cO o tm ph wc) (hM : okM cB cI cJ cS cZ cO mo tm wm) (hP : va_P D vwCl (wc ++ wm) H) (hD : va_D A (wc ++ wm)) (hS : va_S A s.heap H locs) (hl : lv_has ls 4 [(0, .ref b), (1, .ref o), (2, .ref mo), (3, .int (nI i))]) (hcl : cl ≤ 1000 + i) (hsl : sl ≤ 1000000 + 2 * ph) (kk : ∀ (cl2 sl2 : Nat) (H2 : Heap) (locs2 : List Jvm.Loc) (ls2 : Array Slot), LI cB cI cJ cS cZ cO D s A b o mo L (L - (i + 6)) cl2 sl2 H2 locs2 ls2 → W p l e room_1 s m #[Value.ref b] below meth c H2 locs2 cl2 sl2 (lw_Z below #[Value.ref b] s) (F0 m 18 ls2 [])) : W p l e room_1 s m #[Value.ref b] below meth c H locs cl sl (lw_Z below #[Value.ref b] s) (F0 m 658 ls []) := by
  obtain ⟨hx, hb, hr, hml, hown, hts0, hX, hbl, hlocks, hgv⟩ := id C0
  have hts := fun w h => hts0 w (wsL_law_in w h)
  have hbA : ¬ A b := fun h => absurd (hAf b h) (Nat.not_le.mpr hbl)
  refine lv_aload_n hx hb dL_law_658 rfl (lv_at hl 1 rfl) ?_
  refine lv_aload_n hx hb dL_law_659 rfl (lv_at hl 0 rfl) ?_
  refine lv_iload_n hx hb dL_law_660 rfl (lv_at hl 3 rfl) ?_
  refine lv_iconst (v := 1) hx hb dL_law_661 (by decide) ?_
  refine lv_iadd hx hb dL_law_662 ?_
  refine xb_top (y := nI (i + 1)) (nI_add i 1) ?_
  refine va_sld hx hb hX hbl hbA hS (vp_in_nI (by omega) (by omega)) dL_law_663 ?_
  refine xb_top (y := xs (i + 1)) (by rw [nI_clamp (by omega)]) ?_
  obtain ⟨⟨fs, hfs⟩, hph⟩ := okC_o hC
  obtain ⟨ms, hml7, hmet⟩ := p_X10_game l D cB cI cJ cS cZ cO H.size o tm ph wc (xs (i + 1)) hC
  refine xAi hP hD hS hA (va_runV (As := [.int (xs (i + 1))]) (rest := []) ⟨hx, hb, hml, hown, hts⟩ hmet (cwV 1 hts0 gl_X10_game rfl rfl rfl (by decide +kernel) ⟨Nat.le_of_ble_eq_true rfl, Nat.le_of_ble_eq_true rfl⟩) (xPreVA hN hK hP hD hfs rfl rfl) rfl rfl hl.1 rfl (lv_room (Nat.le_of_ble_eq_true rfl)) dL_law_664 ⟨show cl + 1 ≤ 600000 by omega, show sl + ms ≤ 7302250 by omega⟩) (fun r_1 wc H locs hw hP hD hS => ?_)
  obtain ⟨ph2, hC, hms⟩ := hw
  refine lv_pop hx hb dL_law_667 rfl ?_
  refine lv_aload_n hx hb dL_law_668 rfl (lv_at hl 2 rfl) ?_
  refine lv_aload_n hx hb dL_law_669 rfl (lv_at hl 0 rfl) ?_
  refine lv_iload_n hx hb dL_law_670 rfl (lv_at hl 3 rfl) ?_
  refine lv_iconst (v := 1) hx hb dL_law_671 (by decide) ?_
  refine lv_iadd hx hb dL_law_672 ?_
  refine xb_top (y := nI (i + 1)) (nI_add i 1) ?_
  refine va_sld hx hb hX hbl hbA hS (vp_in_nI (by omega) (by omega)) dL_law_673 ?_
  refine xb_top (y := xs (i + 1)) (by rw [nI_clamp (by omega)]) ?_
  obtain ⟨fs2, hfs2⟩ := okM_o hM
  have hP := P_swap hP
  have hD := D_swap hD
  have hmet2 := p_X11_game l D cB cI cJ cS cZ cO H.size mo tm wm (xs (i + 1)) hM
  refine xAi hP hD hS hA (va_runV (As := [.int (xs (i + 1))]) (rest := []) ⟨hx, hb, hml, hown, hts⟩ hmet2 (cwV 1 hts0 gl_X11_game rfl rfl rfl (by decide +kernel) ⟨Nat.le_of_ble_eq_true rfl, Nat.le_of_ble_eq_true rfl⟩) (xPreVA hN hK hP hD hfs2 rfl rfl) rfl rfl hl.1 rfl (lv_room (Nat.le_of_ble_eq_true rfl)) dL_law_674 ⟨show cl + 1 + 0 ≤ 600000 by omega, show sl + ms + 0 ≤ 7302250 by omega⟩) (fun r_2 wm H locs hM hP hD hS => ?_)
  have hP := P_swap hP
  have hD := D_swap hD
  refine lv_pop hx hb dL_law_677 rfl ?_
  refine lv_goto (tgt := 1056) hx hb dL_law_678 (by decide) ?_
  refine lv_iinc (v := nI (i + 6)) (lv' := [(3, .int (nI (i + 6))), (0, .ref b), (1, .ref o), (2, .ref mo)]) hx hb dL_law_1056 hl (k := 3) rfl (nI_add i 6) (by decide) rfl (fun ls hl => ?_)
  refine lv_goto (tgt := 18) hx hb dL_law_1059 (by decide) ?_
  exact kk _ _ _ _ _ ⟨i + 6, wc, wm, _, ph2, rfl, hC, hM, hP, hD, hS, lv_sub hl [1, 2, 3, 0] rfl, by omega, by omega, by omega⟩

set_option maxHeartbeats 4000000 in
set_option maxRecDepth 100000 in
theorem lc_wins {p : Program} {l : Launch} {e : Env} {s : State} {m : MethodId} {below : List Frame} {meth : Method} {c : Code} {b L : Nat} {xs : Nat → Int32} {D : va_G} {cB cI cJ cS cZ cO : ClassId} {A : Nat → Prop} {adK adV : Nat → Nat} {o mo i ph cl sl : Nat} {tm : Int32} {wc wm : va_W} {H : Heap} {locs : List Jvm.Loc} {ls : Array Slot} (C0 : lw_At p s m meth c b L xs) (hL : L ≤ 3072) (hi6 : i + 6 ≤ L) (hK : va_K D vwCl (tyL cB cI cJ cS cZ cO) s) (hN : nwA s) (hE : strE adK adV A s s.heap) (hR : strR adK s) (hA : ∀ q : Nat, s.heap.size ≤ q → A q) (hAf : ∀ q : Nat, A q → s.heap.size ≤ q) (hC : okC cB cI cJ cS cZ cO o tm ph wc) (hM : okM cB cI cJ cS cZ cO mo tm wm) (hP : va_P D vwCl (wc ++ wm) H) (hD : va_D A (wc ++ wm)) (hS : va_S A s.heap H locs) (hl : lv_has ls 4 [(0, .ref b), (1, .ref o), (2, .ref mo), (3, .int (nI i))]) (hcl : cl ≤ 1000 + i) (hsl : sl ≤ 1000000 + 2 * ph) (kk : ∀ (cl2 sl2 : Nat) (H2 : Heap) (locs2 : List Jvm.Loc) (ls2 : Array Slot), LI cB cI cJ cS cZ cO D s A b o mo L (L - (i + 6)) cl2 sl2 H2 locs2 ls2 → W p l e room_1 s m #[Value.ref b] below meth c H2 locs2 cl2 sl2 (lw_Z below #[Value.ref b] s) (F0 m 18 ls2 [])) : W p l e room_1 s m #[Value.ref b] below meth c H locs cl sl (lw_Z below #[Value.ref b] s) (F0 m 681 ls []) := by
  obtain ⟨hx, hb, hr, hml, hown, hts0, hX, hbl, hlocks, hgv⟩ := id C0
  have hts := fun w h => hts0 w (wsL_law_in w h)
  have hbA : ¬ A b := fun h => absurd (hAf b h) (Nat.not_le.mpr hbl)
  refine lv_aload_n hx hb dL_law_681 rfl (lv_at hl 1 rfl) ?_
  refine lv_aload_n hx hb dL_law_682 rfl (lv_at hl 0 rfl) ?_
  refine lv_iload_n hx hb dL_law_683 rfl (lv_at hl 3 rfl) ?_
  refine lv_iconst (v := 1) hx hb dL_law_684 (by decide) ?_
  refine lv_iadd hx hb dL_law_685 ?_
  refine xb_top (y := nI (i + 1)) (nI_add i 1) ?_
  refine va_sld hx hb hX hbl hbA hS (vp_in_nI (by omega) (by omega)) dL_law_686 ?_
  refine xb_top (y := xs (i + 1)) (by rw [nI_clamp (by omega)]) ?_
  obtain ⟨⟨fs, hfs⟩, hph⟩ := okC_o hC
  obtain ⟨ms, hml7, hmet⟩ := p_X10_wins l D cB cI cJ cS cZ cO H.size o tm ph wc (xs (i + 1)) hC
  refine xAi hP hD hS hA (va_runV (As := [.int (xs (i + 1))]) (rest := []) ⟨hx, hb, hml, hown, hts⟩ hmet (cwV 1 hts0 gl_X10_wins rfl rfl rfl (by decide +kernel) ⟨Nat.le_of_ble_eq_true rfl, Nat.le_of_ble_eq_true rfl⟩) (xPreVA hN hK hP hD hfs rfl rfl) rfl rfl hl.1 rfl (lv_room (Nat.le_of_ble_eq_true rfl)) dL_law_687 ⟨show cl + 1 ≤ 600000 by omega, show sl + ms ≤ 7302250 by omega⟩) (fun r_1 wc H locs hw hP hD hS => ?_)
  obtain ⟨ph2, hC, hms⟩ := hw
  refine lv_pop hx hb dL_law_690 rfl ?_
  refine lv_aload_n hx hb dL_law_691 rfl (lv_at hl 2 rfl) ?_
  refine lv_aload_n hx hb dL_law_692 rfl (lv_at hl 0 rfl) ?_
  refine lv_iload_n hx hb dL_law_693 rfl (lv_at hl 3 rfl) ?_
  refine lv_iconst (v := 1) hx hb dL_law_694 (by decide) ?_
  refine lv_iadd hx hb dL_law_695 ?_
  refine xb_top (y := nI (i + 1)) (nI_add i 1) ?_
  refine va_sld hx hb hX hbl hbA hS (vp_in_nI (by omega) (by omega)) dL_law_696 ?_
  refine xb_top (y := xs (i + 1)) (by rw [nI_clamp (by omega)]) ?_
  obtain ⟨fs2, hfs2⟩ := okM_o hM
  have hP := P_swap hP
  have hD := D_swap hD
  have hmet2 := p_X11_wins l D cB cI cJ cS cZ cO H.size mo tm wm (xs (i + 1)) hM
  refine xAi hP hD hS hA (va_runV (As := [.int (xs (i + 1))]) (rest := []) ⟨hx, hb, hml, hown, hts⟩ hmet2 (cwV 1 hts0 gl_X11_wins rfl rfl rfl (by decide +kernel) ⟨Nat.le_of_ble_eq_true rfl, Nat.le_of_ble_eq_true rfl⟩) (xPreVA hN hK hP hD hfs2 rfl rfl) rfl rfl hl.1 rfl (lv_room (Nat.le_of_ble_eq_true rfl)) dL_law_697 ⟨show cl + 1 + 0 ≤ 600000 by omega, show sl + ms + 0 ≤ 7302250 by omega⟩) (fun r_2 wm H locs hM hP hD hS => ?_)
  have hP := P_swap hP
  have hD := D_swap hD
  refine lv_pop hx hb dL_law_700 rfl ?_
  refine lv_goto (tgt := 1056) hx hb dL_law_701 (by decide) ?_
  refine lv_iinc (v := nI (i + 6)) (lv' := [(3, .int (nI (i + 6))), (0, .ref b), (1, .ref o), (2, .ref mo)]) hx hb dL_law_1056 hl (k := 3) rfl (nI_add i 6) (by decide) rfl (fun ls hl => ?_)
  refine lv_goto (tgt := 18) hx hb dL_law_1059 (by decide) ?_
  exact kk _ _ _ _ _ ⟨i + 6, wc, wm, _, ph2, rfl, hC, hM, hP, hD, hS, lv_sub hl [1, 2, 3, 0] rfl, by omega, by omega, by omega⟩

set_option maxHeartbeats 4000000 in
set_option maxRecDepth 100000 in
theorem lc_deep {p : Program} {l : Launch} {e : Env} {s : State} {m : MethodId} {below : List Frame} {meth : Method} {c : Code} {b L : Nat} {xs : Nat → Int32} {D : va_G} {cB cI cJ cS cZ cO : ClassId} {A : Nat → Prop} {adK adV : Nat → Nat} {o mo i ph cl sl : Nat} {tm : Int32} {wc wm : va_W} {H : Heap} {locs : List Jvm.Loc} {ls : Array Slot} (C0 : lw_At p s m meth c b L xs) (hL : L ≤ 3072) (hi6 : i + 6 ≤ L) (hK : va_K D vwCl (tyL cB cI cJ cS cZ cO) s) (hN : nwA s) (hE : strE adK adV A s s.heap) (hR : strR adK s) (hA : ∀ q : Nat, s.heap.size ≤ q → A q) (hAf : ∀ q : Nat, A q → s.heap.size ≤ q) (hC : okC cB cI cJ cS cZ cO o tm ph wc) (hM : okM cB cI cJ cS cZ cO mo tm wm) (hP : va_P D vwCl (wc ++ wm) H) (hD : va_D A (wc ++ wm)) (hS : va_S A s.heap H locs) (hl : lv_has ls 4 [(0, .ref b), (1, .ref o), (2, .ref mo), (3, .int (nI i))]) (hcl : cl ≤ 1000 + i) (hsl : sl ≤ 1000000 + 2 * ph) (kk : ∀ (cl2 sl2 : Nat) (H2 : Heap) (locs2 : List Jvm.Loc) (ls2 : Array Slot), LI cB cI cJ cS cZ cO D s A b o mo L (L - (i + 6)) cl2 sl2 H2 locs2 ls2 → W p l e room_1 s m #[Value.ref b] below meth c H2 locs2 cl2 sl2 (lw_Z below #[Value.ref b] s) (F0 m 18 ls2 [])) : W p l e room_1 s m #[Value.ref b] below meth c H locs cl sl (lw_Z below #[Value.ref b] s) (F0 m 704 ls []) := by
  obtain ⟨hx, hb, hr, hml, hown, hts0, hX, hbl, hlocks, hgv⟩ := id C0
  have hts := fun w h => hts0 w (wsL_law_in w h)
  have hbA : ¬ A b := fun h => absurd (hAf b h) (Nat.not_le.mpr hbl)
  refine lv_aload_n hx hb dL_law_704 rfl (lv_at hl 1 rfl) ?_
  refine lv_aload_n hx hb dL_law_705 rfl (lv_at hl 0 rfl) ?_
  refine lv_iload_n hx hb dL_law_706 rfl (lv_at hl 3 rfl) ?_
  refine lv_iconst (v := 1) hx hb dL_law_707 (by decide) ?_
  refine lv_iadd hx hb dL_law_708 ?_
  refine xb_top (y := nI (i + 1)) (nI_add i 1) ?_
  refine va_sld hx hb hX hbl hbA hS (vp_in_nI (by omega) (by omega)) dL_law_709 ?_
  refine xb_top (y := xs (i + 1)) (by rw [nI_clamp (by omega)]) ?_
  obtain ⟨⟨fs, hfs⟩, hph⟩ := okC_o hC
  obtain ⟨ms, hml7, hmet⟩ := p_X10_deep l D cB cI cJ cS cZ cO H.size o tm ph wc (xs (i + 1)) hC
  refine xAi hP hD hS hA (va_runV (As := [.int (xs (i + 1))]) (rest := []) ⟨hx, hb, hml, hown, hts⟩ hmet (cwV 1 hts0 gl_X10_deep rfl rfl rfl (by decide +kernel) ⟨Nat.le_of_ble_eq_true rfl, Nat.le_of_ble_eq_true rfl⟩) (xPreVA hN hK hP hD hfs rfl rfl) rfl rfl hl.1 rfl (lv_room (Nat.le_of_ble_eq_true rfl)) dL_law_710 ⟨show cl + 2 ≤ 600000 by omega, show sl + ms ≤ 7302250 by omega⟩) (fun r_1 wc H locs hw hP hD hS => ?_)
  obtain ⟨ph2, hC, hms⟩ := hw
  refine lv_pop hx hb dL_law_713 rfl ?_
  refine lv_aload_n hx hb dL_law_714 rfl (lv_at hl 2 rfl) ?_
  refine lv_aload_n hx hb dL_law_715 rfl (lv_at hl 0 rfl) ?_
  refine lv_iload_n hx hb dL_law_716 rfl (lv_at hl 3 rfl) ?_
  refine lv_iconst (v := 1) hx hb dL_law_717 (by decide) ?_
  refine lv_iadd hx hb dL_law_718 ?_
  refine xb_top (y := nI (i + 1)) (nI_add i 1) ?_
  refine va_sld hx hb hX hbl hbA hS (vp_in_nI (by omega) (by omega)) dL_law_719 ?_
  refine xb_top (y := xs (i + 1)) (by rw [nI_clamp (by omega)]) ?_
  obtain ⟨fs2, hfs2⟩ := okM_o hM
  have hP := P_swap hP
  have hD := D_swap hD
  have hmet2 := p_X11_deep l D cB cI cJ cS cZ cO H.size mo tm wm (xs (i + 1)) hM
  refine xAi hP hD hS hA (va_runV (As := [.int (xs (i + 1))]) (rest := []) ⟨hx, hb, hml, hown, hts⟩ hmet2 (cwV 1 hts0 gl_X11_deep rfl rfl rfl (by decide +kernel) ⟨Nat.le_of_ble_eq_true rfl, Nat.le_of_ble_eq_true rfl⟩) (xPreVA hN hK hP hD hfs2 rfl rfl) rfl rfl hl.1 rfl (lv_room (Nat.le_of_ble_eq_true rfl)) dL_law_720 ⟨show cl + 2 + 0 ≤ 600000 by omega, show sl + ms + 0 ≤ 7302250 by omega⟩) (fun r_2 wm H locs hM hP hD hS => ?_)
  have hP := P_swap hP
  have hD := D_swap hD
  refine lv_pop hx hb dL_law_723 rfl ?_
  refine lv_goto (tgt := 1056) hx hb dL_law_724 (by decide) ?_
  refine lv_iinc (v := nI (i + 6)) (lv' := [(3, .int (nI (i + 6))), (0, .ref b), (1, .ref o), (2, .ref mo)]) hx hb dL_law_1056 hl (k := 3) rfl (nI_add i 6) (by decide) rfl (fun ls hl => ?_)
  refine lv_goto (tgt := 18) hx hb dL_law_1059 (by decide) ?_
  exact kk _ _ _ _ _ ⟨i + 6, wc, wm, _, ph2, rfl, hC, hM, hP, hD, hS, lv_sub hl [1, 2, 3, 0] rfl, by omega, by omega, by omega⟩

set_option maxHeartbeats 4000000 in
set_option maxRecDepth 100000 in
theorem lc_score {p : Program} {l : Launch} {e : Env} {s : State} {m : MethodId} {below : List Frame} {meth : Method} {c : Code} {b L : Nat} {xs : Nat → Int32} {D : va_G} {cB cI cJ cS cZ cO : ClassId} {A : Nat → Prop} {adK adV : Nat → Nat} {o mo i ph cl sl : Nat} {tm : Int32} {wc wm : va_W} {H : Heap} {locs : List Jvm.Loc} {ls : Array Slot} (C0 : lw_At p s m meth c b L xs) (hL : L ≤ 3072) (hi6 : i + 6 ≤ L) (hK : va_K D vwCl (tyL cB cI cJ cS cZ cO) s) (hN : nwA s) (hE : strE adK adV A s s.heap) (hR : strR adK s) (hA : ∀ q : Nat, s.heap.size ≤ q → A q) (hAf : ∀ q : Nat, A q → s.heap.size ≤ q) (hC : okC cB cI cJ cS cZ cO o tm ph wc) (hM : okM cB cI cJ cS cZ cO mo tm wm) (hP : va_P D vwCl (wc ++ wm) H) (hD : va_D A (wc ++ wm)) (hS : va_S A s.heap H locs) (hl : lv_has ls 4 [(0, .ref b), (1, .ref o), (2, .ref mo), (3, .int (nI i))]) (hcl : cl ≤ 1000 + i) (hsl : sl ≤ 1000000 + 2 * ph) (kk : ∀ (cl2 sl2 : Nat) (H2 : Heap) (locs2 : List Jvm.Loc) (ls2 : Array Slot), LI cB cI cJ cS cZ cO D s A b o mo L (L - (i + 6)) cl2 sl2 H2 locs2 ls2 → W p l e room_1 s m #[Value.ref b] below meth c H2 locs2 cl2 sl2 (lw_Z below #[Value.ref b] s) (F0 m 18 ls2 [])) : W p l e room_1 s m #[Value.ref b] below meth c H locs cl sl (lw_Z below #[Value.ref b] s) (F0 m 727 ls []) := by
  obtain ⟨hx, hb, hr, hml, hown, hts0, hX, hbl, hlocks, hgv⟩ := id C0
  have hts := fun w h => hts0 w (wsL_law_in w h)
  have hbA : ¬ A b := fun h => absurd (hAf b h) (Nat.not_le.mpr hbl)
  refine lv_aload_n hx hb dL_law_727 rfl (lv_at hl 1 rfl) ?_
  refine lv_aload_n hx hb dL_law_728 rfl (lv_at hl 0 rfl) ?_
  refine lv_iload_n hx hb dL_law_729 rfl (lv_at hl 3 rfl) ?_
  refine lv_iconst (v := 1) hx hb dL_law_730 (by decide) ?_
  refine lv_iadd hx hb dL_law_731 ?_
  refine xb_top (y := nI (i + 1)) (nI_add i 1) ?_
  refine va_sld hx hb hX hbl hbA hS (vp_in_nI (by omega) (by omega)) dL_law_732 ?_
  refine xb_top (y := xs (i + 1)) (by rw [nI_clamp (by omega)]) ?_
  obtain ⟨⟨fs, hfs⟩, hph⟩ := okC_o hC
  obtain ⟨ms, hml7, hmet⟩ := p_X10_score l D cB cI cJ cS cZ cO H.size o tm ph wc (xs (i + 1)) hC
  refine xAi hP hD hS hA (va_runV (As := [.int (xs (i + 1))]) (rest := []) ⟨hx, hb, hml, hown, hts⟩ hmet (cwV 1 hts0 gl_X10_score rfl rfl rfl (by decide +kernel) ⟨Nat.le_of_ble_eq_true rfl, Nat.le_of_ble_eq_true rfl⟩) (xPreVA hN hK hP hD hfs rfl rfl) rfl rfl hl.1 rfl (lv_room (Nat.le_of_ble_eq_true rfl)) dL_law_733 ⟨show cl + 1 ≤ 600000 by omega, show sl + ms ≤ 7302250 by omega⟩) (fun r_1 wc H locs hw hP hD hS => ?_)
  obtain ⟨ph2, hC, hms⟩ := hw
  refine lv_pop hx hb dL_law_736 rfl ?_
  refine lv_aload_n hx hb dL_law_737 rfl (lv_at hl 2 rfl) ?_
  refine lv_aload_n hx hb dL_law_738 rfl (lv_at hl 0 rfl) ?_
  refine lv_iload_n hx hb dL_law_739 rfl (lv_at hl 3 rfl) ?_
  refine lv_iconst (v := 1) hx hb dL_law_740 (by decide) ?_
  refine lv_iadd hx hb dL_law_741 ?_
  refine xb_top (y := nI (i + 1)) (nI_add i 1) ?_
  refine va_sld hx hb hX hbl hbA hS (vp_in_nI (by omega) (by omega)) dL_law_742 ?_
  refine xb_top (y := xs (i + 1)) (by rw [nI_clamp (by omega)]) ?_
  obtain ⟨fs2, hfs2⟩ := okM_o hM
  have hP := P_swap hP
  have hD := D_swap hD
  have hmet2 := p_X11_score l D cB cI cJ cS cZ cO H.size mo tm wm (xs (i + 1)) hM
  refine xAi hP hD hS hA (va_runV (As := [.int (xs (i + 1))]) (rest := []) ⟨hx, hb, hml, hown, hts⟩ hmet2 (cwV 1 hts0 gl_X11_score rfl rfl rfl (by decide +kernel) ⟨Nat.le_of_ble_eq_true rfl, Nat.le_of_ble_eq_true rfl⟩) (xPreVA hN hK hP hD hfs2 rfl rfl) rfl rfl hl.1 rfl (lv_room (Nat.le_of_ble_eq_true rfl)) dL_law_743 ⟨show cl + 1 + 0 ≤ 600000 by omega, show sl + ms + 0 ≤ 7302250 by omega⟩) (fun r_2 wm H locs hM hP hD hS => ?_)
  have hP := P_swap hP
  have hD := D_swap hD
  refine lv_pop hx hb dL_law_746 rfl ?_
  refine lv_goto (tgt := 1056) hx hb dL_law_747 (by decide) ?_
  refine lv_iinc (v := nI (i + 6)) (lv' := [(3, .int (nI (i + 6))), (0, .ref b), (1, .ref o), (2, .ref mo)]) hx hb dL_law_1056 hl (k := 3) rfl (nI_add i 6) (by decide) rfl (fun ls hl => ?_)
  refine lv_goto (tgt := 18) hx hb dL_law_1059 (by decide) ?_
  exact kk _ _ _ _ _ ⟨i + 6, wc, wm, _, ph2, rfl, hC, hM, hP, hD, hS, lv_sub hl [1, 2, 3, 0] rfl, by omega, by omega, by omega⟩
