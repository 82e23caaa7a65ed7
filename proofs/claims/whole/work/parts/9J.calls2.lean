/-! THE LAW: calls 2 -/
theorem dL_law_628 : decode cL_law 628 = .ok (.aload_n 1, 1) := by decide +kernel
theorem dL_law_629 : decode cL_law 629 = .ok (.invokevirtual 61, 3) := by decide +kernel
theorem dL_law_632 : decode cL_law 632 = .ok (.aload_n 2, 1) := by decide +kernel
theorem dL_law_633 : decode cL_law 633 = .ok (.invokevirtual 64, 3) := by decide +kernel
theorem dL_law_636 : decode cL_law 636 = .ok (.if_icmp .eq 1207, 3) := by decide +kernel
theorem lw_k10 {G : lu_G} {Q : State → Prop} {ρ σ : Nat → Nat} {m n : lu_M} {k z b L j : Nat} {xs : Nat → Int32} (X : lw_X G 2000 80000 b L xs) (hj : j + 5 ≤ L) (hr : Rel m n) (hk : k + 6 ≤ (lu_R G).cells ∧ z + 36 ≤ (lu_R G).slots) (kk : ∀ (m2 n2 : lu_M) (ρ2 : Nat → Nat), Rel m2 n2 → ρ2 0 = ρ 0 → lw_I G Q 1843 (lw_lv b (ρ 0) (σ 0) (nI j)) [] ρ2 m2 σ n2 (k + 6) (z + 36)) : lw_I G Q 628 (lw_lv b (ρ 0) (σ 0) (nI j)) [] ρ m σ n k z := by
  refine lw_a1 X dL_law_628 rfl ?_
  obtain ⟨a, m2, n2, q1, q2, hr2⟩ := y_rules m n hr
  refine lw_callC (As := []) (rest := []) X.1 (c11_rules (lu_l G) ) q1 ml11_rules mv11_rules rfl rfl (by decide) (Nat.le_of_ble_eq_true rfl) (Nat.le_of_ble_eq_true rfl) ⟨by omega, by omega⟩ dL_law_629 rfl rfl ?_
  refine lw_a2 X dL_law_632 rfl ?_
  refine lw_callM (As := []) (rest := [.int a]) X.1 (c12_rules (lu_l G) ) q2 ml12_rules mv12_rules rfl rfl (Nat.le_of_ble_eq_true rfl) (Nat.le_of_ble_eq_true rfl) (Nat.le_of_ble_eq_true rfl) ⟨by omega, by omega⟩ dL_law_633 rfl rfl ?_
  refine lw_same X dL_law_636 rfl ?_
  exact lw_I.wide (kk m2 n2 ρ hr2 rfl)
theorem dL_law_641 : decode cL_law 641 = .ok (.aload_n 1, 1) := by decide +kernel
theorem dL_law_642 : decode cL_law 642 = .ok (.invokevirtual 65, 3) := by decide +kernel
theorem dL_law_645 : decode cL_law 645 = .ok (.aload_n 2, 1) := by decide +kernel
theorem dL_law_646 : decode cL_law 646 = .ok (.invokevirtual 68, 3) := by decide +kernel
theorem dL_law_649 : decode cL_law 649 = .ok (.if_icmp .eq 1194, 3) := by decide +kernel
theorem lw_k11 {G : lu_G} {Q : State → Prop} {ρ σ : Nat → Nat} {m n : lu_M} {k z b L j : Nat} {xs : Nat → Int32} (X : lw_X G 2000 80000 b L xs) (hj : j + 5 ≤ L) (hr : Rel m n) (hk : k + 6 ≤ (lu_R G).cells ∧ z + 36 ≤ (lu_R G).slots) (kk : ∀ (m2 n2 : lu_M) (ρ2 : Nat → Nat), Rel m2 n2 → ρ2 0 = ρ 0 → lw_I G Q 1843 (lw_lv b (ρ 0) (σ 0) (nI j)) [] ρ2 m2 σ n2 (k + 6) (z + 36)) : lw_I G Q 641 (lw_lv b (ρ 0) (σ 0) (nI j)) [] ρ m σ n k z := by
  refine lw_a1 X dL_law_641 rfl ?_
  obtain ⟨a, m2, n2, q1, q2, hr2⟩ := y_year m n hr
  refine lw_callC (As := []) (rest := []) X.1 (c11_year (lu_l G) ) q1 ml11_year mv11_year rfl rfl (by decide) (Nat.le_of_ble_eq_true rfl) (Nat.le_of_ble_eq_true rfl) ⟨by omega, by omega⟩ dL_law_642 rfl rfl ?_
  refine lw_a2 X dL_law_645 rfl ?_
  refine lw_callM (As := []) (rest := [.int a]) X.1 (c12_year (lu_l G) ) q2 ml12_year mv12_year rfl rfl (Nat.le_of_ble_eq_true rfl) (Nat.le_of_ble_eq_true rfl) (Nat.le_of_ble_eq_true rfl) ⟨by omega, by omega⟩ dL_law_646 rfl rfl ?_
  refine lw_same X dL_law_649 rfl ?_
  exact lw_I.wide (kk m2 n2 ρ hr2 rfl)
theorem dL_law_654 : decode cL_law 654 = .ok (.aload_n 1, 1) := by decide +kernel
theorem dL_law_655 : decode cL_law 655 = .ok (.aload_n 0, 1) := by decide +kernel
theorem dL_law_656 : decode cL_law 656 = .ok (.iload_n 3, 1) := by decide +kernel
theorem dL_law_657 : decode cL_law 657 = .ok (.iconst 1, 1) := by decide +kernel
theorem dL_law_658 : decode cL_law 658 = .ok (.iadd, 1) := by decide +kernel
theorem dL_law_659 : decode cL_law 659 = .ok (.iaload, 1) := by decide +kernel
theorem dL_law_660 : decode cL_law 660 = .ok (.invokevirtual 69, 3) := by decide +kernel
theorem dL_law_663 : decode cL_law 663 = .ok (.aload_n 2, 1) := by decide +kernel
theorem dL_law_664 : decode cL_law 664 = .ok (.aload_n 0, 1) := by decide +kernel
theorem dL_law_665 : decode cL_law 665 = .ok (.iload_n 3, 1) := by decide +kernel
theorem dL_law_666 : decode cL_law 666 = .ok (.iconst 1, 1) := by decide +kernel
theorem dL_law_667 : decode cL_law 667 = .ok (.iadd, 1) := by decide +kernel
theorem dL_law_668 : decode cL_law 668 = .ok (.iaload, 1) := by decide +kernel
theorem dL_law_669 : decode cL_law 669 = .ok (.invokevirtual 72, 3) := by decide +kernel
theorem dL_law_672 : decode cL_law 672 = .ok (.if_icmp .eq 1171, 3) := by decide +kernel
theorem lw_k12 {G : lu_G} {Q : State → Prop} {ρ σ : Nat → Nat} {m n : lu_M} {k z b L j : Nat} {xs : Nat → Int32} (X : lw_X G 2000 80000 b L xs) (hj : j + 5 ≤ L) (hr : Rel m n) (hk : k + 6 ≤ (lu_R G).cells ∧ z + 36 ≤ (lu_R G).slots) (kk : ∀ (m2 n2 : lu_M) (ρ2 : Nat → Nat), Rel m2 n2 → ρ2 0 = ρ 0 → lw_I G Q 1843 (lw_lv b (ρ 0) (σ 0) (nI j)) [] ρ2 m2 σ n2 (k + 6) (z + 36)) : lw_I G Q 654 (lw_lv b (ρ 0) (σ 0) (nI j)) [] ρ m σ n k z := by
  refine lw_a1 X dL_law_654 rfl ?_
  refine lw_ld X hj 1 (by decide) rfl dL_law_655 dL_law_656 dL_law_657 dL_law_658 dL_law_659 rfl ?_
  obtain ⟨a, m2, n2, q1, q2, hr2⟩ := y_standing (xs (j + 1)) m n hr
  refine lw_callC (As := [.int (xs (j + 1))]) (rest := []) X.1 (c11_standing (lu_l G) (xs (j + 1))) q1 ml11_standing mv11_standing rfl rfl (by decide) (Nat.le_of_ble_eq_true rfl) (Nat.le_of_ble_eq_true rfl) ⟨by omega, by omega⟩ dL_law_660 rfl rfl ?_
  refine lw_a2 X dL_law_663 rfl ?_
  refine lw_ld X hj 1 (by decide) rfl dL_law_664 dL_law_665 dL_law_666 dL_law_667 dL_law_668 rfl ?_
  refine lw_callM (As := [.int (xs (j + 1))]) (rest := [.int a]) X.1 (c12_standing (lu_l G) (xs (j + 1))) q2 ml12_standing mv12_standing rfl rfl (Nat.le_of_ble_eq_true rfl) (Nat.le_of_ble_eq_true rfl) (Nat.le_of_ble_eq_true rfl) ⟨by omega, by omega⟩ dL_law_669 rfl rfl ?_
  refine lw_same X dL_law_672 rfl ?_
  exact lw_I.wide (kk m2 n2 ρ hr2 rfl)
theorem dL_law_677 : decode cL_law 677 = .ok (.aload_n 1, 1) := by decide +kernel
theorem dL_law_678 : decode cL_law 678 = .ok (.aload_n 0, 1) := by decide +kernel
theorem dL_law_679 : decode cL_law 679 = .ok (.iload_n 3, 1) := by decide +kernel
theorem dL_law_680 : decode cL_law 680 = .ok (.iconst 1, 1) := by decide +kernel
theorem dL_law_681 : decode cL_law 681 = .ok (.iadd, 1) := by decide +kernel
theorem dL_law_682 : decode cL_law 682 = .ok (.iaload, 1) := by decide +kernel
theorem dL_law_683 : decode cL_law 683 = .ok (.invokevirtual 73, 3) := by decide +kernel
theorem dL_law_686 : decode cL_law 686 = .ok (.aload_n 2, 1) := by decide +kernel
theorem dL_law_687 : decode cL_law 687 = .ok (.aload_n 0, 1) := by decide +kernel
theorem dL_law_688 : decode cL_law 688 = .ok (.iload_n 3, 1) := by decide +kernel
theorem dL_law_689 : decode cL_law 689 = .ok (.iconst 1, 1) := by decide +kernel
theorem dL_law_690 : decode cL_law 690 = .ok (.iadd, 1) := by decide +kernel
theorem dL_law_691 : decode cL_law 691 = .ok (.iaload, 1) := by decide +kernel
theorem dL_law_692 : decode cL_law 692 = .ok (.invokevirtual 76, 3) := by decide +kernel
theorem dL_law_695 : decode cL_law 695 = .ok (.if_icmp .eq 1148, 3) := by decide +kernel
theorem lw_k13 {G : lu_G} {Q : State → Prop} {ρ σ : Nat → Nat} {m n : lu_M} {k z b L j : Nat} {xs : Nat → Int32} (X : lw_X G 2000 80000 b L xs) (hj : j + 5 ≤ L) (hr : Rel m n) (hk : k + 6 ≤ (lu_R G).cells ∧ z + 36 ≤ (lu_R G).slots) (kk : ∀ (m2 n2 : lu_M) (ρ2 : Nat → Nat), Rel m2 n2 → ρ2 0 = ρ 0 → lw_I G Q 1843 (lw_lv b (ρ 0) (σ 0) (nI j)) [] ρ2 m2 σ n2 (k + 6) (z + 36)) : lw_I G Q 677 (lw_lv b (ρ 0) (σ 0) (nI j)) [] ρ m σ n k z := by
  refine lw_a1 X dL_law_677 rfl ?_
  refine lw_ld X hj 1 (by decide) rfl dL_law_678 dL_law_679 dL_law_680 dL_law_681 dL_law_682 rfl ?_
  obtain ⟨a, m2, n2, q1, q2, hr2⟩ := y_leaves (xs (j + 1)) m n hr
  refine lw_callC (As := [.int (xs (j + 1))]) (rest := []) X.1 (c11_leaves (lu_l G) (xs (j + 1))) q1 ml11_leaves mv11_leaves rfl rfl (by decide) (Nat.le_of_ble_eq_true rfl) (Nat.le_of_ble_eq_true rfl) ⟨by omega, by omega⟩ dL_law_683 rfl rfl ?_
  refine lw_a2 X dL_law_686 rfl ?_
  refine lw_ld X hj 1 (by decide) rfl dL_law_687 dL_law_688 dL_law_689 dL_law_690 dL_law_691 rfl ?_
  refine lw_callM (As := [.int (xs (j + 1))]) (rest := [.int a]) X.1 (c12_leaves (lu_l G) (xs (j + 1))) q2 ml12_leaves mv12_leaves rfl rfl (Nat.le_of_ble_eq_true rfl) (Nat.le_of_ble_eq_true rfl) (Nat.le_of_ble_eq_true rfl) ⟨by omega, by omega⟩ dL_law_692 rfl rfl ?_
  refine lw_same X dL_law_695 rfl ?_
  exact lw_I.wide (kk m2 n2 ρ hr2 rfl)
theorem dL_law_700 : decode cL_law 700 = .ok (.aload_n 1, 1) := by decide +kernel
theorem dL_law_701 : decode cL_law 701 = .ok (.aload_n 0, 1) := by decide +kernel
theorem dL_law_702 : decode cL_law 702 = .ok (.iload_n 3, 1) := by decide +kernel
theorem dL_law_703 : decode cL_law 703 = .ok (.iconst 1, 1) := by decide +kernel
theorem dL_law_704 : decode cL_law 704 = .ok (.iadd, 1) := by decide +kernel
theorem dL_law_705 : decode cL_law 705 = .ok (.iaload, 1) := by decide +kernel
theorem dL_law_706 : decode cL_law 706 = .ok (.invokevirtual 77, 3) := by decide +kernel
theorem dL_law_709 : decode cL_law 709 = .ok (.aload_n 2, 1) := by decide +kernel
theorem dL_law_710 : decode cL_law 710 = .ok (.aload_n 0, 1) := by decide +kernel
theorem dL_law_711 : decode cL_law 711 = .ok (.iload_n 3, 1) := by decide +kernel
theorem dL_law_712 : decode cL_law 712 = .ok (.iconst 1, 1) := by decide +kernel
theorem dL_law_713 : decode cL_law 713 = .ok (.iadd, 1) := by decide +kernel
theorem dL_law_714 : decode cL_law 714 = .ok (.iaload, 1) := by decide +kernel
theorem dL_law_715 : decode cL_law 715 = .ok (.invokevirtual 80, 3) := by decide +kernel
theorem dL_law_718 : decode cL_law 718 = .ok (.if_icmp .eq 1125, 3) := by decide +kernel
theorem lw_k14 {G : lu_G} {Q : State → Prop} {ρ σ : Nat → Nat} {m n : lu_M} {k z b L j : Nat} {xs : Nat → Int32} (X : lw_X G 2000 80000 b L xs) (hj : j + 5 ≤ L) (hr : Rel m n) (hk : k + 6 ≤ (lu_R G).cells ∧ z + 36 ≤ (lu_R G).slots) (kk : ∀ (m2 n2 : lu_M) (ρ2 : Nat → Nat), Rel m2 n2 → ρ2 0 = ρ 0 → lw_I G Q 1843 (lw_lv b (ρ 0) (σ 0) (nI j)) [] ρ2 m2 σ n2 (k + 6) (z + 36)) : lw_I G Q 700 (lw_lv b (ρ 0) (σ 0) (nI j)) [] ρ m σ n k z := by
  refine lw_a1 X dL_law_700 rfl ?_
  refine lw_ld X hj 1 (by decide) rfl dL_law_701 dL_law_702 dL_law_703 dL_law_704 dL_law_705 rfl ?_
  obtain ⟨a, m2, n2, q1, q2, hr2⟩ := y_on (xs (j + 1)) m n hr
  refine lw_callC (As := [.int (xs (j + 1))]) (rest := []) X.1 (c11_on (lu_l G) (xs (j + 1))) q1 ml11_on mv11_on rfl rfl (by decide) (Nat.le_of_ble_eq_true rfl) (Nat.le_of_ble_eq_true rfl) ⟨by omega, by omega⟩ dL_law_706 rfl rfl ?_
  refine lw_a2 X dL_law_709 rfl ?_
  refine lw_ld X hj 1 (by decide) rfl dL_law_710 dL_law_711 dL_law_712 dL_law_713 dL_law_714 rfl ?_
  refine lw_callM (As := [.int (xs (j + 1))]) (rest := [.int a]) X.1 (c12_on (lu_l G) (xs (j + 1))) q2 ml12_on mv12_on rfl rfl (Nat.le_of_ble_eq_true rfl) (Nat.le_of_ble_eq_true rfl) (Nat.le_of_ble_eq_true rfl) ⟨by omega, by omega⟩ dL_law_715 rfl rfl ?_
  refine lw_same X dL_law_718 rfl ?_
  exact lw_I.wide (kk m2 n2 ρ hr2 rfl)
theorem dL_law_723 : decode cL_law 723 = .ok (.aload_n 1, 1) := by decide +kernel
theorem dL_law_724 : decode cL_law 724 = .ok (.aload_n 0, 1) := by decide +kernel
theorem dL_law_725 : decode cL_law 725 = .ok (.iload_n 3, 1) := by decide +kernel
theorem dL_law_726 : decode cL_law 726 = .ok (.iconst 1, 1) := by decide +kernel
theorem dL_law_727 : decode cL_law 727 = .ok (.iadd, 1) := by decide +kernel
theorem dL_law_728 : decode cL_law 728 = .ok (.iaload, 1) := by decide +kernel
theorem dL_law_729 : decode cL_law 729 = .ok (.invokevirtual 81, 3) := by decide +kernel
theorem dL_law_732 : decode cL_law 732 = .ok (.aload_n 2, 1) := by decide +kernel
theorem dL_law_733 : decode cL_law 733 = .ok (.aload_n 0, 1) := by decide +kernel
theorem dL_law_734 : decode cL_law 734 = .ok (.iload_n 3, 1) := by decide +kernel
theorem dL_law_735 : decode cL_law 735 = .ok (.iconst 1, 1) := by decide +kernel
theorem dL_law_736 : decode cL_law 736 = .ok (.iadd, 1) := by decide +kernel
theorem dL_law_737 : decode cL_law 737 = .ok (.iaload, 1) := by decide +kernel
theorem dL_law_738 : decode cL_law 738 = .ok (.invokevirtual 84, 3) := by decide +kernel
theorem dL_law_741 : decode cL_law 741 = .ok (.if_icmp .eq 1102, 3) := by decide +kernel
theorem lw_k15 {G : lu_G} {Q : State → Prop} {ρ σ : Nat → Nat} {m n : lu_M} {k z b L j : Nat} {xs : Nat → Int32} (X : lw_X G 2000 80000 b L xs) (hj : j + 5 ≤ L) (hr : Rel m n) (hk : k + 6 ≤ (lu_R G).cells ∧ z + 36 ≤ (lu_R G).slots) (kk : ∀ (m2 n2 : lu_M) (ρ2 : Nat → Nat), Rel m2 n2 → ρ2 0 = ρ 0 → lw_I G Q 1843 (lw_lv b (ρ 0) (σ 0) (nI j)) [] ρ2 m2 σ n2 (k + 6) (z + 36)) : lw_I G Q 723 (lw_lv b (ρ 0) (σ 0) (nI j)) [] ρ m σ n k z := by
  refine lw_a1 X dL_law_723 rfl ?_
  refine lw_ld X hj 1 (by decide) rfl dL_law_724 dL_law_725 dL_law_726 dL_law_727 dL_law_728 rfl ?_
  obtain ⟨a, m2, n2, q1, q2, hr2⟩ := y_until (xs (j + 1)) m n hr
  refine lw_callC (As := [.int (xs (j + 1))]) (rest := []) X.1 (c11_until (lu_l G) (xs (j + 1))) q1 ml11_until mv11_until rfl rfl (by decide) (Nat.le_of_ble_eq_true rfl) (Nat.le_of_ble_eq_true rfl) ⟨by omega, by omega⟩ dL_law_729 rfl rfl ?_
  refine lw_a2 X dL_law_732 rfl ?_
  refine lw_ld X hj 1 (by decide) rfl dL_law_733 dL_law_734 dL_law_735 dL_law_736 dL_law_737 rfl ?_
  refine lw_callM (As := [.int (xs (j + 1))]) (rest := [.int a]) X.1 (c12_until (lu_l G) (xs (j + 1))) q2 ml12_until mv12_until rfl rfl (Nat.le_of_ble_eq_true rfl) (Nat.le_of_ble_eq_true rfl) (Nat.le_of_ble_eq_true rfl) ⟨by omega, by omega⟩ dL_law_738 rfl rfl ?_
  refine lw_same X dL_law_741 rfl ?_
  exact lw_I.wide (kk m2 n2 ρ hr2 rfl)
theorem dL_law_746 : decode cL_law 746 = .ok (.aload_n 1, 1) := by decide +kernel
theorem dL_law_747 : decode cL_law 747 = .ok (.invokevirtual 85, 3) := by decide +kernel
theorem dL_law_750 : decode cL_law 750 = .ok (.aload_n 2, 1) := by decide +kernel
theorem dL_law_751 : decode cL_law 751 = .ok (.invokevirtual 88, 3) := by decide +kernel
theorem dL_law_754 : decode cL_law 754 = .ok (.if_icmp .eq 1089, 3) := by decide +kernel
theorem lw_k16 {G : lu_G} {Q : State → Prop} {ρ σ : Nat → Nat} {m n : lu_M} {k z b L j : Nat} {xs : Nat → Int32} (X : lw_X G 2000 80000 b L xs) (hj : j + 5 ≤ L) (hr : Rel m n) (hk : k + 6 ≤ (lu_R G).cells ∧ z + 36 ≤ (lu_R G).slots) (kk : ∀ (m2 n2 : lu_M) (ρ2 : Nat → Nat), Rel m2 n2 → ρ2 0 = ρ 0 → lw_I G Q 1843 (lw_lv b (ρ 0) (σ 0) (nI j)) [] ρ2 m2 σ n2 (k + 6) (z + 36)) : lw_I G Q 746 (lw_lv b (ρ 0) (σ 0) (nI j)) [] ρ m σ n k z := by
  refine lw_a1 X dL_law_746 rfl ?_
  obtain ⟨a, m2, n2, q1, q2, hr2⟩ := y_overdue m n hr
  refine lw_callC (As := []) (rest := []) X.1 (c11_overdue (lu_l G) ) q1 ml11_overdue mv11_overdue rfl rfl (by decide) (Nat.le_of_ble_eq_true rfl) (Nat.le_of_ble_eq_true rfl) ⟨by omega, by omega⟩ dL_law_747 rfl rfl ?_
  refine lw_a2 X dL_law_750 rfl ?_
  refine lw_callM (As := []) (rest := [.int a]) X.1 (c12_overdue (lu_l G) ) q2 ml12_overdue mv12_overdue rfl rfl (Nat.le_of_ble_eq_true rfl) (Nat.le_of_ble_eq_true rfl) (Nat.le_of_ble_eq_true rfl) ⟨by omega, by omega⟩ dL_law_751 rfl rfl ?_
  refine lw_same X dL_law_754 rfl ?_
  exact lw_I.wide (kk m2 n2 ρ hr2 rfl)
theorem dL_law_759 : decode cL_law 759 = .ok (.aload_n 1, 1) := by decide +kernel
theorem dL_law_760 : decode cL_law 760 = .ok (.aload_n 0, 1) := by decide +kernel
theorem dL_law_761 : decode cL_law 761 = .ok (.iload_n 3, 1) := by decide +kernel
theorem dL_law_762 : decode cL_law 762 = .ok (.iconst 1, 1) := by decide +kernel
theorem dL_law_763 : decode cL_law 763 = .ok (.iadd, 1) := by decide +kernel
theorem dL_law_764 : decode cL_law 764 = .ok (.iaload, 1) := by decide +kernel
theorem dL_law_765 : decode cL_law 765 = .ok (.invokevirtual 89, 3) := by decide +kernel
theorem dL_law_768 : decode cL_law 768 = .ok (.aload_n 2, 1) := by decide +kernel
theorem dL_law_769 : decode cL_law 769 = .ok (.aload_n 0, 1) := by decide +kernel
theorem dL_law_770 : decode cL_law 770 = .ok (.iload_n 3, 1) := by decide +kernel
theorem dL_law_771 : decode cL_law 771 = .ok (.iconst 1, 1) := by decide +kernel
theorem dL_law_772 : decode cL_law 772 = .ok (.iadd, 1) := by decide +kernel
theorem dL_law_773 : decode cL_law 773 = .ok (.iaload, 1) := by decide +kernel
theorem dL_law_774 : decode cL_law 774 = .ok (.invokevirtual 92, 3) := by decide +kernel
theorem dL_law_777 : decode cL_law 777 = .ok (.if_icmp .eq 1066, 3) := by decide +kernel
theorem lw_k17 {G : lu_G} {Q : State → Prop} {ρ σ : Nat → Nat} {m n : lu_M} {k z b L j : Nat} {xs : Nat → Int32} (X : lw_X G 2000 80000 b L xs) (hj : j + 5 ≤ L) (hr : Rel m n) (hk : k + 6 ≤ (lu_R G).cells ∧ z + 36 ≤ (lu_R G).slots) (kk : ∀ (m2 n2 : lu_M) (ρ2 : Nat → Nat), Rel m2 n2 → ρ2 0 = ρ 0 → lw_I G Q 1843 (lw_lv b (ρ 0) (σ 0) (nI j)) [] ρ2 m2 σ n2 (k + 6) (z + 36)) : lw_I G Q 759 (lw_lv b (ρ 0) (σ 0) (nI j)) [] ρ m σ n k z := by
  refine lw_a1 X dL_law_759 rfl ?_
  refine lw_ld X hj 1 (by decide) rfl dL_law_760 dL_law_761 dL_law_762 dL_law_763 dL_law_764 rfl ?_
  obtain ⟨a, m2, n2, q1, q2, hr2⟩ := y_falls (xs (j + 1)) m n hr
  refine lw_callC (As := [.int (xs (j + 1))]) (rest := []) X.1 (c11_falls (lu_l G) (xs (j + 1))) q1 ml11_falls mv11_falls rfl rfl (by decide) (Nat.le_of_ble_eq_true rfl) (Nat.le_of_ble_eq_true rfl) ⟨by omega, by omega⟩ dL_law_765 rfl rfl ?_
  refine lw_a2 X dL_law_768 rfl ?_
  refine lw_ld X hj 1 (by decide) rfl dL_law_769 dL_law_770 dL_law_771 dL_law_772 dL_law_773 rfl ?_
  refine lw_callM (As := [.int (xs (j + 1))]) (rest := [.int a]) X.1 (c12_falls (lu_l G) (xs (j + 1))) q2 ml12_falls mv12_falls rfl rfl (Nat.le_of_ble_eq_true rfl) (Nat.le_of_ble_eq_true rfl) (Nat.le_of_ble_eq_true rfl) ⟨by omega, by omega⟩ dL_law_774 rfl rfl ?_
  refine lw_same X dL_law_777 rfl ?_
  exact lw_I.wide (kk m2 n2 ρ hr2 rfl)
theorem dL_law_782 : decode cL_law 782 = .ok (.aload_n 1, 1) := by decide +kernel
theorem dL_law_783 : decode cL_law 783 = .ok (.aload_n 0, 1) := by decide +kernel
theorem dL_law_784 : decode cL_law 784 = .ok (.iload_n 3, 1) := by decide +kernel
theorem dL_law_785 : decode cL_law 785 = .ok (.iconst 1, 1) := by decide +kernel
theorem dL_law_786 : decode cL_law 786 = .ok (.iadd, 1) := by decide +kernel
theorem dL_law_787 : decode cL_law 787 = .ok (.iaload, 1) := by decide +kernel
theorem dL_law_788 : decode cL_law 788 = .ok (.invokevirtual 93, 3) := by decide +kernel
theorem dL_law_791 : decode cL_law 791 = .ok (.aload_n 2, 1) := by decide +kernel
theorem dL_law_792 : decode cL_law 792 = .ok (.aload_n 0, 1) := by decide +kernel
theorem dL_law_793 : decode cL_law 793 = .ok (.iload_n 3, 1) := by decide +kernel
theorem dL_law_794 : decode cL_law 794 = .ok (.iconst 1, 1) := by decide +kernel
theorem dL_law_795 : decode cL_law 795 = .ok (.iadd, 1) := by decide +kernel
theorem dL_law_796 : decode cL_law 796 = .ok (.iaload, 1) := by decide +kernel
theorem dL_law_797 : decode cL_law 797 = .ok (.invokevirtual 96, 3) := by decide +kernel
theorem dL_law_800 : decode cL_law 800 = .ok (.if_icmp .eq 1043, 3) := by decide +kernel
theorem lw_k18 {G : lu_G} {Q : State → Prop} {ρ σ : Nat → Nat} {m n : lu_M} {k z b L j : Nat} {xs : Nat → Int32} (X : lw_X G 2000 80000 b L xs) (hj : j + 5 ≤ L) (hr : Rel m n) (hk : k + 6 ≤ (lu_R G).cells ∧ z + 36 ≤ (lu_R G).slots) (kk : ∀ (m2 n2 : lu_M) (ρ2 : Nat → Nat), Rel m2 n2 → ρ2 0 = ρ 0 → lw_I G Q 1843 (lw_lv b (ρ 0) (σ 0) (nI j)) [] ρ2 m2 σ n2 (k + 6) (z + 36)) : lw_I G Q 782 (lw_lv b (ρ 0) (σ 0) (nI j)) [] ρ m σ n k z := by
  refine lw_a1 X dL_law_782 rfl ?_
  refine lw_ld X hj 1 (by decide) rfl dL_law_783 dL_law_784 dL_law_785 dL_law_786 dL_law_787 rfl ?_
  obtain ⟨a, m2, n2, q1, q2, hr2⟩ := y_graceFor (xs (j + 1)) m n hr
  refine lw_callC (As := [.int (xs (j + 1))]) (rest := []) X.1 (c11_graceFor (lu_l G) (xs (j + 1))) q1 ml11_graceFor mv11_graceFor rfl rfl (by decide) (Nat.le_of_ble_eq_true rfl) (Nat.le_of_ble_eq_true rfl) ⟨by omega, by omega⟩ dL_law_788 rfl rfl ?_
  refine lw_a2 X dL_law_791 rfl ?_
  refine lw_ld X hj 1 (by decide) rfl dL_law_792 dL_law_793 dL_law_794 dL_law_795 dL_law_796 rfl ?_
  refine lw_callM (As := [.int (xs (j + 1))]) (rest := [.int a]) X.1 (c12_graceFor (lu_l G) (xs (j + 1))) q2 ml12_graceFor mv12_graceFor rfl rfl (Nat.le_of_ble_eq_true rfl) (Nat.le_of_ble_eq_true rfl) (Nat.le_of_ble_eq_true rfl) ⟨by omega, by omega⟩ dL_law_797 rfl rfl ?_
  refine lw_same X dL_law_800 rfl ?_
  exact lw_I.wide (kk m2 n2 ρ hr2 rfl)
theorem dL_law_805 : decode cL_law 805 = .ok (.aload_n 1, 1) := by decide +kernel
theorem dL_law_806 : decode cL_law 806 = .ok (.aload_n 0, 1) := by decide +kernel
theorem dL_law_807 : decode cL_law 807 = .ok (.iload_n 3, 1) := by decide +kernel
theorem dL_law_808 : decode cL_law 808 = .ok (.iconst 1, 1) := by decide +kernel
theorem dL_law_809 : decode cL_law 809 = .ok (.iadd, 1) := by decide +kernel
theorem dL_law_810 : decode cL_law 810 = .ok (.iaload, 1) := by decide +kernel
theorem dL_law_811 : decode cL_law 811 = .ok (.invokevirtual 97, 3) := by decide +kernel
theorem dL_law_814 : decode cL_law 814 = .ok (.aload_n 2, 1) := by decide +kernel
theorem dL_law_815 : decode cL_law 815 = .ok (.aload_n 0, 1) := by decide +kernel
theorem dL_law_816 : decode cL_law 816 = .ok (.iload_n 3, 1) := by decide +kernel
theorem dL_law_817 : decode cL_law 817 = .ok (.iconst 1, 1) := by decide +kernel
theorem dL_law_818 : decode cL_law 818 = .ok (.iadd, 1) := by decide +kernel
theorem dL_law_819 : decode cL_law 819 = .ok (.iaload, 1) := by decide +kernel
theorem dL_law_820 : decode cL_law 820 = .ok (.invokevirtual 100, 3) := by decide +kernel
theorem dL_law_823 : decode cL_law 823 = .ok (.if_icmp .eq 1020, 3) := by decide +kernel
theorem lw_k19 {G : lu_G} {Q : State → Prop} {ρ σ : Nat → Nat} {m n : lu_M} {k z b L j : Nat} {xs : Nat → Int32} (X : lw_X G 2000 80000 b L xs) (hj : j + 5 ≤ L) (hr : Rel m n) (hk : k + 6 ≤ (lu_R G).cells ∧ z + 36 ≤ (lu_R G).slots) (kk : ∀ (m2 n2 : lu_M) (ρ2 : Nat → Nat), Rel m2 n2 → ρ2 0 = ρ 0 → lw_I G Q 1843 (lw_lv b (ρ 0) (σ 0) (nI j)) [] ρ2 m2 σ n2 (k + 6) (z + 36)) : lw_I G Q 805 (lw_lv b (ρ 0) (σ 0) (nI j)) [] ρ m σ n k z := by
  refine lw_a1 X dL_law_805 rfl ?_
  refine lw_ld X hj 1 (by decide) rfl dL_law_806 dL_law_807 dL_law_808 dL_law_809 dL_law_810 rfl ?_
  obtain ⟨a, m2, n2, q1, q2, hr2⟩ := y_strengthFor (xs (j + 1)) m n hr
  refine lw_callC (As := [.int (xs (j + 1))]) (rest := []) X.1 (c11_strengthFor (lu_l G) (xs (j + 1))) q1 ml11_strengthFor mv11_strengthFor rfl rfl (by decide) (Nat.le_of_ble_eq_true rfl) (Nat.le_of_ble_eq_true rfl) ⟨by omega, by omega⟩ dL_law_811 rfl rfl ?_
  refine lw_a2 X dL_law_814 rfl ?_
  refine lw_ld X hj 1 (by decide) rfl dL_law_815 dL_law_816 dL_law_817 dL_law_818 dL_law_819 rfl ?_
  refine lw_callM (As := [.int (xs (j + 1))]) (rest := [.int a]) X.1 (c12_strengthFor (lu_l G) (xs (j + 1))) q2 ml12_strengthFor mv12_strengthFor rfl rfl (Nat.le_of_ble_eq_true rfl) (Nat.le_of_ble_eq_true rfl) (Nat.le_of_ble_eq_true rfl) ⟨by omega, by omega⟩ dL_law_820 rfl rfl ?_
  refine lw_same X dL_law_823 rfl ?_
  exact lw_I.wide (kk m2 n2 ρ hr2 rfl)
theorem dL_law_828 : decode cL_law 828 = .ok (.aload_n 1, 1) := by decide +kernel
theorem dL_law_829 : decode cL_law 829 = .ok (.aload_n 0, 1) := by decide +kernel
theorem dL_law_830 : decode cL_law 830 = .ok (.iload_n 3, 1) := by decide +kernel
theorem dL_law_831 : decode cL_law 831 = .ok (.iconst 1, 1) := by decide +kernel
theorem dL_law_832 : decode cL_law 832 = .ok (.iadd, 1) := by decide +kernel
theorem dL_law_833 : decode cL_law 833 = .ok (.iaload, 1) := by decide +kernel
theorem dL_law_834 : decode cL_law 834 = .ok (.aload_n 0, 1) := by decide +kernel
theorem dL_law_835 : decode cL_law 835 = .ok (.iload_n 3, 1) := by decide +kernel
theorem dL_law_836 : decode cL_law 836 = .ok (.iconst 2, 1) := by decide +kernel
theorem dL_law_837 : decode cL_law 837 = .ok (.iadd, 1) := by decide +kernel
theorem dL_law_838 : decode cL_law 838 = .ok (.iaload, 1) := by decide +kernel
theorem dL_law_839 : decode cL_law 839 = .ok (.aload_n 0, 1) := by decide +kernel
theorem dL_law_840 : decode cL_law 840 = .ok (.iload_n 3, 1) := by decide +kernel
theorem dL_law_841 : decode cL_law 841 = .ok (.iconst 3, 1) := by decide +kernel
theorem dL_law_842 : decode cL_law 842 = .ok (.iadd, 1) := by decide +kernel
theorem dL_law_843 : decode cL_law 843 = .ok (.iaload, 1) := by decide +kernel
theorem dL_law_844 : decode cL_law 844 = .ok (.invokevirtual 101, 3) := by decide +kernel
theorem dL_law_847 : decode cL_law 847 = .ok (.aload_n 2, 1) := by decide +kernel
theorem dL_law_848 : decode cL_law 848 = .ok (.aload_n 0, 1) := by decide +kernel
theorem dL_law_849 : decode cL_law 849 = .ok (.iload_n 3, 1) := by decide +kernel
theorem dL_law_850 : decode cL_law 850 = .ok (.iconst 1, 1) := by decide +kernel
theorem dL_law_851 : decode cL_law 851 = .ok (.iadd, 1) := by decide +kernel
theorem dL_law_852 : decode cL_law 852 = .ok (.iaload, 1) := by decide +kernel
theorem dL_law_853 : decode cL_law 853 = .ok (.aload_n 0, 1) := by decide +kernel
theorem dL_law_854 : decode cL_law 854 = .ok (.iload_n 3, 1) := by decide +kernel
theorem dL_law_855 : decode cL_law 855 = .ok (.iconst 2, 1) := by decide +kernel
theorem dL_law_856 : decode cL_law 856 = .ok (.iadd, 1) := by decide +kernel
theorem dL_law_857 : decode cL_law 857 = .ok (.iaload, 1) := by decide +kernel
theorem dL_law_858 : decode cL_law 858 = .ok (.aload_n 0, 1) := by decide +kernel
theorem dL_law_859 : decode cL_law 859 = .ok (.iload_n 3, 1) := by decide +kernel
theorem dL_law_860 : decode cL_law 860 = .ok (.iconst 3, 1) := by decide +kernel
theorem dL_law_861 : decode cL_law 861 = .ok (.iadd, 1) := by decide +kernel
theorem dL_law_862 : decode cL_law 862 = .ok (.iaload, 1) := by decide +kernel
theorem dL_law_863 : decode cL_law 863 = .ok (.invokevirtual 104, 3) := by decide +kernel
theorem dL_law_866 : decode cL_law 866 = .ok (.if_icmp .eq 977, 3) := by decide +kernel
theorem lw_k20 {G : lu_G} {Q : State → Prop} {ρ σ : Nat → Nat} {m n : lu_M} {k z b L j : Nat} {xs : Nat → Int32} (X : lw_X G 2000 80000 b L xs) (hj : j + 5 ≤ L) (hr : Rel m n) (hk : k + 6 ≤ (lu_R G).cells ∧ z + 36 ≤ (lu_R G).slots) (kk : ∀ (m2 n2 : lu_M) (ρ2 : Nat → Nat), Rel m2 n2 → ρ2 0 = ρ 0 → lw_I G Q 1843 (lw_lv b (ρ 0) (σ 0) (nI j)) [] ρ2 m2 σ n2 (k + 6) (z + 36)) : lw_I G Q 828 (lw_lv b (ρ 0) (σ 0) (nI j)) [] ρ m σ n k z := by
  refine lw_a1 X dL_law_828 rfl ?_
  refine lw_ld X hj 1 (by decide) rfl dL_law_829 dL_law_830 dL_law_831 dL_law_832 dL_law_833 rfl ?_
  refine lw_ld X hj 2 (by decide) rfl dL_law_834 dL_law_835 dL_law_836 dL_law_837 dL_law_838 rfl ?_
  refine lw_ld X hj 3 (by decide) rfl dL_law_839 dL_law_840 dL_law_841 dL_law_842 dL_law_843 rfl ?_
  obtain ⟨a, m2, n2, q1, q2, hr2⟩ := y_owe (xs (j + 1)) (xs (j + 2)) (xs (j + 3)) m n hr
  refine lw_callC (As := [.int (xs (j + 1)), .int (xs (j + 2)), .int (xs (j + 3))]) (rest := []) X.1 (c11_owe (lu_l G) (xs (j + 1)) (xs (j + 2)) (xs (j + 3))) q1 ml11_owe mv11_owe rfl rfl (by decide) (Nat.le_of_ble_eq_true rfl) (Nat.le_of_ble_eq_true rfl) ⟨by omega, by omega⟩ dL_law_844 rfl rfl ?_
  refine lw_a2 X dL_law_847 rfl ?_
  refine lw_ld X hj 1 (by decide) rfl dL_law_848 dL_law_849 dL_law_850 dL_law_851 dL_law_852 rfl ?_
  refine lw_ld X hj 2 (by decide) rfl dL_law_853 dL_law_854 dL_law_855 dL_law_856 dL_law_857 rfl ?_
  refine lw_ld X hj 3 (by decide) rfl dL_law_858 dL_law_859 dL_law_860 dL_law_861 dL_law_862 rfl ?_
  refine lw_callM (As := [.int (xs (j + 1)), .int (xs (j + 2)), .int (xs (j + 3))]) (rest := [.int a]) X.1 (c12_owe (lu_l G) (xs (j + 1)) (xs (j + 2)) (xs (j + 3))) q2 ml12_owe mv12_owe rfl rfl (Nat.le_of_ble_eq_true rfl) (Nat.le_of_ble_eq_true rfl) (Nat.le_of_ble_eq_true rfl) ⟨by omega, by omega⟩ dL_law_863 rfl rfl ?_
  refine lw_same X dL_law_866 rfl ?_
  exact lw_I.wide (kk m2 n2 ρ hr2 rfl)
theorem dL_law_871 : decode cL_law 871 = .ok (.aload_n 1, 1) := by decide +kernel
theorem dL_law_872 : decode cL_law 872 = .ok (.aload_n 0, 1) := by decide +kernel
theorem dL_law_873 : decode cL_law 873 = .ok (.iload_n 3, 1) := by decide +kernel
theorem dL_law_874 : decode cL_law 874 = .ok (.iconst 1, 1) := by decide +kernel
theorem dL_law_875 : decode cL_law 875 = .ok (.iadd, 1) := by decide +kernel
theorem dL_law_876 : decode cL_law 876 = .ok (.iaload, 1) := by decide +kernel
theorem dL_law_877 : decode cL_law 877 = .ok (.aload_n 0, 1) := by decide +kernel
theorem dL_law_878 : decode cL_law 878 = .ok (.iload_n 3, 1) := by decide +kernel
theorem dL_law_879 : decode cL_law 879 = .ok (.iconst 2, 1) := by decide +kernel
theorem dL_law_880 : decode cL_law 880 = .ok (.iadd, 1) := by decide +kernel
theorem dL_law_881 : decode cL_law 881 = .ok (.iaload, 1) := by decide +kernel
theorem dL_law_882 : decode cL_law 882 = .ok (.invokevirtual 105, 3) := by decide +kernel
theorem dL_law_885 : decode cL_law 885 = .ok (.aload_n 2, 1) := by decide +kernel
theorem dL_law_886 : decode cL_law 886 = .ok (.aload_n 0, 1) := by decide +kernel
theorem dL_law_887 : decode cL_law 887 = .ok (.iload_n 3, 1) := by decide +kernel
theorem dL_law_888 : decode cL_law 888 = .ok (.iconst 1, 1) := by decide +kernel
theorem dL_law_889 : decode cL_law 889 = .ok (.iadd, 1) := by decide +kernel
theorem dL_law_890 : decode cL_law 890 = .ok (.iaload, 1) := by decide +kernel
theorem dL_law_891 : decode cL_law 891 = .ok (.aload_n 0, 1) := by decide +kernel
theorem dL_law_892 : decode cL_law 892 = .ok (.iload_n 3, 1) := by decide +kernel
theorem dL_law_893 : decode cL_law 893 = .ok (.iconst 2, 1) := by decide +kernel
theorem dL_law_894 : decode cL_law 894 = .ok (.iadd, 1) := by decide +kernel
theorem dL_law_895 : decode cL_law 895 = .ok (.iaload, 1) := by decide +kernel
theorem dL_law_896 : decode cL_law 896 = .ok (.invokevirtual 108, 3) := by decide +kernel
theorem dL_law_899 : decode cL_law 899 = .ok (.if_icmp .eq 944, 3) := by decide +kernel
theorem lw_k21 {G : lu_G} {Q : State → Prop} {ρ σ : Nat → Nat} {m n : lu_M} {k z b L j : Nat} {xs : Nat → Int32} (X : lw_X G 2000 80000 b L xs) (hj : j + 5 ≤ L) (hr : Rel m n) (hk : k + 6 ≤ (lu_R G).cells ∧ z + 36 ≤ (lu_R G).slots) (kk : ∀ (m2 n2 : lu_M) (ρ2 : Nat → Nat), Rel m2 n2 → ρ2 0 = ρ 0 → lw_I G Q 1843 (lw_lv b (ρ 0) (σ 0) (nI j)) [] ρ2 m2 σ n2 (k + 6) (z + 36)) : lw_I G Q 871 (lw_lv b (ρ 0) (σ 0) (nI j)) [] ρ m σ n k z := by
  refine lw_a1 X dL_law_871 rfl ?_
  refine lw_ld X hj 1 (by decide) rfl dL_law_872 dL_law_873 dL_law_874 dL_law_875 dL_law_876 rfl ?_
  refine lw_ld X hj 2 (by decide) rfl dL_law_877 dL_law_878 dL_law_879 dL_law_880 dL_law_881 rfl ?_
  obtain ⟨a, m2, n2, q1, q2, hr2⟩ := y_owes (xs (j + 1)) (xs (j + 2)) m n hr
  refine lw_callC (As := [.int (xs (j + 1)), .int (xs (j + 2))]) (rest := []) X.1 (c11_owes (lu_l G) (xs (j + 1)) (xs (j + 2))) q1 ml11_owes mv11_owes rfl rfl (by decide) (Nat.le_of_ble_eq_true rfl) (Nat.le_of_ble_eq_true rfl) ⟨by omega, by omega⟩ dL_law_882 rfl rfl ?_
  refine lw_a2 X dL_law_885 rfl ?_
  refine lw_ld X hj 1 (by decide) rfl dL_law_886 dL_law_887 dL_law_888 dL_law_889 dL_law_890 rfl ?_
  refine lw_ld X hj 2 (by decide) rfl dL_law_891 dL_law_892 dL_law_893 dL_law_894 dL_law_895 rfl ?_
  refine lw_callM (As := [.int (xs (j + 1)), .int (xs (j + 2))]) (rest := [.int a]) X.1 (c12_owes (lu_l G) (xs (j + 1)) (xs (j + 2))) q2 ml12_owes mv12_owes rfl rfl (Nat.le_of_ble_eq_true rfl) (Nat.le_of_ble_eq_true rfl) (Nat.le_of_ble_eq_true rfl) ⟨by omega, by omega⟩ dL_law_896 rfl rfl ?_
  refine lw_same X dL_law_899 rfl ?_
  exact lw_I.wide (kk m2 n2 ρ hr2 rfl)
theorem dL_law_904 : decode cL_law 904 = .ok (.aload_n 1, 1) := by decide +kernel
theorem dL_law_905 : decode cL_law 905 = .ok (.aload_n 0, 1) := by decide +kernel
theorem dL_law_906 : decode cL_law 906 = .ok (.iload_n 3, 1) := by decide +kernel
theorem dL_law_907 : decode cL_law 907 = .ok (.iconst 1, 1) := by decide +kernel
theorem dL_law_908 : decode cL_law 908 = .ok (.iadd, 1) := by decide +kernel
theorem dL_law_909 : decode cL_law 909 = .ok (.iaload, 1) := by decide +kernel
theorem dL_law_910 : decode cL_law 910 = .ok (.invokevirtual 109, 3) := by decide +kernel
theorem dL_law_913 : decode cL_law 913 = .ok (.aload_n 2, 1) := by decide +kernel
theorem dL_law_914 : decode cL_law 914 = .ok (.aload_n 0, 1) := by decide +kernel
theorem dL_law_915 : decode cL_law 915 = .ok (.iload_n 3, 1) := by decide +kernel
theorem dL_law_916 : decode cL_law 916 = .ok (.iconst 1, 1) := by decide +kernel
theorem dL_law_917 : decode cL_law 917 = .ok (.iadd, 1) := by decide +kernel
theorem dL_law_918 : decode cL_law 918 = .ok (.iaload, 1) := by decide +kernel
theorem dL_law_919 : decode cL_law 919 = .ok (.invokevirtual 112, 3) := by decide +kernel
theorem dL_law_922 : decode cL_law 922 = .ok (.if_icmp .eq 921, 3) := by decide +kernel
theorem lw_k22 {G : lu_G} {Q : State → Prop} {ρ σ : Nat → Nat} {m n : lu_M} {k z b L j : Nat} {xs : Nat → Int32} (X : lw_X G 2000 80000 b L xs) (hj : j + 5 ≤ L) (hr : Rel m n) (hk : k + 6 ≤ (lu_R G).cells ∧ z + 36 ≤ (lu_R G).slots) (kk : ∀ (m2 n2 : lu_M) (ρ2 : Nat → Nat), Rel m2 n2 → ρ2 0 = ρ 0 → lw_I G Q 1843 (lw_lv b (ρ 0) (σ 0) (nI j)) [] ρ2 m2 σ n2 (k + 6) (z + 36)) : lw_I G Q 904 (lw_lv b (ρ 0) (σ 0) (nI j)) [] ρ m σ n k z := by
  refine lw_a1 X dL_law_904 rfl ?_
  refine lw_ld X hj 1 (by decide) rfl dL_law_905 dL_law_906 dL_law_907 dL_law_908 dL_law_909 rfl ?_
  obtain ⟨a, m2, n2, q1, q2, hr2⟩ := y_net (xs (j + 1)) m n hr
  refine lw_callC (As := [.int (xs (j + 1))]) (rest := []) X.1 (c11_net (lu_l G) (xs (j + 1))) q1 ml11_net mv11_net rfl rfl (by decide) (Nat.le_of_ble_eq_true rfl) (Nat.le_of_ble_eq_true rfl) ⟨by omega, by omega⟩ dL_law_910 rfl rfl ?_
  refine lw_a2 X dL_law_913 rfl ?_
  refine lw_ld X hj 1 (by decide) rfl dL_law_914 dL_law_915 dL_law_916 dL_law_917 dL_law_918 rfl ?_
  refine lw_callM (As := [.int (xs (j + 1))]) (rest := [.int a]) X.1 (c12_net (lu_l G) (xs (j + 1))) q2 ml12_net mv12_net rfl rfl (Nat.le_of_ble_eq_true rfl) (Nat.le_of_ble_eq_true rfl) (Nat.le_of_ble_eq_true rfl) ⟨by omega, by omega⟩ dL_law_919 rfl rfl ?_
  refine lw_same X dL_law_922 rfl ?_
  exact lw_I.wide (kk m2 n2 ρ hr2 rfl)
theorem dL_law_927 : decode cL_law 927 = .ok (.aload_n 1, 1) := by decide +kernel
theorem dL_law_928 : decode cL_law 928 = .ok (.aload_n 0, 1) := by decide +kernel
theorem dL_law_929 : decode cL_law 929 = .ok (.iload_n 3, 1) := by decide +kernel
theorem dL_law_930 : decode cL_law 930 = .ok (.iconst 1, 1) := by decide +kernel
theorem dL_law_931 : decode cL_law 931 = .ok (.iadd, 1) := by decide +kernel
theorem dL_law_932 : decode cL_law 932 = .ok (.iaload, 1) := by decide +kernel
theorem dL_law_933 : decode cL_law 933 = .ok (.invokevirtual 113, 3) := by decide +kernel
theorem dL_law_936 : decode cL_law 936 = .ok (.aload_n 2, 1) := by decide +kernel
theorem dL_law_937 : decode cL_law 937 = .ok (.aload_n 0, 1) := by decide +kernel
theorem dL_law_938 : decode cL_law 938 = .ok (.iload_n 3, 1) := by decide +kernel
theorem dL_law_939 : decode cL_law 939 = .ok (.iconst 1, 1) := by decide +kernel
theorem dL_law_940 : decode cL_law 940 = .ok (.iadd, 1) := by decide +kernel
theorem dL_law_941 : decode cL_law 941 = .ok (.iaload, 1) := by decide +kernel
theorem dL_law_942 : decode cL_law 942 = .ok (.invokevirtual 116, 3) := by decide +kernel
theorem dL_law_945 : decode cL_law 945 = .ok (.if_icmp .eq 898, 3) := by decide +kernel
theorem lw_k23 {G : lu_G} {Q : State → Prop} {ρ σ : Nat → Nat} {m n : lu_M} {k z b L j : Nat} {xs : Nat → Int32} (X : lw_X G 2000 80000 b L xs) (hj : j + 5 ≤ L) (hr : Rel m n) (hk : k + 6 ≤ (lu_R G).cells ∧ z + 36 ≤ (lu_R G).slots) (kk : ∀ (m2 n2 : lu_M) (ρ2 : Nat → Nat), Rel m2 n2 → ρ2 0 = ρ 0 → lw_I G Q 1843 (lw_lv b (ρ 0) (σ 0) (nI j)) [] ρ2 m2 σ n2 (k + 6) (z + 36)) : lw_I G Q 927 (lw_lv b (ρ 0) (σ 0) (nI j)) [] ρ m σ n k z := by
  refine lw_a1 X dL_law_927 rfl ?_
  refine lw_ld X hj 1 (by decide) rfl dL_law_928 dL_law_929 dL_law_930 dL_law_931 dL_law_932 rfl ?_
  obtain ⟨a, m2, n2, q1, q2, hr2⟩ := y_ring (xs (j + 1)) m n hr
  refine lw_callC (As := [.int (xs (j + 1))]) (rest := []) X.1 (c11_ring (lu_l G) (xs (j + 1))) q1 ml11_ring mv11_ring rfl rfl (by decide) (Nat.le_of_ble_eq_true rfl) (Nat.le_of_ble_eq_true rfl) ⟨by omega, by omega⟩ dL_law_933 rfl rfl ?_
  refine lw_a2 X dL_law_936 rfl ?_
  refine lw_ld X hj 1 (by decide) rfl dL_law_937 dL_law_938 dL_law_939 dL_law_940 dL_law_941 rfl ?_
  refine lw_callM (As := [.int (xs (j + 1))]) (rest := [.int a]) X.1 (c12_ring (lu_l G) (xs (j + 1))) q2 ml12_ring mv12_ring rfl rfl (Nat.le_of_ble_eq_true rfl) (Nat.le_of_ble_eq_true rfl) (Nat.le_of_ble_eq_true rfl) ⟨by omega, by omega⟩ dL_law_942 rfl rfl ?_
  refine lw_same X dL_law_945 rfl ?_
  exact lw_I.wide (kk m2 n2 ρ hr2 rfl)
theorem dL_law_950 : decode cL_law 950 = .ok (.aload_n 1, 1) := by decide +kernel
theorem dL_law_951 : decode cL_law 951 = .ok (.invokevirtual 117, 3) := by decide +kernel
theorem dL_law_954 : decode cL_law 954 = .ok (.aload_n 2, 1) := by decide +kernel
theorem dL_law_955 : decode cL_law 955 = .ok (.invokevirtual 120, 3) := by decide +kernel
theorem dL_law_958 : decode cL_law 958 = .ok (.if_icmp .eq 885, 3) := by decide +kernel
theorem lw_k24 {G : lu_G} {Q : State → Prop} {ρ σ : Nat → Nat} {m n : lu_M} {k z b L j : Nat} {xs : Nat → Int32} (X : lw_X G 2000 80000 b L xs) (hj : j + 5 ≤ L) (hr : Rel m n) (hk : k + 6 ≤ (lu_R G).cells ∧ z + 36 ≤ (lu_R G).slots) (kk : ∀ (m2 n2 : lu_M) (ρ2 : Nat → Nat), Rel m2 n2 → ρ2 0 = ρ 0 → lw_I G Q 1843 (lw_lv b (ρ 0) (σ 0) (nI j)) [] ρ2 m2 σ n2 (k + 6) (z + 36)) : lw_I G Q 950 (lw_lv b (ρ 0) (σ 0) (nI j)) [] ρ m σ n k z := by
  refine lw_a1 X dL_law_950 rfl ?_
  obtain ⟨a, m2, n2, q1, q2, hr2⟩ := y_payments m n hr
  refine lw_callC (As := []) (rest := []) X.1 (c11_payments (lu_l G) ) q1 ml11_payments mv11_payments rfl rfl (by decide) (Nat.le_of_ble_eq_true rfl) (Nat.le_of_ble_eq_true rfl) ⟨by omega, by omega⟩ dL_law_951 rfl rfl ?_
  refine lw_a2 X dL_law_954 rfl ?_
  refine lw_callM (As := []) (rest := [.int a]) X.1 (c12_payments (lu_l G) ) q2 ml12_payments mv12_payments rfl rfl (Nat.le_of_ble_eq_true rfl) (Nat.le_of_ble_eq_true rfl) (Nat.le_of_ble_eq_true rfl) ⟨by omega, by omega⟩ dL_law_955 rfl rfl ?_
  refine lw_same X dL_law_958 rfl ?_
  exact lw_I.wide (kk m2 n2 ρ hr2 rfl)
theorem dL_law_963 : decode cL_law 963 = .ok (.aload_n 1, 1) := by decide +kernel
theorem dL_law_964 : decode cL_law 964 = .ok (.aload_n 0, 1) := by decide +kernel
theorem dL_law_965 : decode cL_law 965 = .ok (.iload_n 3, 1) := by decide +kernel
theorem dL_law_966 : decode cL_law 966 = .ok (.iconst 1, 1) := by decide +kernel
theorem dL_law_967 : decode cL_law 967 = .ok (.iadd, 1) := by decide +kernel
theorem dL_law_968 : decode cL_law 968 = .ok (.iaload, 1) := by decide +kernel
theorem dL_law_969 : decode cL_law 969 = .ok (.invokevirtual 121, 3) := by decide +kernel
theorem dL_law_972 : decode cL_law 972 = .ok (.aload_n 2, 1) := by decide +kernel
theorem dL_law_973 : decode cL_law 973 = .ok (.aload_n 0, 1) := by decide +kernel
theorem dL_law_974 : decode cL_law 974 = .ok (.iload_n 3, 1) := by decide +kernel
theorem dL_law_975 : decode cL_law 975 = .ok (.iconst 1, 1) := by decide +kernel
theorem dL_law_976 : decode cL_law 976 = .ok (.iadd, 1) := by decide +kernel
theorem dL_law_977 : decode cL_law 977 = .ok (.iaload, 1) := by decide +kernel
theorem dL_law_978 : decode cL_law 978 = .ok (.invokevirtual 124, 3) := by decide +kernel
theorem dL_law_981 : decode cL_law 981 = .ok (.if_icmp .eq 862, 3) := by decide +kernel
theorem lw_k25 {G : lu_G} {Q : State → Prop} {ρ σ : Nat → Nat} {m n : lu_M} {k z b L j : Nat} {xs : Nat → Int32} (X : lw_X G 2000 80000 b L xs) (hj : j + 5 ≤ L) (hr : Rel m n) (hk : k + 6 ≤ (lu_R G).cells ∧ z + 36 ≤ (lu_R G).slots) (kk : ∀ (m2 n2 : lu_M) (ρ2 : Nat → Nat), Rel m2 n2 → ρ2 0 = ρ 0 → lw_I G Q 1843 (lw_lv b (ρ 0) (σ 0) (nI j)) [] ρ2 m2 σ n2 (k + 6) (z + 36)) : lw_I G Q 963 (lw_lv b (ρ 0) (σ 0) (nI j)) [] ρ m σ n k z := by
  refine lw_a1 X dL_law_963 rfl ?_
  refine lw_ld X hj 1 (by decide) rfl dL_law_964 dL_law_965 dL_law_966 dL_law_967 dL_law_968 rfl ?_
  obtain ⟨a, m2, n2, q1, q2, hr2⟩ := y_best (xs (j + 1)) m n hr
  refine lw_callC (As := [.int (xs (j + 1))]) (rest := []) X.1 (c11_best (lu_l G) (xs (j + 1))) q1 ml11_best mv11_best rfl rfl (by decide) (Nat.le_of_ble_eq_true rfl) (Nat.le_of_ble_eq_true rfl) ⟨by omega, by omega⟩ dL_law_969 rfl rfl ?_
  refine lw_a2 X dL_law_972 rfl ?_
  refine lw_ld X hj 1 (by decide) rfl dL_law_973 dL_law_974 dL_law_975 dL_law_976 dL_law_977 rfl ?_
  refine lw_callM (As := [.int (xs (j + 1))]) (rest := [.int a]) X.1 (c12_best (lu_l G) (xs (j + 1))) q2 ml12_best mv12_best rfl rfl (Nat.le_of_ble_eq_true rfl) (Nat.le_of_ble_eq_true rfl) (Nat.le_of_ble_eq_true rfl) ⟨by omega, by omega⟩ dL_law_978 rfl rfl ?_
  refine lw_same X dL_law_981 rfl ?_
  exact lw_I.wide (kk m2 n2 ρ hr2 rfl)
theorem dL_law_986 : decode cL_law 986 = .ok (.aload_n 1, 1) := by decide +kernel
theorem dL_law_987 : decode cL_law 987 = .ok (.aload_n 0, 1) := by decide +kernel
theorem dL_law_988 : decode cL_law 988 = .ok (.iload_n 3, 1) := by decide +kernel
theorem dL_law_989 : decode cL_law 989 = .ok (.iconst 1, 1) := by decide +kernel
theorem dL_law_990 : decode cL_law 990 = .ok (.iadd, 1) := by decide +kernel
theorem dL_law_991 : decode cL_law 991 = .ok (.iaload, 1) := by decide +kernel
theorem dL_law_992 : decode cL_law 992 = .ok (.aload_n 0, 1) := by decide +kernel
theorem dL_law_993 : decode cL_law 993 = .ok (.iload_n 3, 1) := by decide +kernel
theorem dL_law_994 : decode cL_law 994 = .ok (.iconst 2, 1) := by decide +kernel
theorem dL_law_995 : decode cL_law 995 = .ok (.iadd, 1) := by decide +kernel
theorem dL_law_996 : decode cL_law 996 = .ok (.iaload, 1) := by decide +kernel
theorem dL_law_997 : decode cL_law 997 = .ok (.invokevirtual 125, 3) := by decide +kernel
theorem dL_law_1000 : decode cL_law 1000 = .ok (.aload_n 2, 1) := by decide +kernel
theorem dL_law_1001 : decode cL_law 1001 = .ok (.aload_n 0, 1) := by decide +kernel
theorem dL_law_1002 : decode cL_law 1002 = .ok (.iload_n 3, 1) := by decide +kernel
theorem dL_law_1003 : decode cL_law 1003 = .ok (.iconst 1, 1) := by decide +kernel
theorem dL_law_1004 : decode cL_law 1004 = .ok (.iadd, 1) := by decide +kernel
theorem dL_law_1005 : decode cL_law 1005 = .ok (.iaload, 1) := by decide +kernel
theorem dL_law_1006 : decode cL_law 1006 = .ok (.aload_n 0, 1) := by decide +kernel
theorem dL_law_1007 : decode cL_law 1007 = .ok (.iload_n 3, 1) := by decide +kernel
theorem dL_law_1008 : decode cL_law 1008 = .ok (.iconst 2, 1) := by decide +kernel
theorem dL_law_1009 : decode cL_law 1009 = .ok (.iadd, 1) := by decide +kernel
theorem dL_law_1010 : decode cL_law 1010 = .ok (.iaload, 1) := by decide +kernel
theorem dL_law_1011 : decode cL_law 1011 = .ok (.invokevirtual 128, 3) := by decide +kernel
theorem dL_law_1014 : decode cL_law 1014 = .ok (.if_icmp .eq 829, 3) := by decide +kernel
theorem lw_k26 {G : lu_G} {Q : State → Prop} {ρ σ : Nat → Nat} {m n : lu_M} {k z b L j : Nat} {xs : Nat → Int32} (X : lw_X G 2000 80000 b L xs) (hj : j + 5 ≤ L) (hr : Rel m n) (hk : k + 6 ≤ (lu_R G).cells ∧ z + 36 ≤ (lu_R G).slots) (kk : ∀ (m2 n2 : lu_M) (ρ2 : Nat → Nat), Rel m2 n2 → ρ2 0 = ρ 0 → lw_I G Q 1843 (lw_lv b (ρ 0) (σ 0) (nI j)) [] ρ2 m2 σ n2 (k + 6) (z + 36)) : lw_I G Q 986 (lw_lv b (ρ 0) (σ 0) (nI j)) [] ρ m σ n k z := by
  refine lw_a1 X dL_law_986 rfl ?_
  refine lw_ld X hj 1 (by decide) rfl dL_law_987 dL_law_988 dL_law_989 dL_law_990 dL_law_991 rfl ?_
  refine lw_ld X hj 2 (by decide) rfl dL_law_992 dL_law_993 dL_law_994 dL_law_995 dL_law_996 rfl ?_
  obtain ⟨a, m2, n2, q1, q2, hr2⟩ := y_ith (xs (j + 1)) (xs (j + 2)) m n hr
  refine lw_callC (As := [.int (xs (j + 1)), .int (xs (j + 2))]) (rest := []) X.1 (c11_ith (lu_l G) (xs (j + 1)) (xs (j + 2))) q1 ml11_ith mv11_ith rfl rfl (by decide) (Nat.le_of_ble_eq_true rfl) (Nat.le_of_ble_eq_true rfl) ⟨by omega, by omega⟩ dL_law_997 rfl rfl ?_
  refine lw_a2 X dL_law_1000 rfl ?_
  refine lw_ld X hj 1 (by decide) rfl dL_law_1001 dL_law_1002 dL_law_1003 dL_law_1004 dL_law_1005 rfl ?_
  refine lw_ld X hj 2 (by decide) rfl dL_law_1006 dL_law_1007 dL_law_1008 dL_law_1009 dL_law_1010 rfl ?_
  refine lw_callM (As := [.int (xs (j + 1)), .int (xs (j + 2))]) (rest := [.int a]) X.1 (c12_ith (lu_l G) (xs (j + 1)) (xs (j + 2))) q2 ml12_ith mv12_ith rfl rfl (Nat.le_of_ble_eq_true rfl) (Nat.le_of_ble_eq_true rfl) (Nat.le_of_ble_eq_true rfl) ⟨by omega, by omega⟩ dL_law_1011 rfl rfl ?_
  refine lw_same X dL_law_1014 rfl ?_
  exact lw_I.wide (kk m2 n2 ρ hr2 rfl)
