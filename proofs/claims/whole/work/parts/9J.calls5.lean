/-! THE LAW: calls 5 -/
theorem dL_law_1695 : decode cL_law 1695 = .ok (.aload_n 1, 1) := by decide +kernel
theorem dL_law_1696 : decode cL_law 1696 = .ok (.aload_n 0, 1) := by decide +kernel
theorem dL_law_1697 : decode cL_law 1697 = .ok (.iload_n 3, 1) := by decide +kernel
theorem dL_law_1698 : decode cL_law 1698 = .ok (.iconst 1, 1) := by decide +kernel
theorem dL_law_1699 : decode cL_law 1699 = .ok (.iadd, 1) := by decide +kernel
theorem dL_law_1700 : decode cL_law 1700 = .ok (.iaload, 1) := by decide +kernel
theorem dL_law_1701 : decode cL_law 1701 = .ok (.aload_n 0, 1) := by decide +kernel
theorem dL_law_1702 : decode cL_law 1702 = .ok (.iload_n 3, 1) := by decide +kernel
theorem dL_law_1703 : decode cL_law 1703 = .ok (.iconst 2, 1) := by decide +kernel
theorem dL_law_1704 : decode cL_law 1704 = .ok (.iadd, 1) := by decide +kernel
theorem dL_law_1705 : decode cL_law 1705 = .ok (.iaload, 1) := by decide +kernel
theorem dL_law_1706 : decode cL_law 1706 = .ok (.invokevirtual 217, 3) := by decide +kernel
theorem dL_law_1709 : decode cL_law 1709 = .ok (.aload_n 2, 1) := by decide +kernel
theorem dL_law_1710 : decode cL_law 1710 = .ok (.aload_n 0, 1) := by decide +kernel
theorem dL_law_1711 : decode cL_law 1711 = .ok (.iload_n 3, 1) := by decide +kernel
theorem dL_law_1712 : decode cL_law 1712 = .ok (.iconst 1, 1) := by decide +kernel
theorem dL_law_1713 : decode cL_law 1713 = .ok (.iadd, 1) := by decide +kernel
theorem dL_law_1714 : decode cL_law 1714 = .ok (.iaload, 1) := by decide +kernel
theorem dL_law_1715 : decode cL_law 1715 = .ok (.aload_n 0, 1) := by decide +kernel
theorem dL_law_1716 : decode cL_law 1716 = .ok (.iload_n 3, 1) := by decide +kernel
theorem dL_law_1717 : decode cL_law 1717 = .ok (.iconst 2, 1) := by decide +kernel
theorem dL_law_1718 : decode cL_law 1718 = .ok (.iadd, 1) := by decide +kernel
theorem dL_law_1719 : decode cL_law 1719 = .ok (.iaload, 1) := by decide +kernel
theorem dL_law_1720 : decode cL_law 1720 = .ok (.invokevirtual 220, 3) := by decide +kernel
theorem dL_law_1723 : decode cL_law 1723 = .ok (.if_icmp .eq 120, 3) := by decide +kernel
theorem lw_k49 {G : lu_G} {Q : State → Prop} {ρ σ : Nat → Nat} {m n : lu_M} {k z b L j : Nat} {xs : Nat → Int32} (X : lw_X G 2000 80000 b L xs) (hj : j + 5 ≤ L) (hr : Rel m n) (hk : k + 6 ≤ (lu_R G).cells ∧ z + 36 ≤ (lu_R G).slots) (kk : ∀ (m2 n2 : lu_M) (ρ2 : Nat → Nat), Rel m2 n2 → ρ2 0 = ρ 0 → lw_I G Q 1843 (lw_lv b (ρ 0) (σ 0) (nI j)) [] ρ2 m2 σ n2 (k + 6) (z + 36)) : lw_I G Q 1695 (lw_lv b (ρ 0) (σ 0) (nI j)) [] ρ m σ n k z := by
  refine lw_a1 X dL_law_1695 rfl ?_
  refine lw_ld X hj 1 (by decide) rfl dL_law_1696 dL_law_1697 dL_law_1698 dL_law_1699 dL_law_1700 rfl ?_
  refine lw_ld X hj 2 (by decide) rfl dL_law_1701 dL_law_1702 dL_law_1703 dL_law_1704 dL_law_1705 rfl ?_
  obtain ⟨a, m2, n2, q1, q2, hr2⟩ := y_taken (xs (j + 1)) (xs (j + 2)) m n hr
  refine lw_callC (As := [.int (xs (j + 1)), .int (xs (j + 2))]) (rest := []) X.1 (c11_taken (lu_l G) (xs (j + 1)) (xs (j + 2))) q1 ml11_taken mv11_taken rfl rfl (by decide) (Nat.le_of_ble_eq_true rfl) (Nat.le_of_ble_eq_true rfl) ⟨by omega, by omega⟩ dL_law_1706 rfl rfl ?_
  refine lw_a2 X dL_law_1709 rfl ?_
  refine lw_ld X hj 1 (by decide) rfl dL_law_1710 dL_law_1711 dL_law_1712 dL_law_1713 dL_law_1714 rfl ?_
  refine lw_ld X hj 2 (by decide) rfl dL_law_1715 dL_law_1716 dL_law_1717 dL_law_1718 dL_law_1719 rfl ?_
  refine lw_callM (As := [.int (xs (j + 1)), .int (xs (j + 2))]) (rest := [.int a]) X.1 (c12_taken (lu_l G) (xs (j + 1)) (xs (j + 2))) q2 ml12_taken mv12_taken rfl rfl (Nat.le_of_ble_eq_true rfl) (Nat.le_of_ble_eq_true rfl) (Nat.le_of_ble_eq_true rfl) ⟨by omega, by omega⟩ dL_law_1720 rfl rfl ?_
  refine lw_same X dL_law_1723 rfl ?_
  exact lw_I.wide (kk m2 n2 ρ hr2 rfl)
theorem dL_law_1728 : decode cL_law 1728 = .ok (.aload_n 1, 1) := by decide +kernel
theorem dL_law_1729 : decode cL_law 1729 = .ok (.aload_n 0, 1) := by decide +kernel
theorem dL_law_1730 : decode cL_law 1730 = .ok (.iload_n 3, 1) := by decide +kernel
theorem dL_law_1731 : decode cL_law 1731 = .ok (.iconst 1, 1) := by decide +kernel
theorem dL_law_1732 : decode cL_law 1732 = .ok (.iadd, 1) := by decide +kernel
theorem dL_law_1733 : decode cL_law 1733 = .ok (.iaload, 1) := by decide +kernel
theorem dL_law_1734 : decode cL_law 1734 = .ok (.aload_n 0, 1) := by decide +kernel
theorem dL_law_1735 : decode cL_law 1735 = .ok (.iload_n 3, 1) := by decide +kernel
theorem dL_law_1736 : decode cL_law 1736 = .ok (.iconst 2, 1) := by decide +kernel
theorem dL_law_1737 : decode cL_law 1737 = .ok (.iadd, 1) := by decide +kernel
theorem dL_law_1738 : decode cL_law 1738 = .ok (.iaload, 1) := by decide +kernel
theorem dL_law_1739 : decode cL_law 1739 = .ok (.aload_n 0, 1) := by decide +kernel
theorem dL_law_1740 : decode cL_law 1740 = .ok (.iload_n 3, 1) := by decide +kernel
theorem dL_law_1741 : decode cL_law 1741 = .ok (.iconst 3, 1) := by decide +kernel
theorem dL_law_1742 : decode cL_law 1742 = .ok (.iadd, 1) := by decide +kernel
theorem dL_law_1743 : decode cL_law 1743 = .ok (.iaload, 1) := by decide +kernel
theorem dL_law_1744 : decode cL_law 1744 = .ok (.invokevirtual 221, 3) := by decide +kernel
theorem dL_law_1747 : decode cL_law 1747 = .ok (.aload_n 2, 1) := by decide +kernel
theorem dL_law_1748 : decode cL_law 1748 = .ok (.aload_n 0, 1) := by decide +kernel
theorem dL_law_1749 : decode cL_law 1749 = .ok (.iload_n 3, 1) := by decide +kernel
theorem dL_law_1750 : decode cL_law 1750 = .ok (.iconst 1, 1) := by decide +kernel
theorem dL_law_1751 : decode cL_law 1751 = .ok (.iadd, 1) := by decide +kernel
theorem dL_law_1752 : decode cL_law 1752 = .ok (.iaload, 1) := by decide +kernel
theorem dL_law_1753 : decode cL_law 1753 = .ok (.aload_n 0, 1) := by decide +kernel
theorem dL_law_1754 : decode cL_law 1754 = .ok (.iload_n 3, 1) := by decide +kernel
theorem dL_law_1755 : decode cL_law 1755 = .ok (.iconst 2, 1) := by decide +kernel
theorem dL_law_1756 : decode cL_law 1756 = .ok (.iadd, 1) := by decide +kernel
theorem dL_law_1757 : decode cL_law 1757 = .ok (.iaload, 1) := by decide +kernel
theorem dL_law_1758 : decode cL_law 1758 = .ok (.aload_n 0, 1) := by decide +kernel
theorem dL_law_1759 : decode cL_law 1759 = .ok (.iload_n 3, 1) := by decide +kernel
theorem dL_law_1760 : decode cL_law 1760 = .ok (.iconst 3, 1) := by decide +kernel
theorem dL_law_1761 : decode cL_law 1761 = .ok (.iadd, 1) := by decide +kernel
theorem dL_law_1762 : decode cL_law 1762 = .ok (.iaload, 1) := by decide +kernel
theorem dL_law_1763 : decode cL_law 1763 = .ok (.invokevirtual 224, 3) := by decide +kernel
theorem dL_law_1766 : decode cL_law 1766 = .ok (.if_icmp .eq 77, 3) := by decide +kernel
theorem lw_k50 {G : lu_G} {Q : State → Prop} {ρ σ : Nat → Nat} {m n : lu_M} {k z b L j : Nat} {xs : Nat → Int32} (X : lw_X G 2000 80000 b L xs) (hj : j + 5 ≤ L) (hr : Rel m n) (hk : k + 6 ≤ (lu_R G).cells ∧ z + 36 ≤ (lu_R G).slots) (kk : ∀ (m2 n2 : lu_M) (ρ2 : Nat → Nat), Rel m2 n2 → ρ2 0 = ρ 0 → lw_I G Q 1843 (lw_lv b (ρ 0) (σ 0) (nI j)) [] ρ2 m2 σ n2 (k + 6) (z + 36)) : lw_I G Q 1728 (lw_lv b (ρ 0) (σ 0) (nI j)) [] ρ m σ n k z := by
  refine lw_a1 X dL_law_1728 rfl ?_
  refine lw_ld X hj 1 (by decide) rfl dL_law_1729 dL_law_1730 dL_law_1731 dL_law_1732 dL_law_1733 rfl ?_
  refine lw_ld X hj 2 (by decide) rfl dL_law_1734 dL_law_1735 dL_law_1736 dL_law_1737 dL_law_1738 rfl ?_
  refine lw_ld X hj 3 (by decide) rfl dL_law_1739 dL_law_1740 dL_law_1741 dL_law_1742 dL_law_1743 rfl ?_
  obtain ⟨a, m2, n2, q1, q2, hr2⟩ := y_act (xs (j + 1)) (xs (j + 2)) (xs (j + 3)) m n hr
  refine lw_callC (As := [.int (xs (j + 1)), .int (xs (j + 2)), .int (xs (j + 3))]) (rest := []) X.1 (c11_act (lu_l G) (xs (j + 1)) (xs (j + 2)) (xs (j + 3))) q1 ml11_act mv11_act rfl rfl (by decide) (Nat.le_of_ble_eq_true rfl) (Nat.le_of_ble_eq_true rfl) ⟨by omega, by omega⟩ dL_law_1744 rfl rfl ?_
  refine lw_a2 X dL_law_1747 rfl ?_
  refine lw_ld X hj 1 (by decide) rfl dL_law_1748 dL_law_1749 dL_law_1750 dL_law_1751 dL_law_1752 rfl ?_
  refine lw_ld X hj 2 (by decide) rfl dL_law_1753 dL_law_1754 dL_law_1755 dL_law_1756 dL_law_1757 rfl ?_
  refine lw_ld X hj 3 (by decide) rfl dL_law_1758 dL_law_1759 dL_law_1760 dL_law_1761 dL_law_1762 rfl ?_
  refine lw_callM (As := [.int (xs (j + 1)), .int (xs (j + 2)), .int (xs (j + 3))]) (rest := [.int a]) X.1 (c12_act (lu_l G) (xs (j + 1)) (xs (j + 2)) (xs (j + 3))) q2 ml12_act mv12_act rfl rfl (Nat.le_of_ble_eq_true rfl) (Nat.le_of_ble_eq_true rfl) (Nat.le_of_ble_eq_true rfl) ⟨by omega, by omega⟩ dL_law_1763 rfl rfl ?_
  refine lw_same X dL_law_1766 rfl ?_
  exact lw_I.wide (kk m2 n2 ρ hr2 rfl)
theorem dL_law_1771 : decode cL_law 1771 = .ok (.aload_n 1, 1) := by decide +kernel
theorem dL_law_1772 : decode cL_law 1772 = .ok (.aload_n 0, 1) := by decide +kernel
theorem dL_law_1773 : decode cL_law 1773 = .ok (.iload_n 3, 1) := by decide +kernel
theorem dL_law_1774 : decode cL_law 1774 = .ok (.iconst 1, 1) := by decide +kernel
theorem dL_law_1775 : decode cL_law 1775 = .ok (.iadd, 1) := by decide +kernel
theorem dL_law_1776 : decode cL_law 1776 = .ok (.iaload, 1) := by decide +kernel
theorem dL_law_1777 : decode cL_law 1777 = .ok (.invokevirtual 225, 3) := by decide +kernel
theorem dL_law_1780 : decode cL_law 1780 = .ok (.aload_n 2, 1) := by decide +kernel
theorem dL_law_1781 : decode cL_law 1781 = .ok (.aload_n 0, 1) := by decide +kernel
theorem dL_law_1782 : decode cL_law 1782 = .ok (.iload_n 3, 1) := by decide +kernel
theorem dL_law_1783 : decode cL_law 1783 = .ok (.iconst 1, 1) := by decide +kernel
theorem dL_law_1784 : decode cL_law 1784 = .ok (.iadd, 1) := by decide +kernel
theorem dL_law_1785 : decode cL_law 1785 = .ok (.iaload, 1) := by decide +kernel
theorem dL_law_1786 : decode cL_law 1786 = .ok (.invokevirtual 228, 3) := by decide +kernel
theorem dL_law_1789 : decode cL_law 1789 = .ok (.if_icmp .eq 54, 3) := by decide +kernel
theorem lw_k51 {G : lu_G} {Q : State → Prop} {ρ σ : Nat → Nat} {m n : lu_M} {k z b L j : Nat} {xs : Nat → Int32} (X : lw_X G 2000 80000 b L xs) (hj : j + 5 ≤ L) (hr : Rel m n) (hk : k + 6 ≤ (lu_R G).cells ∧ z + 36 ≤ (lu_R G).slots) (kk : ∀ (m2 n2 : lu_M) (ρ2 : Nat → Nat), Rel m2 n2 → ρ2 0 = ρ 0 → lw_I G Q 1843 (lw_lv b (ρ 0) (σ 0) (nI j)) [] ρ2 m2 σ n2 (k + 6) (z + 36)) : lw_I G Q 1771 (lw_lv b (ρ 0) (σ 0) (nI j)) [] ρ m σ n k z := by
  refine lw_a1 X dL_law_1771 rfl ?_
  refine lw_ld X hj 1 (by decide) rfl dL_law_1772 dL_law_1773 dL_law_1774 dL_law_1775 dL_law_1776 rfl ?_
  obtain ⟨a, m2, n2, q1, q2, hr2⟩ := y_trace (xs (j + 1)) m n hr
  refine lw_callC (As := [.int (xs (j + 1))]) (rest := []) X.1 (c11_trace (lu_l G) (xs (j + 1))) q1 ml11_trace mv11_trace rfl rfl (by decide) (Nat.le_of_ble_eq_true rfl) (Nat.le_of_ble_eq_true rfl) ⟨by omega, by omega⟩ dL_law_1777 rfl rfl ?_
  refine lw_a2 X dL_law_1780 rfl ?_
  refine lw_ld X hj 1 (by decide) rfl dL_law_1781 dL_law_1782 dL_law_1783 dL_law_1784 dL_law_1785 rfl ?_
  refine lw_callM (As := [.int (xs (j + 1))]) (rest := [.int a]) X.1 (c12_trace (lu_l G) (xs (j + 1))) q2 ml12_trace mv12_trace rfl rfl (Nat.le_of_ble_eq_true rfl) (Nat.le_of_ble_eq_true rfl) (Nat.le_of_ble_eq_true rfl) ⟨by omega, by omega⟩ dL_law_1786 rfl rfl ?_
  refine lw_same X dL_law_1789 rfl ?_
  exact lw_I.wide (kk m2 n2 ρ hr2 rfl)
theorem dL_law_1794 : decode cL_law 1794 = .ok (.aload_n 1, 1) := by decide +kernel
theorem dL_law_1795 : decode cL_law 1795 = .ok (.aload_n 0, 1) := by decide +kernel
theorem dL_law_1796 : decode cL_law 1796 = .ok (.iload_n 3, 1) := by decide +kernel
theorem dL_law_1797 : decode cL_law 1797 = .ok (.iconst 1, 1) := by decide +kernel
theorem dL_law_1798 : decode cL_law 1798 = .ok (.iadd, 1) := by decide +kernel
theorem dL_law_1799 : decode cL_law 1799 = .ok (.iaload, 1) := by decide +kernel
theorem dL_law_1800 : decode cL_law 1800 = .ok (.invokevirtual 229, 3) := by decide +kernel
theorem dL_law_1803 : decode cL_law 1803 = .ok (.aload_n 2, 1) := by decide +kernel
theorem dL_law_1804 : decode cL_law 1804 = .ok (.aload_n 0, 1) := by decide +kernel
theorem dL_law_1805 : decode cL_law 1805 = .ok (.iload_n 3, 1) := by decide +kernel
theorem dL_law_1806 : decode cL_law 1806 = .ok (.iconst 1, 1) := by decide +kernel
theorem dL_law_1807 : decode cL_law 1807 = .ok (.iadd, 1) := by decide +kernel
theorem dL_law_1808 : decode cL_law 1808 = .ok (.iaload, 1) := by decide +kernel
theorem dL_law_1809 : decode cL_law 1809 = .ok (.invokevirtual 232, 3) := by decide +kernel
theorem dL_law_1812 : decode cL_law 1812 = .ok (.if_icmp .eq 31, 3) := by decide +kernel
theorem lw_k52 {G : lu_G} {Q : State → Prop} {ρ σ : Nat → Nat} {m n : lu_M} {k z b L j : Nat} {xs : Nat → Int32} (X : lw_X G 2000 80000 b L xs) (hj : j + 5 ≤ L) (hr : Rel m n) (hk : k + 6 ≤ (lu_R G).cells ∧ z + 36 ≤ (lu_R G).slots) (kk : ∀ (m2 n2 : lu_M) (ρ2 : Nat → Nat), Rel m2 n2 → ρ2 0 = ρ 0 → lw_I G Q 1843 (lw_lv b (ρ 0) (σ 0) (nI j)) [] ρ2 m2 σ n2 (k + 6) (z + 36)) : lw_I G Q 1794 (lw_lv b (ρ 0) (σ 0) (nI j)) [] ρ m σ n k z := by
  refine lw_a1 X dL_law_1794 rfl ?_
  refine lw_ld X hj 1 (by decide) rfl dL_law_1795 dL_law_1796 dL_law_1797 dL_law_1798 dL_law_1799 rfl ?_
  obtain ⟨a, m2, n2, q1, q2, hr2⟩ := y_many (xs (j + 1)) m n hr
  refine lw_callC (As := [.int (xs (j + 1))]) (rest := []) X.1 (c11_many (lu_l G) (xs (j + 1))) q1 ml11_many mv11_many rfl rfl (by decide) (Nat.le_of_ble_eq_true rfl) (Nat.le_of_ble_eq_true rfl) ⟨by omega, by omega⟩ dL_law_1800 rfl rfl ?_
  refine lw_a2 X dL_law_1803 rfl ?_
  refine lw_ld X hj 1 (by decide) rfl dL_law_1804 dL_law_1805 dL_law_1806 dL_law_1807 dL_law_1808 rfl ?_
  refine lw_callM (As := [.int (xs (j + 1))]) (rest := [.int a]) X.1 (c12_many (lu_l G) (xs (j + 1))) q2 ml12_many mv12_many rfl rfl (Nat.le_of_ble_eq_true rfl) (Nat.le_of_ble_eq_true rfl) (Nat.le_of_ble_eq_true rfl) ⟨by omega, by omega⟩ dL_law_1809 rfl rfl ?_
  refine lw_same X dL_law_1812 rfl ?_
  exact lw_I.wide (kk m2 n2 ρ hr2 rfl)
theorem dL_law_1817 : decode cL_law 1817 = .ok (.aload_n 1, 1) := by decide +kernel
theorem dL_law_1818 : decode cL_law 1818 = .ok (.invokevirtual 233, 3) := by decide +kernel
theorem dL_law_1821 : decode cL_law 1821 = .ok (.aload_n 2, 1) := by decide +kernel
theorem dL_law_1822 : decode cL_law 1822 = .ok (.invokevirtual 236, 3) := by decide +kernel
theorem dL_law_1825 : decode cL_law 1825 = .ok (.if_icmp .eq 18, 3) := by decide +kernel
theorem lw_k53 {G : lu_G} {Q : State → Prop} {ρ σ : Nat → Nat} {m n : lu_M} {k z b L j : Nat} {xs : Nat → Int32} (X : lw_X G 2000 80000 b L xs) (hj : j + 5 ≤ L) (hr : Rel m n) (hk : k + 6 ≤ (lu_R G).cells ∧ z + 36 ≤ (lu_R G).slots) (kk : ∀ (m2 n2 : lu_M) (ρ2 : Nat → Nat), Rel m2 n2 → ρ2 0 = ρ 0 → lw_I G Q 1843 (lw_lv b (ρ 0) (σ 0) (nI j)) [] ρ2 m2 σ n2 (k + 6) (z + 36)) : lw_I G Q 1817 (lw_lv b (ρ 0) (σ 0) (nI j)) [] ρ m σ n k z := by
  refine lw_a1 X dL_law_1817 rfl ?_
  obtain ⟨a, m2, n2, q1, q2, hr2⟩ := y_keep m n hr
  refine lw_callC2 (As := []) (rest := []) X.1 (c11_keep (lu_l G) ) q1 ml11_keep mv11_keep rfl rfl (by decide) (Nat.le_of_ble_eq_true rfl) (Nat.le_of_ble_eq_true rfl) ⟨by omega, by omega⟩ dL_law_1818 rfl rfl (fun ρ2 hρ2 => ?_)
  refine lw_a2 X dL_law_1821 rfl ?_
  refine lw_callM (As := []) (rest := [.int a]) X.1 (c12_keep (lu_l G) ) q2 ml12_keep mv12_keep rfl rfl (Nat.le_of_ble_eq_true rfl) (Nat.le_of_ble_eq_true rfl) (Nat.le_of_ble_eq_true rfl) ⟨by omega, by omega⟩ dL_law_1822 rfl rfl ?_
  refine lw_same X dL_law_1825 rfl ?_
  exact fun H locs ls hl hP hD hS => W.widen (by omega) (by omega) (kk m2 n2 ρ2 hr2 hρ2 H locs ls hl hP hD hS)
theorem dL_law_1830 : decode cL_law 1830 = .ok (.aload_n 1, 1) := by decide +kernel
theorem dL_law_1831 : decode cL_law 1831 = .ok (.invokevirtual 237, 3) := by decide +kernel
theorem dL_law_1834 : decode cL_law 1834 = .ok (.aload_n 2, 1) := by decide +kernel
theorem dL_law_1835 : decode cL_law 1835 = .ok (.invokevirtual 240, 3) := by decide +kernel
theorem dL_law_1838 : decode cL_law 1838 = .ok (.if_icmp .eq 5, 3) := by decide +kernel
theorem lw_k54 {G : lu_G} {Q : State → Prop} {ρ σ : Nat → Nat} {m n : lu_M} {k z b L j : Nat} {xs : Nat → Int32} (X : lw_X G 2000 80000 b L xs) (hj : j + 5 ≤ L) (hr : Rel m n) (hk : k + 6 ≤ (lu_R G).cells ∧ z + 36 ≤ (lu_R G).slots) (kk : ∀ (m2 n2 : lu_M) (ρ2 : Nat → Nat), Rel m2 n2 → ρ2 0 = ρ 0 → lw_I G Q 1843 (lw_lv b (ρ 0) (σ 0) (nI j)) [] ρ2 m2 σ n2 (k + 6) (z + 36)) : lw_I G Q 1830 (lw_lv b (ρ 0) (σ 0) (nI j)) [] ρ m σ n k z := by
  refine lw_a1 X dL_law_1830 rfl ?_
  obtain ⟨a, m2, n2, q1, q2, hr2⟩ := y_again m n hr
  refine lw_callC2 (As := []) (rest := []) X.1 (c11_again (lu_l G) ) q1 ml11_again mv11_again rfl rfl (by decide) (Nat.le_of_ble_eq_true rfl) (Nat.le_of_ble_eq_true rfl) ⟨by omega, by omega⟩ dL_law_1831 rfl rfl (fun ρ2 hρ2 => ?_)
  refine lw_a2 X dL_law_1834 rfl ?_
  refine lw_callM (As := []) (rest := [.int a]) X.1 (c12_again (lu_l G) ) q2 ml12_again mv12_again rfl rfl (Nat.le_of_ble_eq_true rfl) (Nat.le_of_ble_eq_true rfl) (Nat.le_of_ble_eq_true rfl) ⟨by omega, by omega⟩ dL_law_1835 rfl rfl ?_
  refine lw_same X dL_law_1838 rfl ?_
  exact fun H locs ls hl hP hD hS => W.widen (by omega) (by omega) (kk m2 n2 ρ2 hr2 hρ2 H locs ls hl hP hD hS)
