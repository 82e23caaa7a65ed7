/-! MOVES: hands' cells are replaced by new ones; contracts of methods that make cells -/
theorem lu_arrV {cA : ClassId} {n : Nat} {f g : Nat → Value} (h : ∀ i, i < n → f i = g i) : arrV cA n f = arrV cA n g := by
  unfold arrV
  congr 1
  exact congrArg Array.ofFn (funext fun j => h j.1 j.2)
theorem lu_at_arr {D : va_G} {cl : List vw_C} {a n : Nat} {cA : ClassId} {f f' : Nat → Option Nat} {H : Heap} (h : ∀ i, i < n → f' i = f i) (hv : va_at D cl (a, .inl (cA, n, .inr (.inr (.inr (.inr f))))) H) : va_at D cl (a, .inl (cA, n, .inr (.inr (.inr (.inr f'))))) H := by
  have hv : H[a]? = some (vp_cell cA (n, .inr (.inr (.inr (.inr f))))) := hv
  show H[a]? = some (vp_cell cA (n, .inr (.inr (.inr (.inr f')))))
  rw [hv, vp_cell_q, vp_cell_q]
  exact congrArg some (lu_arrV fun i hi => by rw [h i hi])
/-- does role k hold a reference to role j -/
def lu_hits (T : lu_T) (k j : Nat) : Bool := if (T.2 k).1 = 0 then false else if (T.2 k).1 ≤ 3 then decide (k + 1 ≤ j) && decide (j < k + 1 + (T.2 k).2.1) else (lu_F (T.2 k).1).any fun o => decide (o.map (lu_tg k) = some j)
theorem lu_fs_move {ρ ρ' : Nat → Nat} {m m' : lu_M} {r : Nat} (hm : m' r = m r) : ∀ (F : List (Option Nat)) (k : Nat), (∀ o, some o ∈ F → ρ' (lu_tg r o) = ρ (lu_tg r o)) → lu_fs ρ' m' r F k = lu_fs ρ m r F k
  | [], _, _ => rfl
  | none :: F, k, h => by simp only [lu_fs, hm, lu_fs_move hm F (k + 1) (fun o ho => h o (List.mem_cons_of_mem _ ho))]
  | some o :: F, k, h => by simp only [lu_fs, h o List.mem_cons_self, lu_fs_move hm F (k + 1) (fun o ho => h o (List.mem_cons_of_mem _ ho))]
theorem lu_at_move {T : lu_T} {D : va_G} {cs : Nat → ClassId} {ρ ρ' : Nat → Nat} {m m' : lu_M} {k a : Nat} {H : Heap} (hm : m' k = m k) (hρ : ∀ j, lu_hits T k j = true → ρ' j = ρ j) (h : va_at D lu_cl (a, lu_cell T cs ρ m k) H) : va_at D lu_cl (a, lu_cell T cs ρ' m' k) H := by
  obtain ⟨t, n, i, hT⟩ : ∃ t n i, T.2 k = (t, n, i) := ⟨_, _, _, rfl⟩
  by_cases h0 : t = 0
  · subst h0
    rw [lu_cell_int hT] at h ⊢
    rw [hm]
    exact h
  by_cases h3 : t ≤ 3
  · rw [lu_cell_ref hT (by omega) h3] at h ⊢
    refine lu_at_arr (fun j hj => ?_) h
    rw [hρ (k + 1 + j) (by
      unfold lu_hits
      rw [hT]
      simp only [h0, h3, if_true, if_false, Bool.and_eq_true, decide_eq_true_eq]
      omega)]
  · rw [lu_cell_obj hT (by omega)] at h ⊢
    rw [hm, lu_fs_move hm _ _ (fun o ho => hρ _ (by
      unfold lu_hits
      rw [hT]
      simp only [h0, h3, if_false, List.any_eq_true, decide_eq_true_eq]
      exact ⟨some o, ho, rfl⟩))]
    exact h
theorem lu_perm {D : va_G} {cl : List vw_C} {w w' : va_W} {H : Heap} (f : Nat → Nat) (hf : ∀ i j, i < w'.length → j < w'.length → f i = f j → i = j) (h : ∀ (k : Nat) (q : Nat × va_E), w'[k]? = some q → ∃ q0, w[f k]? = some q0 ∧ q0.1 = q.1 ∧ (va_at D cl q0 H → va_at D cl q H)) : (va_P D cl w H → va_P D cl w' H) ∧ ∀ A : Nat → Prop, va_D A w → va_D A w' := by
  refine ⟨fun hP k q hk => ?_, fun A hD => ⟨fun i j p q hi hj hpq => ?_, fun k q hk => ?_⟩⟩
  · obtain ⟨q0, h1, h2, h3⟩ := h k q hk
    exact h3 (hP _ _ h1)
  · obtain ⟨p0, h1, h2, -⟩ := h i p hi
    obtain ⟨q0, h4, h5, -⟩ := h j q hj
    exact hf i j (List.getElem?_eq_some_iff.mp hi).1 (List.getElem?_eq_some_iff.mp hj).1 (hD.1 _ _ _ _ h1 h4 (by rw [h2, h5, hpq]))
  · obtain ⟨q0, h1, h2, -⟩ := h k q hk
    rw [← h2]
    exact hD.2 _ _ h1
def lu_hv (k u g w : Int32) : Nat → Int32 := fun p => if p = 0 then k else if p = 1 then u else if p = 2 then g else if p = 3 then w else 0
def lu_hm (m : lu_M) (j : Nat) (k u g w : Int32) : lu_M := fun q => if q = j then lu_hv k u g w else m q
theorem lu_hm_at (m : lu_M) (j : Nat) (k u g w : Int32) : lu_hm m j k u g w j = lu_hv k u g w := if_pos rfl
theorem lu_hm_ne {m : lu_M} {j q : Nat} {k u g w : Int32} (h : q ≠ j) : lu_hm m j k u g w q = m q := if_neg h
theorem lu_hk_kd (k : Int32) : lu_hk (lu_kd k) = lu_hk k := by
  unfold lu_kd
  by_cases h : lu_hk k = 3
  · rw [if_pos h, h]; rfl
  · rw [if_neg h]
section LUM
variable {β : Type} {T : lu_T} {G : lu_G} {Q : β → State → Prop} {o : Option β} {pc pc2 : Nat} {lv : List (Nat × Value)} {st : List Value} {ρ : Nat → Nat} {k n : Nat} {ex : va_W} {m : lu_M} {own : String} {cc : ByteArray} {nL fr lo : Nat}
/-- made is called: one more cell -/
theorem lu_made (X : lu_X G own cc nL fr lo) {index : Nat} {kd u g w : Int32} {rr : Nat} {rest : List Value} (ml : Cond.methodLink own index yX11_made ∈ lu_ws ∨ (own, index, yX11_made) ∈ lu_nest) (hroom : (rest.map fun v => v.category).sum ≤ 8) (hfr : 5 ≤ fr) (hlo : 119 ≤ lo) (hk : k + 1 ≤ (lu_R G).cells ∧ n + 6 ≤ (lu_R G).slots) (d : decode cc pc = .ok (.invokestatic index, 3)) (hp : pc + 3 = pc2) (hst : st = .ref rr :: .int w :: .int g :: .int u :: .int kd :: rest)
    (kk : ∀ a : Nat, lu_Ab T G Q o pc2 lv (.ref a :: rest) ρ (k + 1) (n + 6) (ex ++ [(a, .inr (lu_hk kd, lu_hnew (lu_kd kd) u g w rr))]) m) : lu_Ab T G Q o pc lv st ρ k n ex m := by
  subst hp
  subst hst
  intro b hb H locs ls hl hP hD hS
  have hM := c11_made (lu_l G) (lu_D G) (lu_cs G) H.size rr kd u g w
  have hd : yX11_made.cls ≠ "java/lang/invoke/MethodHandle" ∧ yX11_made.cls ≠ "java/lang/invoke/VarHandle" ∧ (parseMethodDescriptor yX11_made.desc).map (fun d => d.parameters.length) = some 5 := ⟨by decide, by decide, by decide +kernel⟩
  have hroomR : 4 + 1 ≤ (lu_R G).frames ∧ 8 + (5 + 11) + 95 ≤ (lu_R G).locals := ⟨Nat.le_trans hfr X.hfr, Nat.le_trans hlo X.hlo⟩
  have hblind : FrameBlind (va_Pc [.int kd, .int u, .int g, .int w, .ref rr] (lu_mP (lu_D G) (lu_cs G) H.size)) := fun a U g mk q => by
    obtain ⟨q0, q1, qK⟩ := q
    exact ⟨q0, q1, va_K.moved (u := U) (U := U.calling g mk a) (Vm.Alike.refl U.vm) qK⟩
  have hws : ∀ w0 ∈ (Cond.code yX11_made cX11_made 5 (some (.object "LeftUndoes$Hand")) :: lu_ws), w0 ∈ lu_ws := fun w0 hw => by
    rcases List.mem_cons.mp hw with rfl | hw
    · exact hw_cm
    · exact hw
  have hrun : va_Run (lu_p G) (lu_l G) (lu_e G) (lu_R G) (lu_s G) (lu_m G) (lu_a G) (lu_b G) (lu_me G) (lu_c G) H locs k n 1 6 (F0 (lu_m G) pc ls (.ref rr :: .int w :: .int g :: .int u :: .int kd :: rest)) rest (lu_mQ (lu_D G) H.size kd u g w rr ([.int kd, .int u, .int g, .int w, .ref rr] : List Value).toArray) (fun q => H.size ≤ q) := by
    rcases ml with ml | ml
    · exact va_runS (As := [.int kd, .int u, .int g, .int w, .ref rr]) ⟨X.hx, X.hb, X.hml, X.hown, X.hts⟩ hM (va_cwS 5 X.hts (lu_gi (fun w0 hw => by
        simp only [va_wsS, List.cons_append, List.nil_append, List.mem_cons] at hw
        rcases hw with rfl | rfl | rfl | rfl | hw
        all_goals first | exact ml | exact hw_st | exact hw_i11 | exact hw_cm | exact hw)) rfl rfl rfl hd hroomR) ⟨hblind, fun U hU hW => ⟨rfl, by rw [hU], va_K.moved hW.alike X.hK⟩⟩ rfl rfl hl.1 rfl (lv_room hroom) d hk
    · exact va_runSN (As := [.int kd, .int u, .int g, .int w, .ref rr]) ⟨X.hx, X.hb, X.hml, X.hown, X.hts⟩ hM ⟨va_cnB (host := RX11) 5 X.hts (lu_gi hws) rfl rfl rfl (X.hN.1 _ ml) (X.hts _ hw_i11) hd hroomR, X.hts _ hw_st, trivial⟩ ⟨hblind, fun U hU hW => ⟨rfl, by rw [hU], va_K.moved hW.alike X.hK⟩⟩ rfl rfl hl.1 rfl (lv_room hroom) d hk
  intro T0 hT X0
  obtain ⟨v, st₀, t, T', L, h0, X', hL, e1, e2, ⟨a, hv, ha, hp, hz, hkp⟩, st⟩ := hrun T0 hT X0
  cases hv
  rw [h0] at hz hkp
  have hkq : ∀ (j : Nat) (q : Nat × va_E), (lu_W T (lu_cs G) ρ m ++ ex)[j]? = some q → t.heap[q.1]? = H[q.1]? := fun j q hj => hkp q.1 (hP j q hj).lt (fun z => by have := (hP j q hj).lt; omega)
  have hP1 : va_P (lu_D G) lu_cl (lu_W T (lu_cs G) ρ m ++ (ex ++ [(a, .inr (lu_hk kd, lu_hnew (lu_kd kd) u g w rr))])) T'.heap := by
    rw [← List.append_assoc, e1]
    exact (hP.kept hkq).app hp
  have hAa : lu_A G a := X.hA a (Nat.le_trans hS.1 ha)
  have hD1 : va_D (lu_A G) (lu_W T (lu_cs G) ρ m ++ (ex ++ [(a, .inr (lu_hk kd, lu_hnew (lu_kd kd) u g w rr))])) := by
    rw [← List.append_assoc]
    refine va_D.app hD ⟨fun i j p q hi hj _ => ?_, fun j q hj => ?_⟩ (fun i j p q hi hj e => ?_)
    · have h1 := (List.getElem?_eq_some_iff.mp hi).1
      have h2 := (List.getElem?_eq_some_iff.mp hj).1
      simp only [List.length_singleton] at h1 h2
      omega
    · have h1 := (List.getElem?_eq_some_iff.mp hj).1
      simp only [List.length_singleton] at h1
      rw [show j = 0 by omega] at hj
      cases hj
      exact hAa
    · have h1 := (List.getElem?_eq_some_iff.mp hj).1
      simp only [List.length_singleton] at h1
      rw [show j = 0 by omega] at hj
      cases hj
      have := (hP i p hi).lt
      have e : p.1 = a := e
      omega
  have hS1 : va_S (lu_A G) (lu_s G).heap T'.heap (locs ++ L) := by
    refine ⟨Nat.le_trans hS.1 (by rw [e1]; exact hz), fun q h1 h2 => by rw [e1, hkp q (Nat.lt_of_lt_of_le h1 hS.1) (fun z => h2 (X.hA q (Nat.le_trans hS.1 z)))]; exact hS.2.1 q h1 h2, fun q hq => ?_⟩
    rcases List.mem_append.mp hq with h | h
    · exact hS.2.2 q h
    · exact X.hA _ (Nat.le_trans hS.1 (hL q h))
  obtain ⟨t2, a1, b1⟩ := kk a b hb T'.heap (locs ++ L) ls hl hP1 hD1 hS1 T' rfl X'
  exact ⟨t2, st t2 a1, b1⟩
end LUM
