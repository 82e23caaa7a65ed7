/-! ROWS: an instruction, a row, against a function of the memory -/
/-- what a walk has fixed: program, launch, choices, room, start, method, arguments, frames below, method, code, what it may write, class numbers, array classes, text constants, how many locals -/
abbrev lu_G : Type := Program × Launch × Env × Room × State × MethodId × (Array Value) × (List Frame) × Method × Code × (Nat → Prop) × va_G × (Nat → ClassId) × (Nat → Nat) × Nat
abbrev lu_p (G : lu_G) := G.1
abbrev lu_l (G : lu_G) := G.2.1
abbrev lu_e (G : lu_G) := G.2.2.1
abbrev lu_R (G : lu_G) := G.2.2.2.1
abbrev lu_s (G : lu_G) := G.2.2.2.2.1
abbrev lu_m (G : lu_G) := G.2.2.2.2.2.1
abbrev lu_a (G : lu_G) := G.2.2.2.2.2.2.1
abbrev lu_b (G : lu_G) := G.2.2.2.2.2.2.2.1
abbrev lu_me (G : lu_G) := G.2.2.2.2.2.2.2.2.1
abbrev lu_c (G : lu_G) := G.2.2.2.2.2.2.2.2.2.1
abbrev lu_A (G : lu_G) := G.2.2.2.2.2.2.2.2.2.2.1
abbrev lu_D (G : lu_G) := G.2.2.2.2.2.2.2.2.2.2.2.1
abbrev lu_cs (G : lu_G) := G.2.2.2.2.2.2.2.2.2.2.2.2.1
abbrev lu_sa (G : lu_G) := G.2.2.2.2.2.2.2.2.2.2.2.2.2.1
abbrev lu_nL (G : lu_G) := G.2.2.2.2.2.2.2.2.2.2.2.2.2.2
def lu_Ab {β : Type} (T : lu_T) (G : lu_G) (Q : β → State → Prop) (o : Option β) (pc : Nat) (lv : List (Nat × Value)) (st : List Value) (ρ : Nat → Nat) (k n : Nat) (ex : va_W) (m : lu_M) : Prop :=
  ∀ b : β, o = some b → ∀ (H : Heap) (locs : List Loc) (ls : Array Slot), lv_has ls (lu_nL G) lv → va_P (lu_D G) lu_cl (lu_W T (lu_cs G) ρ m ++ ex) H → va_D (lu_A G) (lu_W T (lu_cs G) ρ m ++ ex) → va_S (lu_A G) (lu_s G).heap H locs → W (lu_p G) (lu_l G) (lu_e G) (lu_R G) (lu_s G) (lu_m G) (lu_a G) (lu_b G) (lu_me G) (lu_c G) H locs k n (Q b) (F0 (lu_m G) pc ls st)
def lu_X (G : lu_G) (own : String) (cc : ByteArray) (nL fr lo : Nat) : Prop :=
  (lu_p G).tables.exec = Jvm.exec ∧ (lu_c G).code = cc ∧ (lu_c G).maxLocals = lu_nL G ∧ lu_nL G = nL ∧ (lu_s G).vm.findClass own = some (lu_m G).cls ∧ (∀ w ∈ lu_ws, w.before (lu_a G) (lu_s G) = true) ∧ va_K (lu_D G) lu_cl (lu_tys (lu_cs G)) (lu_s G) ∧ (lu_me G).locks = false ∧ (∀ q, (lu_s G).heap.size ≤ q → lu_A G q) ∧ lu_Sx (lu_sa G) (lu_A G) (lu_s G) (lu_s G).heap ∧ lu_N (lu_sa G) (lu_s G) ∧ fr ≤ (lu_R G).frames ∧ lo ≤ (lu_R G).locals
theorem lu_X.hx {G : lu_G} {own : String} {cc : ByteArray} {nL fr lo : Nat} (X : lu_X G own cc nL fr lo) : (lu_p G).tables.exec = Jvm.exec := X.1
theorem lu_X.hb {G : lu_G} {own : String} {cc : ByteArray} {nL fr lo : Nat} (X : lu_X G own cc nL fr lo) : (lu_c G).code = cc := X.2.1
theorem lu_X.hml {G : lu_G} {own : String} {cc : ByteArray} {nL fr lo : Nat} (X : lu_X G own cc nL fr lo) : (lu_c G).maxLocals = lu_nL G := X.2.2.1
theorem lu_X.hnL {G : lu_G} {own : String} {cc : ByteArray} {nL fr lo : Nat} (X : lu_X G own cc nL fr lo) : lu_nL G = nL := X.2.2.2.1
theorem lu_X.hown {G : lu_G} {own : String} {cc : ByteArray} {nL fr lo : Nat} (X : lu_X G own cc nL fr lo) : (lu_s G).vm.findClass own = some (lu_m G).cls := X.2.2.2.2.1
theorem lu_X.hts {G : lu_G} {own : String} {cc : ByteArray} {nL fr lo : Nat} (X : lu_X G own cc nL fr lo) : ∀ w ∈ lu_ws, w.before (lu_a G) (lu_s G) = true := X.2.2.2.2.2.1
theorem lu_X.hK {G : lu_G} {own : String} {cc : ByteArray} {nL fr lo : Nat} (X : lu_X G own cc nL fr lo) : va_K (lu_D G) lu_cl (lu_tys (lu_cs G)) (lu_s G) := X.2.2.2.2.2.2.1
theorem lu_X.hlk {G : lu_G} {own : String} {cc : ByteArray} {nL fr lo : Nat} (X : lu_X G own cc nL fr lo) : (lu_me G).locks = false := X.2.2.2.2.2.2.2.1
theorem lu_X.hA {G : lu_G} {own : String} {cc : ByteArray} {nL fr lo : Nat} (X : lu_X G own cc nL fr lo) : ∀ q, (lu_s G).heap.size ≤ q → lu_A G q := X.2.2.2.2.2.2.2.2.1
theorem lu_X.hSx {G : lu_G} {own : String} {cc : ByteArray} {nL fr lo : Nat} (X : lu_X G own cc nL fr lo) : lu_Sx (lu_sa G) (lu_A G) (lu_s G) (lu_s G).heap := X.2.2.2.2.2.2.2.2.2.1
theorem lu_X.hN {G : lu_G} {own : String} {cc : ByteArray} {nL fr lo : Nat} (X : lu_X G own cc nL fr lo) : lu_N (lu_sa G) (lu_s G) := X.2.2.2.2.2.2.2.2.2.2.1
theorem lu_X.hfr {G : lu_G} {own : String} {cc : ByteArray} {nL fr lo : Nat} (X : lu_X G own cc nL fr lo) : fr ≤ (lu_R G).frames := X.2.2.2.2.2.2.2.2.2.2.2.1
theorem lu_X.hlo {G : lu_G} {own : String} {cc : ByteArray} {nL fr lo : Nat} (X : lu_X G own cc nL fr lo) : lo ≤ (lu_R G).locals := X.2.2.2.2.2.2.2.2.2.2.2.2
/-- a name for what is computed; a test; a call's answer -/
def lu_nm {α β : Type} (x : α) (K : α → β) : β := K x
def lu_gd {β : Type} (b : Bool) (o : Option β) : Option β := if b then o else none
def lu_ib (i : Int32) (n : Nat) : Bool := decide (0 ≤ i.toInt) && decide (i.toInt < n)
def lu_bi {α β : Type} (o : Option (α × lu_M)) (K : α → lu_M → Option β) : Option β := o.bind fun b => K b.1 b.2
def lu_bv {β : Type} (o : Option lu_M) (K : lu_M → Option β) : Option β := o.bind K
theorem lu_ib_in {i : Int32} {n : Nat} (h : lu_ib i n = true) : vp_in i n := by
  simp only [lu_ib, Bool.and_eq_true, decide_eq_true_eq] at h
  exact vp_in_iff.mpr h
theorem lu_ib_lt {i : Int32} {n : Nat} (h : lu_ib i n = true) : i.toNatClampNeg < n := by
  have := lu_ib_in h
  exact Nat.not_le.mp fun q => this (Or.inr q)
section LUR
variable {β : Type} {T : lu_T} {G : lu_G} {Q : β → State → Prop} {o o1 o2 : Option β} {pc pc2 tgt : Nat} {lv lv2 : List (Nat × Value)} {st : List Value} {ρ : Nat → Nat} {k n : Nat} {ex : va_W} {m : lu_M} {own : String} {cc : ByteArray} {nL fr lo : Nat}
theorem lu_none : lu_Ab T G Q none pc lv st ρ k n ex m := fun b h => by cases h
theorem lu_gdr {b : Bool} (kk : b = true → lu_Ab T G Q o pc lv st ρ k n ex m) : lu_Ab T G Q (lu_gd b o) pc lv st ρ k n ex m := by
  cases b
  · exact lu_none
  · exact kk rfl
theorem lu_nmr {α : Type} {x : α} {K : α → Option β} {lvf : α → List (Nat × Value)} {stf : α → List Value} {mf : α → lu_M} (kk : ∀ y : α, lu_Ab T G Q (K y) pc (lvf y) (stf y) ρ k n ex (mf y)) : lu_Ab T G Q (lu_nm x K) pc (lvf x) (stf x) ρ k n ex (mf x) := kk x
theorem lu_ite {c : Prop} [Decidable c] (kt : c → lu_Ab T G Q o1 pc lv st ρ k n ex m) (kf : ¬ c → lu_Ab T G Q o2 pc lv st ρ k n ex m) : lu_Ab T G Q (if c then o1 else o2) pc lv st ρ k n ex m := by
  by_cases h : c
  · rw [if_pos h]; exact kt h
  · rw [if_neg h]; exact kf h
theorem lu_sub (ks : List Nat) (h : lv_pick lv ks = lv2) (kk : lu_Ab T G Q o pc lv2 st ρ k n ex m) : lu_Ab T G Q o pc lv st ρ k n ex m := fun b hb H locs ls hl hP hD hS => kk b hb H locs ls (lv_sub hl ks h) hP hD hS
theorem lu_iconst (X : lu_X G own cc nL fr lo) {z : Int} {v : Int32} (d : decode cc pc = .ok (.iconst z, 1)) (hp : pc + 1 = pc2) (hv : Int32.ofInt z = v) (kk : lu_Ab T G Q o pc2 lv (.int v :: st) ρ k n ex m) : lu_Ab T G Q o pc lv (st) ρ k n ex m := by
  subst hp
  exact fun b hb H locs ls hl hP hD hS => lv_iconst X.hx X.hb d hv (kk b hb H locs ls hl hP hD hS)
theorem lu_bipush (X : lu_X G own cc nL fr lo) {z : Int} {v : Int32} (d : decode cc pc = .ok (.bipush z, 2)) (hp : pc + 2 = pc2) (hv : (Int8.ofInt z).toInt32 = v) (kk : lu_Ab T G Q o pc2 lv (.int v :: st) ρ k n ex m) : lu_Ab T G Q o pc lv (st) ρ k n ex m := by
  subst hp
  exact fun b hb H locs ls hl hP hD hS => lv_bipush X.hx X.hb d hv (kk b hb H locs ls hl hP hD hS)
theorem lu_sipush (X : lu_X G own cc nL fr lo) {z : Int} {v : Int32} (d : decode cc pc = .ok (.sipush z, 3)) (hp : pc + 3 = pc2) (hv : (Int16.ofInt z).toInt32 = v) (kk : lu_Ab T G Q o pc2 lv (.int v :: st) ρ k n ex m) : lu_Ab T G Q o pc lv (st) ρ k n ex m := by
  subst hp
  exact fun b hb H locs ls hl hP hD hS => lv_sipush X.hx X.hb d hv (kk b hb H locs ls hl hP hD hS)
theorem lu_lconst (X : lu_X G own cc nL fr lo) {z : Fin 2} {v : Int64} (d : decode cc pc = .ok (.lconst z, 1)) (hp : pc + 1 = pc2) (hv : Int64.ofNat (z : Nat) = v) (kk : lu_Ab T G Q o pc2 lv (.long v :: st) ρ k n ex m) : lu_Ab T G Q o pc lv (st) ρ k n ex m := by
  subst hp
  exact fun b hb H locs ls hl hP hD hS => lv_lconst X.hx X.hb d hv (kk b hb H locs ls hl hP hD hS)
theorem lu_iload_n (X : lu_X G own cc nL fr lo) {f : Fin 4} {i : Nat} {x : Int32} (d : decode cc pc = .ok (.iload_n f, 1)) (hp : pc + 1 = pc2) (hi : (f : Nat) = i) (j : Nat) (h : lv[j]? = some (i, .int x)) (kk : lu_Ab T G Q o pc2 lv (.int x :: st) ρ k n ex m) : lu_Ab T G Q o pc lv (st) ρ k n ex m := by
  subst hp
  exact fun b hb H locs ls hl hP hD hS => lv_iload_n X.hx X.hb d hi (lv_at hl j h) (kk b hb H locs ls hl hP hD hS)
theorem lu_iload (X : lu_X G own cc nL fr lo) {i : Nat} {x : Int32} (d : decode cc pc = .ok (.iload i, 2)) (hp : pc + 2 = pc2) (j : Nat) (h : lv[j]? = some (i, .int x)) (kk : lu_Ab T G Q o pc2 lv (.int x :: st) ρ k n ex m) : lu_Ab T G Q o pc lv (st) ρ k n ex m := by
  subst hp
  exact fun b hb H locs ls hl hP hD hS => lv_iload X.hx X.hb d (lv_at hl j h) (kk b hb H locs ls hl hP hD hS)
theorem lu_lload_n (X : lu_X G own cc nL fr lo) {f : Fin 4} {i : Nat} {x : Int64} (d : decode cc pc = .ok (.lload_n f, 1)) (hp : pc + 1 = pc2) (hi : (f : Nat) = i) (j : Nat) (h : lv[j]? = some (i, .long x)) (kk : lu_Ab T G Q o pc2 lv (.long x :: st) ρ k n ex m) : lu_Ab T G Q o pc lv (st) ρ k n ex m := by
  subst hp
  exact fun b hb H locs ls hl hP hD hS => lv_lload_n X.hx X.hb d hi (lv_at hl j h) (kk b hb H locs ls hl hP hD hS)
theorem lu_lload (X : lu_X G own cc nL fr lo) {i : Nat} {x : Int64} (d : decode cc pc = .ok (.lload i, 2)) (hp : pc + 2 = pc2) (j : Nat) (h : lv[j]? = some (i, .long x)) (kk : lu_Ab T G Q o pc2 lv (.long x :: st) ρ k n ex m) : lu_Ab T G Q o pc lv (st) ρ k n ex m := by
  subst hp
  exact fun b hb H locs ls hl hP hD hS => lv_lload X.hx X.hb d (lv_at hl j h) (kk b hb H locs ls hl hP hD hS)
theorem lu_aload_n (X : lu_X G own cc nL fr lo) {f : Fin 4} {i : Nat} {x : Nat} (d : decode cc pc = .ok (.aload_n f, 1)) (hp : pc + 1 = pc2) (hi : (f : Nat) = i) (j : Nat) (h : lv[j]? = some (i, .ref x)) (kk : lu_Ab T G Q o pc2 lv (.ref x :: st) ρ k n ex m) : lu_Ab T G Q o pc lv (st) ρ k n ex m := by
  subst hp
  exact fun b hb H locs ls hl hP hD hS => lv_aload_n X.hx X.hb d hi (lv_at hl j h) (kk b hb H locs ls hl hP hD hS)
theorem lu_aload (X : lu_X G own cc nL fr lo) {i : Nat} {x : Nat} (d : decode cc pc = .ok (.aload i, 2)) (hp : pc + 2 = pc2) (j : Nat) (h : lv[j]? = some (i, .ref x)) (kk : lu_Ab T G Q o pc2 lv (.ref x :: st) ρ k n ex m) : lu_Ab T G Q o pc lv (st) ρ k n ex m := by
  subst hp
  exact fun b hb H locs ls hl hP hD hS => lv_aload X.hx X.hb d (lv_at hl j h) (kk b hb H locs ls hl hP hD hS)
theorem lu_istore_n (X : lu_X G own cc nL fr lo) {f : Fin 4} {i : Nat} {x : Int32} (d : decode cc pc = .ok (.istore_n f, 1)) (hp : pc + 1 = pc2) (hi : (f : Nat) = i) (hn : i < nL) (hl2 : (i, Value.int x) :: lv.filter (fun q => !(q.1 == i) && !(q.1 + 1 == i && q.2.category == 2)) = lv2) (kk : lu_Ab T G Q o pc2 lv2 st ρ k n ex m) : lu_Ab T G Q o pc lv (.int x :: st) ρ k n ex m := by
  subst hp
  exact fun b hb H locs ls hl hP hD hS => lv_istore_n X.hx X.hb d hi hl (by rw [X.hnL]; exact hn) hl2 (fun ls hl => (kk b hb H locs ls hl hP hD hS))
theorem lu_istore (X : lu_X G own cc nL fr lo) {i : Nat} {x : Int32} (d : decode cc pc = .ok (.istore i, 2)) (hp : pc + 2 = pc2) (hn : i < nL) (hl2 : (i, Value.int x) :: lv.filter (fun q => !(q.1 == i) && !(q.1 + 1 == i && q.2.category == 2)) = lv2) (kk : lu_Ab T G Q o pc2 lv2 st ρ k n ex m) : lu_Ab T G Q o pc lv (.int x :: st) ρ k n ex m := by
  subst hp
  exact fun b hb H locs ls hl hP hD hS => lv_istore X.hx X.hb d hl (by rw [X.hnL]; exact hn) hl2 (fun ls hl => (kk b hb H locs ls hl hP hD hS))
theorem lu_lstore_n (X : lu_X G own cc nL fr lo) {f : Fin 4} {i : Nat} {x : Int64} (d : decode cc pc = .ok (.lstore_n f, 1)) (hp : pc + 1 = pc2) (hi : (f : Nat) = i) (hn : i + 1 < nL) (hl2 : (i, Value.long x) :: lv.filter (fun q => !(q.1 == i) && (!(q.1 == i + 1) && !(q.1 + 1 == i && q.2.category == 2))) = lv2) (kk : lu_Ab T G Q o pc2 lv2 st ρ k n ex m) : lu_Ab T G Q o pc lv (.long x :: st) ρ k n ex m := by
  subst hp
  exact fun b hb H locs ls hl hP hD hS => lv_lstore_n X.hx X.hb d hi hl (by rw [X.hnL]; exact hn) hl2 (fun ls hl => (kk b hb H locs ls hl hP hD hS))
theorem lu_lstore (X : lu_X G own cc nL fr lo) {i : Nat} {x : Int64} (d : decode cc pc = .ok (.lstore i, 2)) (hp : pc + 2 = pc2) (hn : i + 1 < nL) (hl2 : (i, Value.long x) :: lv.filter (fun q => !(q.1 == i) && (!(q.1 == i + 1) && !(q.1 + 1 == i && q.2.category == 2))) = lv2) (kk : lu_Ab T G Q o pc2 lv2 st ρ k n ex m) : lu_Ab T G Q o pc lv (.long x :: st) ρ k n ex m := by
  subst hp
  exact fun b hb H locs ls hl hP hD hS => lv_lstore X.hx X.hb d hl (by rw [X.hnL]; exact hn) hl2 (fun ls hl => (kk b hb H locs ls hl hP hD hS))
theorem lu_astore_n (X : lu_X G own cc nL fr lo) {f : Fin 4} {i : Nat} {x : Nat} (d : decode cc pc = .ok (.astore_n f, 1)) (hp : pc + 1 = pc2) (hi : (f : Nat) = i) (hn : i < nL) (hl2 : (i, Value.ref x) :: lv.filter (fun q => !(q.1 == i) && !(q.1 + 1 == i && q.2.category == 2)) = lv2) (kk : lu_Ab T G Q o pc2 lv2 st ρ k n ex m) : lu_Ab T G Q o pc lv (.ref x :: st) ρ k n ex m := by
  subst hp
  exact fun b hb H locs ls hl hP hD hS => lv_astore_n X.hx X.hb d hi hl (by rw [X.hnL]; exact hn) hl2 (fun ls hl => (kk b hb H locs ls hl hP hD hS))
theorem lu_astore (X : lu_X G own cc nL fr lo) {i : Nat} {x : Nat} (d : decode cc pc = .ok (.astore i, 2)) (hp : pc + 2 = pc2) (hn : i < nL) (hl2 : (i, Value.ref x) :: lv.filter (fun q => !(q.1 == i) && !(q.1 + 1 == i && q.2.category == 2)) = lv2) (kk : lu_Ab T G Q o pc2 lv2 st ρ k n ex m) : lu_Ab T G Q o pc lv (.ref x :: st) ρ k n ex m := by
  subst hp
  exact fun b hb H locs ls hl hP hD hS => lv_astore X.hx X.hb d hl (by rw [X.hnL]; exact hn) hl2 (fun ls hl => (kk b hb H locs ls hl hP hD hS))
theorem lu_iinc (X : lu_X G own cc nL fr lo) {i : Nat} {z : Int} {x v : Int32} (d : decode cc pc = .ok (.iinc i z, 3)) (hp : pc + 3 = pc2) (j : Nat) (h : lv[j]? = some (i, .int x)) (hv : x + Int32.ofInt z = v) (hn : i < nL) (hl2 : (i, Value.int v) :: lv.filter (fun q => !(q.1 == i) && !(q.1 + 1 == i && q.2.category == 2)) = lv2) (kk : lu_Ab T G Q o pc2 lv2 st ρ k n ex m) : lu_Ab T G Q o pc lv st ρ k n ex m := by
  subst hp
  exact fun b hb H locs ls hl hP hD hS => lv_iinc X.hx X.hb d hl h hv (by rw [X.hnL]; exact hn) hl2 (fun ls hl => (kk b hb H locs ls hl hP hD hS))
theorem lu_iadd (X : lu_X G own cc nL fr lo) {x y : Int32} (d : decode cc pc = .ok (.iadd, 1)) (hp : pc + 1 = pc2) (kk : lu_Ab T G Q o pc2 lv (.int (x + y) :: st) ρ k n ex m) : lu_Ab T G Q o pc lv (.int y :: .int x :: st) ρ k n ex m := by
  subst hp
  exact fun b hb H locs ls hl hP hD hS => lv_iadd X.hx X.hb d (kk b hb H locs ls hl hP hD hS)
theorem lu_isub (X : lu_X G own cc nL fr lo) {x y : Int32} (d : decode cc pc = .ok (.isub, 1)) (hp : pc + 1 = pc2) (kk : lu_Ab T G Q o pc2 lv (.int (x - y) :: st) ρ k n ex m) : lu_Ab T G Q o pc lv (.int y :: .int x :: st) ρ k n ex m := by
  subst hp
  exact fun b hb H locs ls hl hP hD hS => lv_isub X.hx X.hb d (kk b hb H locs ls hl hP hD hS)
theorem lu_imul (X : lu_X G own cc nL fr lo) {x y : Int32} (d : decode cc pc = .ok (.imul, 1)) (hp : pc + 1 = pc2) (kk : lu_Ab T G Q o pc2 lv (.int (x * y) :: st) ρ k n ex m) : lu_Ab T G Q o pc lv (.int y :: .int x :: st) ρ k n ex m := by
  subst hp
  exact fun b hb H locs ls hl hP hD hS => lv_imul X.hx X.hb d (kk b hb H locs ls hl hP hD hS)
theorem lu_iand (X : lu_X G own cc nL fr lo) {x y : Int32} (d : decode cc pc = .ok (.iand, 1)) (hp : pc + 1 = pc2) (kk : lu_Ab T G Q o pc2 lv (.int (x &&& y) :: st) ρ k n ex m) : lu_Ab T G Q o pc lv (.int y :: .int x :: st) ρ k n ex m := by
  subst hp
  exact fun b hb H locs ls hl hP hD hS => lv_iand X.hx X.hb d (kk b hb H locs ls hl hP hD hS)
theorem lu_ior (X : lu_X G own cc nL fr lo) {x y : Int32} (d : decode cc pc = .ok (.ior, 1)) (hp : pc + 1 = pc2) (kk : lu_Ab T G Q o pc2 lv (.int (x ||| y) :: st) ρ k n ex m) : lu_Ab T G Q o pc lv (.int y :: .int x :: st) ρ k n ex m := by
  subst hp
  exact fun b hb H locs ls hl hP hD hS => lv_ior X.hx X.hb d (kk b hb H locs ls hl hP hD hS)
theorem lu_ixor (X : lu_X G own cc nL fr lo) {x y : Int32} (d : decode cc pc = .ok (.ixor, 1)) (hp : pc + 1 = pc2) (kk : lu_Ab T G Q o pc2 lv (.int (x ^^^ y) :: st) ρ k n ex m) : lu_Ab T G Q o pc lv (.int y :: .int x :: st) ρ k n ex m := by
  subst hp
  exact fun b hb H locs ls hl hP hD hS => lv_ixor X.hx X.hb d (kk b hb H locs ls hl hP hD hS)
theorem lu_ishl (X : lu_X G own cc nL fr lo) {x y : Int32} (d : decode cc pc = .ok (.ishl, 1)) (hp : pc + 1 = pc2) (kk : lu_Ab T G Q o pc2 lv (.int (x <<< (y &&& 31)) :: st) ρ k n ex m) : lu_Ab T G Q o pc lv (.int y :: .int x :: st) ρ k n ex m := by
  subst hp
  exact fun b hb H locs ls hl hP hD hS => lv_ishl X.hx X.hb d (kk b hb H locs ls hl hP hD hS)
theorem lu_ishr (X : lu_X G own cc nL fr lo) {x y : Int32} (d : decode cc pc = .ok (.ishr, 1)) (hp : pc + 1 = pc2) (kk : lu_Ab T G Q o pc2 lv (.int (x >>> (y &&& 31)) :: st) ρ k n ex m) : lu_Ab T G Q o pc lv (.int y :: .int x :: st) ρ k n ex m := by
  subst hp
  exact fun b hb H locs ls hl hP hD hS => lv_ishr X.hx X.hb d (kk b hb H locs ls hl hP hD hS)
theorem lu_ladd (X : lu_X G own cc nL fr lo) {x y : Int64} (d : decode cc pc = .ok (.ladd, 1)) (hp : pc + 1 = pc2) (kk : lu_Ab T G Q o pc2 lv (.long (x + y) :: st) ρ k n ex m) : lu_Ab T G Q o pc lv (.long y :: .long x :: st) ρ k n ex m := by
  subst hp
  exact fun b hb H locs ls hl hP hD hS => lv_ladd X.hx X.hb d (kk b hb H locs ls hl hP hD hS)
theorem lu_lmul (X : lu_X G own cc nL fr lo) {x y : Int64} (d : decode cc pc = .ok (.lmul, 1)) (hp : pc + 1 = pc2) (kk : lu_Ab T G Q o pc2 lv (.long (x * y) :: st) ρ k n ex m) : lu_Ab T G Q o pc lv (.long y :: .long x :: st) ρ k n ex m := by
  subst hp
  exact fun b hb H locs ls hl hP hD hS => lv_lmul X.hx X.hb d (kk b hb H locs ls hl hP hD hS)
theorem lu_land (X : lu_X G own cc nL fr lo) {x y : Int64} (d : decode cc pc = .ok (.land, 1)) (hp : pc + 1 = pc2) (kk : lu_Ab T G Q o pc2 lv (.long (x &&& y) :: st) ρ k n ex m) : lu_Ab T G Q o pc lv (.long y :: .long x :: st) ρ k n ex m := by
  subst hp
  exact fun b hb H locs ls hl hP hD hS => lv_land X.hx X.hb d (kk b hb H locs ls hl hP hD hS)
theorem lu_lor (X : lu_X G own cc nL fr lo) {x y : Int64} (d : decode cc pc = .ok (.lor, 1)) (hp : pc + 1 = pc2) (kk : lu_Ab T G Q o pc2 lv (.long (x ||| y) :: st) ρ k n ex m) : lu_Ab T G Q o pc lv (.long y :: .long x :: st) ρ k n ex m := by
  subst hp
  exact fun b hb H locs ls hl hP hD hS => lv_lor X.hx X.hb d (kk b hb H locs ls hl hP hD hS)
theorem lu_iushr (X : lu_X G own cc nL fr lo) {x y : Int32} (d : decode cc pc = .ok (.iushr, 1)) (hp : pc + 1 = pc2) (kk : lu_Ab T G Q o pc2 lv (.int ((x.toUInt32 >>> (y.toUInt32 &&& Int32.toUInt32 31)).toInt32) :: st) ρ k n ex m) : lu_Ab T G Q o pc lv (.int y :: .int x :: st) ρ k n ex m := by
  subst hp
  exact fun b hb H locs ls hl hP hD hS => lv_iushr X.hx X.hb d rfl (kk b hb H locs ls hl hP hD hS)
theorem lu_lushr (X : lu_X G own cc nL fr lo) {x : Int64} {y : Int32} (d : decode cc pc = .ok (.lushr, 1)) (hp : pc + 1 = pc2) (kk : lu_Ab T G Q o pc2 lv (.long ((x.toUInt64 >>> (y.toInt64.toUInt64 &&& Int64.toUInt64 63)).toInt64) :: st) ρ k n ex m) : lu_Ab T G Q o pc lv (.int y :: .long x :: st) ρ k n ex m := by
  subst hp
  exact fun b hb H locs ls hl hP hD hS => lv_lushr X.hx X.hb d rfl (kk b hb H locs ls hl hP hD hS)
theorem lu_lshl (X : lu_X G own cc nL fr lo) {x : Int64} {y : Int32} (d : decode cc pc = .ok (.lshl, 1)) (hp : pc + 1 = pc2) (kk : lu_Ab T G Q o pc2 lv (.long (x <<< (y.toInt64 &&& 63)) :: st) ρ k n ex m) : lu_Ab T G Q o pc lv (.int y :: .long x :: st) ρ k n ex m := by
  subst hp
  exact fun b hb H locs ls hl hP hD hS => lv_lshl X.hx X.hb d rfl (kk b hb H locs ls hl hP hD hS)
theorem lu_lshr (X : lu_X G own cc nL fr lo) {x : Int64} {y : Int32} (d : decode cc pc = .ok (.lshr, 1)) (hp : pc + 1 = pc2) (kk : lu_Ab T G Q o pc2 lv (.long (x >>> (y.toInt64 &&& 63)) :: st) ρ k n ex m) : lu_Ab T G Q o pc lv (.int y :: .long x :: st) ρ k n ex m := by
  subst hp
  exact fun b hb H locs ls hl hP hD hS => lv_lshr X.hx X.hb d rfl (kk b hb H locs ls hl hP hD hS)
theorem lu_i2l (X : lu_X G own cc nL fr lo) {x : Int32} (d : decode cc pc = .ok (.i2l, 1)) (hp : pc + 1 = pc2) (kk : lu_Ab T G Q o pc2 lv (.long x.toInt64 :: st) ρ k n ex m) : lu_Ab T G Q o pc lv (.int x :: st) ρ k n ex m := by
  subst hp
  exact fun b hb H locs ls hl hP hD hS => lv_i2l X.hx X.hb d rfl (kk b hb H locs ls hl hP hD hS)
theorem lu_l2i (X : lu_X G own cc nL fr lo) {x : Int64} (d : decode cc pc = .ok (.l2i, 1)) (hp : pc + 1 = pc2) (kk : lu_Ab T G Q o pc2 lv (.int x.toInt32 :: st) ρ k n ex m) : lu_Ab T G Q o pc lv (.long x :: st) ρ k n ex m := by
  subst hp
  exact fun b hb H locs ls hl hP hD hS => lv_l2i X.hx X.hb d rfl (kk b hb H locs ls hl hP hD hS)
theorem lu_i2b (X : lu_X G own cc nL fr lo) {x : Int32} (d : decode cc pc = .ok (.i2b, 1)) (hp : pc + 1 = pc2) (kk : lu_Ab T G Q o pc2 lv (.int x.toInt8.toInt32 :: st) ρ k n ex m) : lu_Ab T G Q o pc lv (.int x :: st) ρ k n ex m := by
  subst hp
  exact fun b hb H locs ls hl hP hD hS => lv_i2b X.hx X.hb d rfl (kk b hb H locs ls hl hP hD hS)
theorem lu_i2s (X : lu_X G own cc nL fr lo) {x : Int32} (d : decode cc pc = .ok (.i2s, 1)) (hp : pc + 1 = pc2) (kk : lu_Ab T G Q o pc2 lv (.int x.toInt16.toInt32 :: st) ρ k n ex m) : lu_Ab T G Q o pc lv (.int x :: st) ρ k n ex m := by
  subst hp
  exact fun b hb H locs ls hl hP hD hS => lv_i2s X.hx X.hb d rfl (kk b hb H locs ls hl hP hD hS)
theorem lu_lcmp (X : lu_X G own cc nL fr lo) {x y : Int64} (d : decode cc pc = .ok (.lcmp, 1)) (hp : pc + 1 = pc2) (kk : lu_Ab T G Q o pc2 lv (.int (lg_cmp x y) :: st) ρ k n ex m) : lu_Ab T G Q o pc lv (.long y :: .long x :: st) ρ k n ex m := by
  subst hp
  exact fun b hb H locs ls hl hP hD hS => W.lcmp X.hx X.hb d (kk b hb H locs ls hl hP hD hS)
theorem lu_dup (X : lu_X G own cc nL fr lo) {v : Value} (d : decode cc pc = .ok (.dup, 1)) (hp : pc + 1 = pc2) (hv : v.category = 1) (kk : lu_Ab T G Q o pc2 lv (v :: v :: st) ρ k n ex m) : lu_Ab T G Q o pc lv (v :: st) ρ k n ex m := by
  subst hp
  exact fun b hb H locs ls hl hP hD hS => lv_dup X.hx X.hb d hv (kk b hb H locs ls hl hP hD hS)
theorem lu_pop (X : lu_X G own cc nL fr lo) {v : Value} (d : decode cc pc = .ok (.pop, 1)) (hp : pc + 1 = pc2) (hv : v.category = 1) (kk : lu_Ab T G Q o pc2 lv (st) ρ k n ex m) : lu_Ab T G Q o pc lv (v :: st) ρ k n ex m := by
  subst hp
  exact fun b hb H locs ls hl hP hD hS => lv_pop X.hx X.hb d hv (kk b hb H locs ls hl hP hD hS)
theorem lu_dup_x1 (X : lu_X G own cc nL fr lo) {v w : Value} (d : decode cc pc = .ok (.dup_x1, 1)) (hp : pc + 1 = pc2) (hv : v.category = 1) (hw : w.category = 1) (kk : lu_Ab T G Q o pc2 lv (v :: w :: v :: st) ρ k n ex m) : lu_Ab T G Q o pc lv (v :: w :: st) ρ k n ex m := by
  subst hp
  exact fun b hb H locs ls hl hP hD hS => lv_dup_x1 X.hx X.hb d hv hw (kk b hb H locs ls hl hP hD hS)
theorem lu_dup_x2 (X : lu_X G own cc nL fr lo) {v w z : Value} (d : decode cc pc = .ok (.dup_x2, 1)) (hp : pc + 1 = pc2) (hv : v.category = 1) (hw : w.category = 1) (hz : z.category = 1) (kk : lu_Ab T G Q o pc2 lv (v :: w :: z :: v :: st) ρ k n ex m) : lu_Ab T G Q o pc lv (v :: w :: z :: st) ρ k n ex m := by
  subst hp
  exact fun b hb H locs ls hl hP hD hS => lv_dup_x2 X.hx X.hb d hv hw hz (kk b hb H locs ls hl hP hD hS)
theorem lu_dup2 (X : lu_X G own cc nL fr lo) {v w : Value} (d : decode cc pc = .ok (.dup2, 1)) (hp : pc + 1 = pc2) (hv : v.category = 1) (hw : w.category = 1) (kk : lu_Ab T G Q o pc2 lv (v :: w :: v :: w :: st) ρ k n ex m) : lu_Ab T G Q o pc lv (v :: w :: st) ρ k n ex m := by
  subst hp
  exact fun b hb H locs ls hl hP hD hS => lv_dup2_11 X.hx X.hb d hv hw (kk b hb H locs ls hl hP hD hS)
theorem lu_idiv (X : lu_X G own cc nL fr lo) {x y : Int32} (d : decode cc pc = .ok (.idiv, 1)) (hp : pc + 1 = pc2) (kk : lu_Ab T G Q o pc2 lv (.int (x / y) :: st) ρ k n ex m) : lu_Ab T G Q (lu_gd (decide (¬ y = 0)) o) pc lv (.int y :: .int x :: st) ρ k n ex m := by
  subst hp
  exact lu_gdr (fun g => fun b hb H locs ls hl hP hD hS => lv_idiv X.hx X.hb d (of_decide_eq_true g) (kk b hb H locs ls hl hP hD hS))
theorem lu_idivK (X : lu_X G own cc nL fr lo) {x y : Int32} (d : decode cc pc = .ok (.idiv, 1)) (hp : pc + 1 = pc2) (hy : decide (y = 0) = false) (kk : lu_Ab T G Q o pc2 lv (.int (x / y) :: st) ρ k n ex m) : lu_Ab T G Q o pc lv (.int y :: .int x :: st) ρ k n ex m := by
  subst hp
  exact fun b hb H locs ls hl hP hD hS => lv_idiv X.hx X.hb d (of_decide_eq_false hy) (kk b hb H locs ls hl hP hD hS)
theorem lu_irem (X : lu_X G own cc nL fr lo) {x y : Int32} (d : decode cc pc = .ok (.irem, 1)) (hp : pc + 1 = pc2) (kk : lu_Ab T G Q o pc2 lv (.int (x - x / y * y) :: st) ρ k n ex m) : lu_Ab T G Q (lu_gd (decide (¬ y = 0)) o) pc lv (.int y :: .int x :: st) ρ k n ex m := by
  subst hp
  exact lu_gdr (fun g => fun b hb H locs ls hl hP hD hS => lv_irem X.hx X.hb d (of_decide_eq_true g) (kk b hb H locs ls hl hP hD hS))
theorem lu_iremK (X : lu_X G own cc nL fr lo) {x y : Int32} (d : decode cc pc = .ok (.irem, 1)) (hp : pc + 1 = pc2) (hy : decide (y = 0) = false) (kk : lu_Ab T G Q o pc2 lv (.int (x - x / y * y) :: st) ρ k n ex m) : lu_Ab T G Q o pc lv (.int y :: .int x :: st) ρ k n ex m := by
  subst hp
  exact fun b hb H locs ls hl hP hD hS => lv_irem X.hx X.hb d (of_decide_eq_false hy) (kk b hb H locs ls hl hP hD hS)
theorem lu_if_eq (X : lu_X G own cc nL fr lo) {x : Int32} {off : Int} (d : decode cc pc = .ok (.ifCond .eq off, 3)) (hp : pc + 3 = pc2) (ht : (pc : Int) + off = (tgt : Int)) (kt : x = 0 → lu_Ab T G Q o1 tgt lv st ρ k n ex m) (kf : ¬ x = 0 → lu_Ab T G Q o2 pc2 lv st ρ k n ex m) : lu_Ab T G Q (if x = 0 then o1 else o2) pc lv (.int x :: st) ρ k n ex m := by
  subst hp
  intro b hb H locs ls hl hP hD hS
  refine lv_if_eq X.hx X.hb d ht (fun c => ?_) (fun c => ?_)
  · rw [if_pos c] at hb; exact kt c b hb H locs ls hl hP hD hS
  · rw [if_neg c] at hb; exact kf c b hb H locs ls hl hP hD hS
theorem lu_if_lt (X : lu_X G own cc nL fr lo) {x : Int32} {off : Int} (d : decode cc pc = .ok (.ifCond .lt off, 3)) (hp : pc + 3 = pc2) (ht : (pc : Int) + off = (tgt : Int)) (kt : x < 0 → lu_Ab T G Q o1 tgt lv st ρ k n ex m) (kf : ¬ x < 0 → lu_Ab T G Q o2 pc2 lv st ρ k n ex m) : lu_Ab T G Q (if x < 0 then o1 else o2) pc lv (.int x :: st) ρ k n ex m := by
  subst hp
  intro b hb H locs ls hl hP hD hS
  refine lv_if_lt X.hx X.hb d ht (fun c => ?_) (fun c => ?_)
  · rw [if_pos c] at hb; exact kt c b hb H locs ls hl hP hD hS
  · rw [if_neg c] at hb; exact kf c b hb H locs ls hl hP hD hS
theorem lu_if_ge (X : lu_X G own cc nL fr lo) {x : Int32} {off : Int} (d : decode cc pc = .ok (.ifCond .ge off, 3)) (hp : pc + 3 = pc2) (ht : (pc : Int) + off = (tgt : Int)) (kt : 0 ≤ x → lu_Ab T G Q o1 tgt lv st ρ k n ex m) (kf : ¬ 0 ≤ x → lu_Ab T G Q o2 pc2 lv st ρ k n ex m) : lu_Ab T G Q (if 0 ≤ x then o1 else o2) pc lv (.int x :: st) ρ k n ex m := by
  subst hp
  intro b hb H locs ls hl hP hD hS
  refine lv_if_ge X.hx X.hb d ht (fun c => ?_) (fun c => ?_)
  · rw [if_pos c] at hb; exact kt c b hb H locs ls hl hP hD hS
  · rw [if_neg c] at hb; exact kf c b hb H locs ls hl hP hD hS
theorem lu_if_gt (X : lu_X G own cc nL fr lo) {x : Int32} {off : Int} (d : decode cc pc = .ok (.ifCond .gt off, 3)) (hp : pc + 3 = pc2) (ht : (pc : Int) + off = (tgt : Int)) (kt : 0 < x → lu_Ab T G Q o1 tgt lv st ρ k n ex m) (kf : ¬ 0 < x → lu_Ab T G Q o2 pc2 lv st ρ k n ex m) : lu_Ab T G Q (if 0 < x then o1 else o2) pc lv (.int x :: st) ρ k n ex m := by
  subst hp
  intro b hb H locs ls hl hP hD hS
  refine lv_if_gt X.hx X.hb d ht (fun c => ?_) (fun c => ?_)
  · rw [if_pos c] at hb; exact kt c b hb H locs ls hl hP hD hS
  · rw [if_neg c] at hb; exact kf c b hb H locs ls hl hP hD hS
theorem lu_if_le (X : lu_X G own cc nL fr lo) {x : Int32} {off : Int} (d : decode cc pc = .ok (.ifCond .le off, 3)) (hp : pc + 3 = pc2) (ht : (pc : Int) + off = (tgt : Int)) (kt : x ≤ 0 → lu_Ab T G Q o1 tgt lv st ρ k n ex m) (kf : ¬ x ≤ 0 → lu_Ab T G Q o2 pc2 lv st ρ k n ex m) : lu_Ab T G Q (if x ≤ 0 then o1 else o2) pc lv (.int x :: st) ρ k n ex m := by
  subst hp
  intro b hb H locs ls hl hP hD hS
  refine lv_if_le X.hx X.hb d ht (fun c => ?_) (fun c => ?_)
  · rw [if_pos c] at hb; exact kt c b hb H locs ls hl hP hD hS
  · rw [if_neg c] at hb; exact kf c b hb H locs ls hl hP hD hS
theorem lu_if_ne (X : lu_X G own cc nL fr lo) {x : Int32} {off : Int} (d : decode cc pc = .ok (.ifCond .ne off, 3)) (hp : pc + 3 = pc2) (ht : (pc : Int) + off = (tgt : Int)) (kt : ¬ x = 0 → lu_Ab T G Q o1 tgt lv st ρ k n ex m) (kf : x = 0 → lu_Ab T G Q o2 pc2 lv st ρ k n ex m) : lu_Ab T G Q (if x = 0 then o2 else o1) pc lv (.int x :: st) ρ k n ex m := by
  subst hp
  intro b hb H locs ls hl hP hD hS
  refine lv_if_ne X.hx X.hb d ht (fun c => ?_) (fun c => ?_)
  · rw [if_neg c] at hb; exact kt c b hb H locs ls hl hP hD hS
  · rw [if_pos c] at hb; exact kf c b hb H locs ls hl hP hD hS
theorem lu_icmp_eq (X : lu_X G own cc nL fr lo) {x y : Int32} {off : Int} (d : decode cc pc = .ok (.if_icmp .eq off, 3)) (hp : pc + 3 = pc2) (ht : (pc : Int) + off = (tgt : Int)) (kt : x = y → lu_Ab T G Q o1 tgt lv st ρ k n ex m) (kf : ¬ x = y → lu_Ab T G Q o2 pc2 lv st ρ k n ex m) : lu_Ab T G Q (if x = y then o1 else o2) pc lv (.int y :: .int x :: st) ρ k n ex m := by
  subst hp
  intro b hb H locs ls hl hP hD hS
  refine lv_icmp_eq X.hx X.hb d ht (fun c => ?_) (fun c => ?_)
  · rw [if_pos c] at hb; exact kt c b hb H locs ls hl hP hD hS
  · rw [if_neg c] at hb; exact kf c b hb H locs ls hl hP hD hS
theorem lu_icmp_lt (X : lu_X G own cc nL fr lo) {x y : Int32} {off : Int} (d : decode cc pc = .ok (.if_icmp .lt off, 3)) (hp : pc + 3 = pc2) (ht : (pc : Int) + off = (tgt : Int)) (kt : x < y → lu_Ab T G Q o1 tgt lv st ρ k n ex m) (kf : ¬ x < y → lu_Ab T G Q o2 pc2 lv st ρ k n ex m) : lu_Ab T G Q (if x < y then o1 else o2) pc lv (.int y :: .int x :: st) ρ k n ex m := by
  subst hp
  intro b hb H locs ls hl hP hD hS
  refine lv_icmp_lt X.hx X.hb d ht (fun c => ?_) (fun c => ?_)
  · rw [if_pos c] at hb; exact kt c b hb H locs ls hl hP hD hS
  · rw [if_neg c] at hb; exact kf c b hb H locs ls hl hP hD hS
theorem lu_icmp_ge (X : lu_X G own cc nL fr lo) {x y : Int32} {off : Int} (d : decode cc pc = .ok (.if_icmp .ge off, 3)) (hp : pc + 3 = pc2) (ht : (pc : Int) + off = (tgt : Int)) (kt : y ≤ x → lu_Ab T G Q o1 tgt lv st ρ k n ex m) (kf : ¬ y ≤ x → lu_Ab T G Q o2 pc2 lv st ρ k n ex m) : lu_Ab T G Q (if y ≤ x then o1 else o2) pc lv (.int y :: .int x :: st) ρ k n ex m := by
  subst hp
  intro b hb H locs ls hl hP hD hS
  refine lv_icmp_ge X.hx X.hb d ht (fun c => ?_) (fun c => ?_)
  · rw [if_pos c] at hb; exact kt c b hb H locs ls hl hP hD hS
  · rw [if_neg c] at hb; exact kf c b hb H locs ls hl hP hD hS
theorem lu_icmp_gt (X : lu_X G own cc nL fr lo) {x y : Int32} {off : Int} (d : decode cc pc = .ok (.if_icmp .gt off, 3)) (hp : pc + 3 = pc2) (ht : (pc : Int) + off = (tgt : Int)) (kt : y < x → lu_Ab T G Q o1 tgt lv st ρ k n ex m) (kf : ¬ y < x → lu_Ab T G Q o2 pc2 lv st ρ k n ex m) : lu_Ab T G Q (if y < x then o1 else o2) pc lv (.int y :: .int x :: st) ρ k n ex m := by
  subst hp
  intro b hb H locs ls hl hP hD hS
  refine lv_icmp_gt X.hx X.hb d ht (fun c => ?_) (fun c => ?_)
  · rw [if_pos c] at hb; exact kt c b hb H locs ls hl hP hD hS
  · rw [if_neg c] at hb; exact kf c b hb H locs ls hl hP hD hS
theorem lu_icmp_le (X : lu_X G own cc nL fr lo) {x y : Int32} {off : Int} (d : decode cc pc = .ok (.if_icmp .le off, 3)) (hp : pc + 3 = pc2) (ht : (pc : Int) + off = (tgt : Int)) (kt : x ≤ y → lu_Ab T G Q o1 tgt lv st ρ k n ex m) (kf : ¬ x ≤ y → lu_Ab T G Q o2 pc2 lv st ρ k n ex m) : lu_Ab T G Q (if x ≤ y then o1 else o2) pc lv (.int y :: .int x :: st) ρ k n ex m := by
  subst hp
  intro b hb H locs ls hl hP hD hS
  refine lv_icmp_le X.hx X.hb d ht (fun c => ?_) (fun c => ?_)
  · rw [if_pos c] at hb; exact kt c b hb H locs ls hl hP hD hS
  · rw [if_neg c] at hb; exact kf c b hb H locs ls hl hP hD hS
theorem lu_icmp_ne (X : lu_X G own cc nL fr lo) {x y : Int32} {off : Int} (d : decode cc pc = .ok (.if_icmp .ne off, 3)) (hp : pc + 3 = pc2) (ht : (pc : Int) + off = (tgt : Int)) (kt : ¬ x = y → lu_Ab T G Q o1 tgt lv st ρ k n ex m) (kf : x = y → lu_Ab T G Q o2 pc2 lv st ρ k n ex m) : lu_Ab T G Q (if x = y then o2 else o1) pc lv (.int y :: .int x :: st) ρ k n ex m := by
  subst hp
  intro b hb H locs ls hl hP hD hS
  refine lv_icmp_ne X.hx X.hb d ht (fun c => ?_) (fun c => ?_)
  · rw [if_neg c] at hb; exact kt c b hb H locs ls hl hP hD hS
  · rw [if_pos c] at hb; exact kf c b hb H locs ls hl hP hD hS
theorem lu_goto (X : lu_X G own cc nL fr lo) {off : Int} (d : decode cc pc = .ok (.goto off, 3)) (ht : (pc : Int) + off = (tgt : Int)) (kk : lu_Ab T G Q o tgt lv st ρ k n ex m) : lu_Ab T G Q o pc lv st ρ k n ex m := fun b hb H locs ls hl hP hD hS => lv_goto X.hx X.hb d ht (kk b hb H locs ls hl hP hD hS)
theorem lu_tsOut (X : lu_X G own cc nL fr lo) {dflt a z : Int} {offs : Array Int} {len : Nat} {x : Int32} (d : decode cc pc = .ok (.tableswitch dflt a z offs, len)) (h : x.toInt < a ∨ z < x.toInt) (ht : (pc : Int) + dflt = (tgt : Int)) (kk : lu_Ab T G Q o tgt lv st ρ k n ex m) : lu_Ab T G Q o pc lv (.int x :: st) ρ k n ex m := fun b hb H locs ls hl hP hD hS => lv_tableOut X.hx X.hb d h ht (kk b hb H locs ls hl hP hD hS)
theorem lu_tsIn (X : lu_X G own cc nL fr lo) {dflt a z : Int} {offs : Array Int} {len : Nat} {x y : Int32} {off : Int} (hxy : x = y) (d : decode cc pc = .ok (.tableswitch dflt a z offs, len)) (h1 : ¬ y.toInt < a) (h2 : ¬ z < y.toInt) (ho : offs[(y.toInt - a).toNat]? = some off) (ht : (pc : Int) + off = (tgt : Int)) (kk : lu_Ab T G Q o tgt lv st ρ k n ex m) : lu_Ab T G Q o pc lv (.int x :: st) ρ k n ex m := by
  subst hxy
  exact fun b hb H locs ls hl hP hD hS => lv_tableIn X.hx X.hb d h1 h2 ho ht (kk b hb H locs ls hl hP hD hS)
theorem lu_lsw (X : lu_X G own cc nL fr lo) {dflt : Int} {ps : Array (Int × Int)} {len : Nat} {x : Int32} {off : Int} (d : decode cc pc = .ok (.lookupswitch dflt ps, len)) (hq : (ps.toList.zip (ps.toList.drop 1)).all (fun (a, next) => a.1 < next.1) = true) (ho : Op.lookupswitch.offset ps.toList dflt x.toInt = off) (ht : (pc : Int) + off = (tgt : Int)) (kk : lu_Ab T G Q o tgt lv st ρ k n ex m) : lu_Ab T G Q o pc lv (.int x :: st) ρ k n ex m := fun b hb H locs ls hl hP hD hS => lv_lookup X.hx X.hb d hq ho ht (kk b hb H locs ls hl hP hD hS)
theorem lu_ldc (X : lu_X G own cc nL fr lo) {i : Nat} {v : Int32} (hw : Cond.constant own i v ∈ lu_ws) (d : decode cc pc = .ok (.ldc i, 2)) (hp : pc + 2 = pc2) (kk : lu_Ab T G Q o pc2 lv (.int v :: st) ρ k n ex m) : lu_Ab T G Q o pc lv st ρ k n ex m := by
  subst hp
  exact fun b hb H locs ls hl hP hD hS => lv_ldc X.hx X.hb X.hown (X.hts _ hw) d (kk b hb H locs ls hl hP hD hS)
theorem lu_ldc_w (X : lu_X G own cc nL fr lo) {i : Nat} {v : Int32} (hw : Cond.constant own i v ∈ lu_ws) (d : decode cc pc = .ok (.ldc_w i, 3)) (hp : pc + 3 = pc2) (kk : lu_Ab T G Q o pc2 lv (.int v :: st) ρ k n ex m) : lu_Ab T G Q o pc lv st ρ k n ex m := by
  subst hp
  exact fun b hb H locs ls hl hP hD hS => lv_ldcw X.hx X.hb X.hown (X.hts _ hw) d (kk b hb H locs ls hl hP hD hS)
theorem lu_ldc2 (X : lu_X G own cc nL fr lo) {i : Nat} {v : Int64} (hw : Cond.constantLong own i v ∈ lu_ws) (d : decode cc pc = .ok (.ldc2_w i, 3)) (hp : pc + 3 = pc2) (kk : lu_Ab T G Q o pc2 lv (.long v :: st) ρ k n ex m) : lu_Ab T G Q o pc lv st ρ k n ex m := by
  subst hp
  exact fun b hb H locs ls hl hP hD hS => lv_ldc2 X.hx X.hb X.hown (X.hts _ hw) d (kk b hb H locs ls hl hP hD hS)
theorem lu_ldcS {i j : Nat} {tx : String} (X : lu_X G RX8 cc nL fr lo) (hj : lu_sx[j]? = some (i, tx)) (d : decode cc pc = .ok (.ldc i, 2)) (hp : pc + 2 = pc2) (kk : lu_Ab T G Q o pc2 lv (.ref (lu_sa G j) :: st) ρ k n ex m) : lu_Ab T G Q o pc lv st ρ k n ex m := by
  subst hp
  exact fun b hb H locs ls hl hP hD hS => va_ldcS X.hx X.hb X.hown (X.hN.2.2 j _ hj) d (kk b hb H locs ls hl hP hD hS)
/-- a field's link: of which tag, which place -/
def lu_FL (own : String) (index t k : Nat) : Prop := 3 < t ∧ t < 12 ∧ k < lu_NN t ∧ ∃ ref : String, Cond.fieldLink own index ref (lu_TT t k).2.1 (lu_TT t k).2.2.1 ∈ lu_ws ∧ (ref = (lu_TT t k).1 ∨ Cond.sameField ref (lu_TT t k).1 (lu_TT t k).2.1 (lu_TT t k).2.2.1 ∈ lu_ws)
theorem lu_FLs {t k : Nat} {args : Array Value} {s : State} {ref : String} (hts : ∀ w ∈ lu_ws, w.before args s = true) (h : ref = (lu_TT t k).1 ∨ Cond.sameField ref (lu_TT t k).1 (lu_TT t k).2.1 (lu_TT t k).2.2.1 ∈ lu_ws) : ∀ x, s.fieldFound? (lu_TT t k).1 (lu_TT t k).2.1 (lu_TT t k).2.2.1 = some x → s.fieldFound? ref (lu_TT t k).2.1 (lu_TT t k).2.2.1 = some x := by
  intro x hx
  rcases h with h | h
  · rw [h]; exact hx
  · exact u_same (hts _ h) x hx
theorem lu_get (X : lu_X G own cc nL fr lo) {index r t f : Nat} {x : Nat × Nat} (fl : lu_FL own index t f) (hF : (lu_F t)[f]? = some none) (hT : T.2 r = (t, x)) (hr : r < T.1) (d : decode cc pc = .ok (.getfield index, 3)) (hp : pc + 3 = pc2) (kk : lu_Ab T G Q o pc2 lv (.int (m r f) :: st) ρ k n ex m) : lu_Ab T G Q o pc lv (.ref (ρ r) :: st) ρ k n ex m := by
  subst hp
  intro b hb H locs ls hl hP hD hS
  obtain ⟨h3, h12, hf, ref, hlink, hsame⟩ := fl
  obtain ⟨⟨C, T0, N⟩, hc, e1, e2, hin, -, -⟩ := lu_cls (m r 0) h3 h12
  simp only at e1 e2 hin
  subst e1; subst e2
  have he := lu_W_at2 (T := T) (cs := lu_cs G) (ρ := ρ) (m := m) (ex := ex) hr
  rw [lu_cell_obj hT h3] at he
  have hv := lu_fs_int ρ m r (lu_F t) 0 f hF
  try rw [Nat.zero_add] at hv
  try rw [hg] at hv
  exact va_get (D := lu_D G) X.hx X.hb X.hts hin X.hown X.hK hP r he hc f hf (X.hts _ hlink) (lu_FLs X.hts hsame) hv d (kk b hb H locs ls hl hP hD hS)
theorem lu_getr (X : lu_X G own cc nL fr lo) {index r t f : Nat} {q r2 : Nat} (hg : lu_tg r q = r2) {x : Nat × Nat} (fl : lu_FL own index t f) (hF : (lu_F t)[f]? = some (some q)) (hT : T.2 r = (t, x)) (hr : r < T.1) (d : decode cc pc = .ok (.getfield index, 3)) (hp : pc + 3 = pc2) (kk : lu_Ab T G Q o pc2 lv (.ref (ρ r2) :: st) ρ k n ex m) : lu_Ab T G Q o pc lv (.ref (ρ r) :: st) ρ k n ex m := by
  subst hp
  intro b hb H locs ls hl hP hD hS
  obtain ⟨h3, h12, hf, ref, hlink, hsame⟩ := fl
  obtain ⟨⟨C, T0, N⟩, hc, e1, e2, hin, -, -⟩ := lu_cls (m r 0) h3 h12
  simp only at e1 e2 hin
  subst e1; subst e2
  have he := lu_W_at2 (T := T) (cs := lu_cs G) (ρ := ρ) (m := m) (ex := ex) hr
  rw [lu_cell_obj hT h3] at he
  have hv := lu_fs_ref ρ m r (lu_F t) 0 f hF
  try rw [Nat.zero_add] at hv
  try rw [hg] at hv
  exact va_get (D := lu_D G) X.hx X.hb X.hts hin X.hown X.hK hP r he hc f hf (X.hts _ hlink) (lu_FLs X.hts hsame) hv d (kk b hb H locs ls hl hP hD hS)
theorem lu_putG (X : lu_X G own cc nL fr lo) {index r t f : Nat} {x : Nat × Nat} {ty : FieldType} {v : Int32} (fl : lu_FL own index t f) (hF : (lu_F t)[f]? = some none) (h0 : t ≠ 10 ∨ f ≠ 0) (hfin : (lu_TT t f).2.2.2 = false) (hd : parseFieldDescriptor (lu_TT t f).2.2.1 = some ty) (hn : narrow ty (.int v) = .int v) (hfit : fits ty (.int v) = true) (hT : T.2 r = (t, x)) (hr : r < T.1) (d : decode cc pc = .ok (.putfield index, 3)) (hp : pc + 3 = pc2) (kk : lu_Ab T G Q o pc2 lv st ρ k n ex (lu_st m r f v)) : lu_Ab T G Q o pc lv (.int v :: .ref (ρ r) :: st) ρ k n ex m := by
  subst hp
  intro b hb H locs ls hl hP hD hS
  obtain ⟨h3, h12, hf, ref, hlink, hsame⟩ := fl
  obtain ⟨⟨C, T0, N⟩, hc, e1, e2, hin, ⟨ty0, hty⟩, hnm⟩ := lu_cls (m r 0) h3 h12
  simp only at e1 e2 hin hty hnm
  subst e1; subst e2
  have he := lu_W_at2 (T := T) (cs := lu_cs G) (ρ := ρ) (m := m) (ex := ex) hr
  rw [lu_cell_obj hT h3] at he
  have hlen : f < (lu_fs ρ m r (lu_F t) 0).length := by
    rw [lu_fs_len]
    exact (List.getElem?_eq_some_iff.mp hF).1
  have hci : lu_ci t (lu_st m r f v r 0) = lu_ci t (m r 0) := by
    rcases h0 with h0 | h0
    · unfold lu_ci
      repeat (split; rfl)
      omega
    · rw [lu_st_ne (Ne.symm h0)]
  have hset : (lu_W T (lu_cs G) ρ m ++ ex).set r (ρ r, .inr (lu_ci t (m r 0), (lu_fs ρ m r (lu_F t) 0).set f (.int v))) = lu_W T (lu_cs G) ρ (lu_st m r f v) ++ ex := by
    refine lu_W_set hr (fun q hq => lu_st_row hq) ?_
    rw [lu_cell_obj hT h3, hci, lu_fs_set ρ m r v (lu_F t) 0 f hF, Nat.zero_add]
  exact va_put (D := lu_D G) X.hx X.hb X.hts hin ty0 hty hnm X.hown X.hK hP hD hS r he hc f hf (X.hts _ hlink) (lu_FLs X.hts hsame) hfin hd hn hfit hlen d (fun H1 locs1 hP hD hS => by
    rw [hset] at hP hD
    exact kk b hb H1 locs1 ls hl hP hD hS)
theorem lu_put (X : lu_X G own cc nL fr lo) {index r t f : Nat} {x : Nat × Nat} {v : Int32} {Ko : lu_M → Option β} (fl : lu_FL own index t f) (hF : (lu_F t)[f]? = some none) (h0 : t ≠ 10 ∨ f ≠ 0) (hfin : (lu_TT t f).2.2.2 = false) (hd : parseFieldDescriptor (lu_TT t f).2.2.1 = some .int) (hT : T.2 r = (t, x)) (hr : r < T.1) (d : decode cc pc = .ok (.putfield index, 3)) (hp : pc + 3 = pc2) (kk : ∀ m, lu_Ab T G Q (Ko m) pc2 lv st ρ k n ex m) : lu_Ab T G Q (lu_nm (lu_st m r f v) Ko) pc lv (.int v :: .ref (ρ r) :: st) ρ k n ex m :=
  lu_putG X fl hF h0 hfin hd rfl rfl hT hr d hp (kk _)
theorem lu_putzK (X : lu_X G own cc nL fr lo) {index r t f : Nat} {x : Nat × Nat} {v : Int32} {Ko : lu_M → Option β} (hv : decide (v = 0 ∨ v = 1) = true) (fl : lu_FL own index t f) (hF : (lu_F t)[f]? = some none) (h0 : t ≠ 10 ∨ f ≠ 0) (hfin : (lu_TT t f).2.2.2 = false) (hd : parseFieldDescriptor (lu_TT t f).2.2.1 = some .boolean) (hT : T.2 r = (t, x)) (hr : r < T.1) (d : decode cc pc = .ok (.putfield index, 3)) (hp : pc + 3 = pc2) (kk : ∀ m, lu_Ab T G Q (Ko m) pc2 lv st ρ k n ex m) : lu_Ab T G Q (lu_nm (lu_st m r f v) Ko) pc lv (.int v :: .ref (ρ r) :: st) ρ k n ex m :=
  lu_putG X fl hF h0 hfin hd (by rcases of_decide_eq_true hv with rfl | rfl <;> rfl) (by rcases of_decide_eq_true hv with rfl | rfl <;> rfl) hT hr d hp (kk _)
theorem lu_putz (X : lu_X G own cc nL fr lo) {index r t f : Nat} {x : Nat × Nat} {v : Int32} {Ko : lu_M → Option β} (fl : lu_FL own index t f) (hF : (lu_F t)[f]? = some none) (h0 : t ≠ 10 ∨ f ≠ 0) (hfin : (lu_TT t f).2.2.2 = false) (hd : parseFieldDescriptor (lu_TT t f).2.2.1 = some .boolean) (hT : T.2 r = (t, x)) (hr : r < T.1) (d : decode cc pc = .ok (.putfield index, 3)) (hp : pc + 3 = pc2) (kk : ∀ m, lu_Ab T G Q (Ko m) pc2 lv st ρ k n ex m) : lu_Ab T G Q (lu_gd (decide (v = 0 ∨ v = 1)) (lu_nm (lu_st m r f v) Ko)) pc lv (.int v :: .ref (ρ r) :: st) ρ k n ex m :=
  lu_gdr (fun g => lu_putG X fl hF h0 hfin hd (by rcases of_decide_eq_true g with rfl | rfl <;> rfl) (by rcases of_decide_eq_true g with rfl | rfl <;> rfl) hT hr d hp (kk _))
theorem lu_iald (X : lu_X G own cc nL fr lo) {r N j : Nat} {i : Int32} (hT : T.2 r = (0, N, j)) (hr : r < T.1) (d : decode cc pc = .ok (.iaload, 1)) (hp : pc + 1 = pc2) (kk : lu_Ab T G Q o pc2 lv (.int (m r i.toNatClampNeg) :: st) ρ k n ex m) : lu_Ab T G Q (lu_gd (lu_ib i N) o) pc lv (.int i :: .ref (ρ r) :: st) ρ k n ex m := by
  subst hp
  refine lu_gdr (fun g => ?_)
  intro b hb H locs ls hl hP hD hS
  have he := lu_W_at2 (T := T) (cs := lu_cs G) (ρ := ρ) (m := m) (ex := ex) hr
  rw [lu_cell_int hT] at he
  exact va_iald (D := lu_D G) X.hx X.hb X.hK hP r 0 he rfl (lu_ib_in g) d (kk b hb H locs ls hl hP hD hS)
theorem lu_iast (X : lu_X G own cc nL fr lo) {r N j : Nat} {i v : Int32} {Ko : lu_M → Option β} (hT : T.2 r = (0, N, j)) (hr : r < T.1) (d : decode cc pc = .ok (.iastore, 1)) (hp : pc + 1 = pc2) (kk : ∀ m, lu_Ab T G Q (Ko m) pc2 lv st ρ k n ex m) : lu_Ab T G Q (lu_gd (lu_ib i N) (lu_nm (lu_st m r i.toNatClampNeg v) Ko)) pc lv (.int v :: .int i :: .ref (ρ r) :: st) ρ k n ex m := by
  subst hp
  refine lu_gdr (fun g => ?_)
  intro b hb H locs ls hl hP hD hS
  have he := lu_W_at2 (T := T) (cs := lu_cs G) (ρ := ρ) (m := m) (ex := ex) hr
  rw [lu_cell_int hT] at he
  have hset : (lu_W T (lu_cs G) ρ m ++ ex).set r (ρ r, .inl (lu_cs G 0, N, .inl (upd (m r) i.toNatClampNeg v))) = lu_W T (lu_cs G) ρ (lu_st m r i.toNatClampNeg v) ++ ex := by
    refine lu_W_set hr (fun q hq => lu_st_row hq) ?_
    rw [lu_cell_int hT, lu_st_upd]
  exact va_iast (D := lu_D G) X.hx X.hb X.hK hP hD hS r 0 he rfl (lu_ib_in g) d (fun H1 locs1 hP hD hS => by
    rw [hset] at hP hD
    exact kk _ b hb H1 locs1 ls hl hP hD hS)
theorem lu_ialdK (X : lu_X G own cc nL fr lo) {r N j q : Nat} {i : Int32} (hi : (lu_ib i N && decide (i.toNatClampNeg = q)) = true) (hT : T.2 r = (0, N, j)) (hr : r < T.1) (d : decode cc pc = .ok (.iaload, 1)) (hp : pc + 1 = pc2) (kk : lu_Ab T G Q o pc2 lv (.int (m r q) :: st) ρ k n ex m) : lu_Ab T G Q o pc lv (.int i :: .ref (ρ r) :: st) ρ k n ex m := by
  have g1 := (Bool.and_eq_true _ _ ▸ hi).1
  have g2 := of_decide_eq_true (Bool.and_eq_true _ _ ▸ hi).2
  have h := lu_iald (m := m) (o := o) X (i := i) hT hr d hp (by rw [g2]; exact kk)
  rw [g1] at h
  exact h
theorem lu_iastK (X : lu_X G own cc nL fr lo) {r N j q : Nat} {i v : Int32} {Ko : lu_M → Option β} (hi : (lu_ib i N && decide (i.toNatClampNeg = q)) = true) (hT : T.2 r = (0, N, j)) (hr : r < T.1) (d : decode cc pc = .ok (.iastore, 1)) (hp : pc + 1 = pc2) (kk : ∀ m, lu_Ab T G Q (Ko m) pc2 lv st ρ k n ex m) : lu_Ab T G Q (lu_nm (lu_st m r q v) Ko) pc lv (.int v :: .int i :: .ref (ρ r) :: st) ρ k n ex m := by
  have g1 := (Bool.and_eq_true _ _ ▸ hi).1
  have g2 := of_decide_eq_true (Bool.and_eq_true _ _ ▸ hi).2
  have h := lu_iast (m := m) (Ko := Ko) (v := v) X (i := i) hT hr d hp kk
  rw [g1, g2] at h
  exact h
theorem lu_alen (X : lu_X G own cc nL fr lo) {r N j : Nat} {v : Int32} (hv : Int32.ofNat N = v) (hT : T.2 r = (0, N, j)) (hr : r < T.1) (d : decode cc pc = .ok (.arraylength, 1)) (hp : pc + 1 = pc2) (kk : lu_Ab T G Q o pc2 lv (.int v :: st) ρ k n ex m) : lu_Ab T G Q o pc lv (.ref (ρ r) :: st) ρ k n ex m := by
  subst hp
  intro b hb H locs ls hl hP hD hS
  have he := lu_W_at2 (T := T) (cs := lu_cs G) (ρ := ρ) (m := m) (ex := ex) hr
  rw [lu_cell_int hT] at he
  exact va_alen (D := lu_D G) X.hx X.hb X.hK hP r 0 he (ty := .int) rfl hv d (kk b hb H locs ls hl hP hD hS)
theorem lu_aald (X : lu_X G own cc nL fr lo) {r N j t : Nat} {i : Int32} {ty : FieldType} (ht : (lu_tys (lu_cs G))[t]? = some (lu_cs G t, ty)) (hty : ty.isReference = true) (h1 : 0 < t) (h2 : t ≤ 3) (hT : T.2 r = (t, N, j)) (hr : r < T.1) (d : decode cc pc = .ok (.aaload, 1)) (hp : pc + 1 = pc2) (kk : lu_ib i N = true → lu_Ab T G Q o pc2 lv (.ref (ρ (r + 1 + i.toNatClampNeg)) :: st) ρ k n ex m) : lu_Ab T G Q (lu_gd (lu_ib i N) o) pc lv (.int i :: .ref (ρ r) :: st) ρ k n ex m := by
  subst hp
  refine lu_gdr (fun g => ?_)
  intro b hb H locs ls hl hP hD hS
  have he := lu_W_at2 (T := T) (cs := lu_cs G) (ρ := ρ) (m := m) (ex := ex) hr
  rw [lu_cell_ref hT h1 h2] at he
  have hin := lu_ib_in g
  have hlt := lu_ib_lt g
  exact W.aald (v := va_rf (some (ρ (r + 1 + i.toNatClampNeg)))) (ty := ty) X.hx X.hb (hP r _ he) ((X.hK.2 t _ ht).1 N (fun j => va_rf (some (ρ (r + 1 + j))))) hty (fun q => by cases q) (by show ¬ (i < 0 ∨ (arrV _ _ _).slots.size ≤ _); rw [arrV_size]; exact hin) (by show (arrV _ _ _).slots[_]? = _; rw [arrV_read _ _ hlt]) rfl rfl d (kk g b hb H locs ls hl hP hD hS)
theorem lu_topi {x : Int32} {Ko : Int32 → Option β} (kk : ∀ y : Int32, lu_Ab T G Q (Ko y) pc lv (.int y :: st) ρ k n ex m) : lu_Ab T G Q (lu_nm x Ko) pc lv (.int x :: st) ρ k n ex m := kk x
theorem lu_topl {x : Int64} {Ko : Int64 → Option β} (kk : ∀ y : Int64, lu_Ab T G Q (Ko y) pc lv (.long y :: st) ρ k n ex m) : lu_Ab T G Q (lu_nm x Ko) pc lv (.long x :: st) ρ k n ex m := kk x
theorem lu_gets (X : lu_X G own cc nL fr lo) {i : Nat} (hw : Cond.fieldLink own i RX11 "ABOVE" "[I" ∈ lu_ws) (d : decode cc pc = .ok (.getstatic i, 3)) (hp : pc + 3 = pc2) (kk : lu_Ab T G Q o pc2 lv (.ref (lu_sa G 36) :: st) ρ k n ex m) : lu_Ab T G Q o pc lv st ρ k n ex m := by
  subst hp
  exact fun b hb H locs ls hl hP hD hS => va_gets X.hx X.hb X.hSx.1 hS X.hown (X.hts _ hw) (fun _ h => h) d (kk b hb H locs ls hl hP hD hS)
theorem lu_tald (X : lu_X G own cc nL fr lo) {i : Int32} (d : decode cc pc = .ok (.iaload, 1)) (hp : pc + 1 = pc2) (kk : lu_Ab T G Q o pc2 lv (.int (lu_ab i.toNatClampNeg) :: st) ρ k n ex m) : lu_Ab T G Q (lu_gd (lu_ib i 6) o) pc lv (.int i :: .ref (lu_sa G 36) :: st) ρ k n ex m := by
  subst hp
  exact lu_gdr (fun g => fun b hb H locs ls hl hP hD hS => va_ti X.hx X.hb X.hSx.2.1 hS (lu_ib_in g) rfl d (kk b hb H locs ls hl hP hD hS))
theorem lu_mmax (X : lu_X G own cc nL fr lo) {i : Nat} {x y : Int32} (ml : Cond.methodLink own i Lib.Math.max.name ∈ lu_ws) (h1 : Cond.static Lib.Math.max.name ∈ lu_ws) (h2 : Cond.initialized "java/lang/Math" ∈ lu_ws) (h3 : Cond.code Lib.Math.max.name Lib.Math.max.code 2 (some .int) ∈ lu_ws) (hfr : 1 ≤ fr) (hlo : 21 ≤ lo) (hroom : (st.map fun v => v.category).sum ≤ 8) (hk : k ≤ (lu_R G).cells ∧ n ≤ (lu_R G).slots) (d : decode cc pc = .ok (.invokestatic i, 3)) (hp : pc + 3 = pc2) (kk : lu_Ab T G Q o pc2 lv (.int (if x < y then y else x) :: st) ρ k n ex m) : lu_Ab T G Q o pc lv (.int y :: .int x :: st) ρ k n ex m := by
  subst hp
  exact fun b hb H locs ls hl hP hD hS => va_mmax X.hx X.hb (X.hml.trans hl.1.symm) X.hown (X.hts _ ml) (X.hts _ h1) (X.hts _ h2) (X.hts _ h3) (Nat.le_trans hfr X.hfr) (by have := X.hlo; omega) hk.1 hk.2 d (kk b hb H locs ls hl hP hD hS)
theorem lu_mmin (X : lu_X G own cc nL fr lo) {i : Nat} {x y : Int32} (ml : Cond.methodLink own i Lib.Math.min.name ∈ lu_ws) (h1 : Cond.static Lib.Math.min.name ∈ lu_ws) (h2 : Cond.initialized "java/lang/Math" ∈ lu_ws) (h3 : Cond.code Lib.Math.min.name Lib.Math.min.code 2 (some .int) ∈ lu_ws) (hfr : 1 ≤ fr) (hlo : 21 ≤ lo) (hroom : (st.map fun v => v.category).sum ≤ 8) (hk : k ≤ (lu_R G).cells ∧ n ≤ (lu_R G).slots) (d : decode cc pc = .ok (.invokestatic i, 3)) (hp : pc + 3 = pc2) (kk : lu_Ab T G Q o pc2 lv (.int (if y < x then y else x) :: st) ρ k n ex m) : lu_Ab T G Q o pc lv (.int y :: .int x :: st) ρ k n ex m := by
  subst hp
  exact fun b hb H locs ls hl hP hD hS => va_mmin X.hx X.hb (X.hml.trans hl.1.symm) X.hown (X.hts _ ml) (X.hts _ h1) (X.hts _ h2) (X.hts _ h3) (Nat.le_trans hfr X.hfr) (by have := X.hlo; omega) hk.1 hk.2 d (kk b hb H locs ls hl hP hD hS)
end LUR
