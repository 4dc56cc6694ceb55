/-! MATH 0: answers, loops, what stays the same, small numbers -/
def kZ {Z : Type} (o : Option Z) (Q : Z → Prop) : Prop := ∃ z, o = some z ∧ Q z
theorem kZ.ret {Z : Type} {z : Z} {Q : Z → Prop} (h : Q z) : kZ (some z) Q := ⟨z, rfl, h⟩
theorem kZ.bind {Y Z : Type} {o : Option Y} {g : Y → Option Z} {P : Y → Prop} {Q : Z → Prop} (h : kZ o P) (k : ∀ y, P y → kZ (g y) Q) : kZ (o.bind g) Q := by
  obtain ⟨y, rfl, hy⟩ := h
  exact k y hy
theorem kZ.mono {Z : Type} {o : Option Z} {P Q : Z → Prop} (h : kZ o P) (k : ∀ z, P z → Q z) : kZ o Q := by
  obtain ⟨y, e, hy⟩ := h
  exact ⟨y, e, k y hy⟩
theorem kZ.ifp {Z : Type} {c : Prop} [Decidable c] {x y : Option Z} {Q : Z → Prop} (hc : c) (k : kZ x Q) : kZ (if c then x else y) Q := by rw [if_pos hc]; exact k
theorem kZ.ifn {Z : Type} {c : Prop} [Decidable c] {x y : Option Z} {Q : Z → Prop} (hc : ¬ c) (k : kZ y Q) : kZ (if c then x else y) Q := by rw [if_neg hc]; exact k
theorem kZ.ite {Z : Type} {c : Prop} [Decidable c] {x y : Option Z} {Q : Z → Prop} (hp : c → kZ x Q) (hn : ¬ c → kZ y Q) : kZ (if c then x else y) Q := by
  by_cases h : c
  · exact kZ.ifp h (hp h)
  · exact kZ.ifn h (hn h)
theorem k_in {j N : Nat} (hj : j < N) (hN : N < 2 ^ 31) : ¬ (nI j < 0 ∨ N ≤ (nI j).toNatClampNeg) := nI_in hj hN
theorem ka_n {j N : Nat} (f : Nat → Int32) (hj : j < N) (hN : N < 2 ^ 31) : ka N f (nI j) = some (f j) := by
  unfold ka
  rw [if_neg (k_in hj hN), nI_clamp (Nat.lt_trans hj hN)]
theorem kal_n {j N : Nat} (f : Nat → Int64) (hj : j < N) (hN : N < 2 ^ 31) : kal N f (nI j) = some (f j) := by
  unfold kal
  rw [if_neg (k_in hj hN), nI_clamp (Nat.lt_trans hj hN)]
theorem kg_n {j N : Nat} (f : Nat → Int32) (hj : j < N) (hN : N < 2 ^ 31) : kg N f (nI j) = f j := by
  unfold kg
  rw [if_neg (k_in hj hN), nI_clamp (Nat.lt_trans hj hN)]
theorem kgl_n {j N : Nat} (f : Nat → Int64) (hj : j < N) (hN : N < 2 ^ 31) : kgl N f (nI j) = f j := by
  unfold kgl
  rw [if_neg (k_in hj hN), nI_clamp (Nat.lt_trans hj hN)]
theorem kp_n {j N : Nat} (f : Nat → Int32) (v : Int32) (hj : j < N) (hN : N < 2 ^ 31) : kp N f (nI j) v = upd f j v := by
  unfold kp
  rw [if_neg (k_in hj hN), nI_clamp (Nat.lt_trans hj hN)]
theorem kpl_n {j N : Nat} (f : Nat → Int64) (v : Int64) (hj : j < N) (hN : N < 2 ^ 31) : kpl N f (nI j) v = vp_updL f j v := by
  unfold kpl
  rw [if_neg (k_in hj hN), nI_clamp (Nat.lt_trans hj hN)]
theorem kZ.ka {Z : Type} {j N : Nat} {f : Nat → Int32} {g : Int32 → Option Z} {Q : Z → Prop} (hj : j < N) (hN : N < 2 ^ 31) (k : kZ (g (f j)) Q) : kZ ((ka N f (nI j)).bind g) Q := by
  rw [ka_n f hj hN]
  exact k
theorem kZ.kal {Z : Type} {j N : Nat} {f : Nat → Int64} {g : Int64 → Option Z} {Q : Z → Prop} (hj : j < N) (hN : N < 2 ^ 31) (k : kZ (g (f j)) Q) : kZ ((kal N f (nI j)).bind g) Q := by
  rw [kal_n f hj hN]
  exact k
theorem kZ.gd {Z : Type} {j N : Nat} {x : Option Z} {Q : Z → Prop} (hj : j < N) (hN : N < 2 ^ 31) (k : kZ x Q) : kZ (if nI j < 0 ∨ N ≤ (nI j).toNatClampNeg then none else x) Q := kZ.ifn (k_in hj hN) k
/-- a counted loop -/
theorem kfor {σ Z : Type} {Q : Z → Prop} (L : Nat → Int32 → σ → Option Z) (I : Nat → σ → Prop) (N : Nat)
    (hx : ∀ F s, I N s → kZ (L (F + 1) (nI N) s) Q)
    (hs : ∀ F i s, i < N → I i s → (∀ s', I (i + 1) s' → kZ (L F (nI (i + 1)) s') Q) → kZ (L (F + 1) (nI i) s) Q) :
    ∀ F i s, i ≤ N → N < F + i → I i s → kZ (L F (nI i) s) Q := by
  intro F
  induction F with
  | zero => intro i s h1 h2; omega
  | succ F ih =>
    intro i s h1 h2 h3
    rcases Nat.lt_or_ge i N with h | h
    · exact hs F i s h h3 (fun s' h' => ih (i + 1) s' h (by omega) h')
    · obtain rfl : i = N := by omega
      exact hx F s h3
/-- a loop by a measure -/
theorem kwhile {σ Z : Type} {Q : Z → Prop} (L : Nat → σ → Option Z) (I : Nat → σ → Prop)
    (hs : ∀ F d s, I d s → (∀ d' s', d' < d → I d' s' → kZ (L F s') Q) → kZ (L (F + 1) s) Q) :
    ∀ F d s, d < F → I d s → kZ (L F s) Q := by
  intro F
  induction F with
  | zero => intro d s h; omega
  | succ F ih =>
    intro d s h1 h2
    exact hs F d s h2 (fun d' s' h h' => ih d' s' (by omega) h')
theorem kFU_lt {N : Nat} (h : N < 60000) : N < kFU := h
theorem kFU_lt0 {N : Nat} (h : N < 60000) : N < kFU + 0 := h
/-- all numbers are the same but those listed -/
def kSame (I J A L : List Nat) (s t : kS) : Prop := (∀ k, k ∉ I → gI t k = gI s k) ∧ (∀ k, k ∉ J → gJ t k = gJ s k) ∧ (∀ k, k ∉ A → gA t k = gA s k) ∧ (∀ k, k ∉ L → gL t k = gL s k)
section KS
variable {I J A L : List Nat} {s t u : kS}
theorem kSame.rf : kSame I J A L s s := ⟨fun _ _ => rfl, fun _ _ => rfl, fun _ _ => rfl, fun _ _ => rfl⟩
theorem kSame.trans (h : kSame I J A L s t) (h2 : kSame I J A L t u) : kSame I J A L s u :=
  ⟨fun k hk => (h2.1 k hk).trans (h.1 k hk), fun k hk => (h2.2.1 k hk).trans (h.2.1 k hk), fun k hk => (h2.2.2.1 k hk).trans (h.2.2.1 k hk), fun k hk => (h2.2.2.2 k hk).trans (h.2.2.2 k hk)⟩
theorem kSame.sub {I' J' A' L' : List Nat} (h : kSame I' J' A' L' s t) (h1 : ∀ k ∈ I', k ∈ I) (h2 : ∀ k ∈ J', k ∈ J) (h3 : ∀ k ∈ A', k ∈ A) (h4 : ∀ k ∈ L', k ∈ L) : kSame I J A L s t :=
  ⟨fun k hk => h.1 k (fun q => hk (h1 k q)), fun k hk => h.2.1 k (fun q => hk (h2 k q)), fun k hk => h.2.2.1 k (fun q => hk (h3 k q)), fun k hk => h.2.2.2 k (fun q => hk (h4 k q))⟩
theorem kSame.sI (h : kSame I J A L s t) {k : Nat} (hk : k ∈ I) (v : Int32) : kSame I J A L s (sI t k v) :=
  ⟨fun j hj => (gI_n (fun e => hj (by rw [e]; exact hk))).trans (h.1 j hj), h.2.1, h.2.2.1, h.2.2.2⟩
theorem kSame.sJ (h : kSame I J A L s t) {k : Nat} (hk : k ∈ J) (v : Int64) : kSame I J A L s (sJ t k v) :=
  ⟨h.1, fun j hj => (gJ_n (fun e => hj (by rw [e]; exact hk))).trans (h.2.1 j hj), h.2.2.1, h.2.2.2⟩
theorem kSame.sA (h : kSame I J A L s t) {k : Nat} (hk : k ∈ A) (v : Nat → Int32) : kSame I J A L s (sA t k v) :=
  ⟨h.1, h.2.1, fun j hj => (gA_n (fun e => hj (by rw [e]; exact hk))).trans (h.2.2.1 j hj), h.2.2.2⟩
theorem kSame.sL (h : kSame I J A L s t) {k : Nat} (hk : k ∈ L) (v : Nat → Int64) : kSame I J A L s (sL t k v) :=
  ⟨h.1, h.2.1, h.2.2.1, fun j hj => (gL_n (fun e => hj (by rw [e]; exact hk))).trans (h.2.2.2 j hj)⟩
end KS
/-- numbers -/
theorem l0 : (0 : Int32) = nI 0 := rfl
theorem l1 : (1 : Int32) = nI 1 := rfl
theorem l2 : (2 : Int32) = nI 2 := rfl
theorem l3 : (3 : Int32) = nI 3 := rfl
theorem l5 : (5 : Int32) = nI 5 := rfl
theorem l6 : (6 : Int32) = nI 6 := rfl
theorem nI_lt_iff {a b : Nat} (ha : a < 2 ^ 31) (hb : b < 2 ^ 31) : nI a < nI b ↔ a < b := nI_ltI ha hb
theorem kr_n {a d : Nat} (ha : a < 2 ^ 31) (h0 : 0 < d) (hd : d < 2 ^ 31) : kr (nI a) (nI d) = nI (a % d) := pk_rem ha h0 hd
theorem nI_inj {a b : Nat} (ha : a < 2 ^ 31) (hb : b < 2 ^ 31) (h : nI a = nI b) : a = b := (nI_eq ha hb).mp h
theorem upd_e (f : Nat → Int32) (k : Nat) (v : Int32) : upd f k v k = v := if_pos rfl
theorem upd_n {f : Nat → Int32} {k j : Nat} {v : Int32} (h : j ≠ k) : upd f k v j = f j := if_neg h
theorem updL_e (f : Nat → Int64) (k : Nat) (v : Int64) : vp_updL f k v k = v := if_pos rfl
theorem updL_n {f : Nat → Int64} {k j : Nat} {v : Int64} (h : j ≠ k) : vp_updL f k v j = f j := if_neg h
theorem n_lt31 {a : Nat} (h : a < 100000) : a < 2 ^ 31 := Nat.lt_trans h (by decide)
