/-! THE RELATION between the class's state and the reference's -/
def uPn (n : Nat) (φ : Nat → Nat → Bool) : Nat := uRow (fun a => uRow (fun b => if φ a b then 1 else 0) n (a + 1)) n 0
def uWk (n : Nat) (κ : Nat → Nat) (a : Nat) : Nat → Nat → Prop
  | 0, k => k = a
  | t + 1, k => uWk n κ a t k ∨ ∃ p, p < n ∧ uWk n κ a t (xStep n κ k p)
def uSr (n : Nat) (κ : Nat → Nat) (a : Nat) : Nat → Nat → Prop
  | 0, k => k = a
  | t + 1, k => uSr n κ a t k ∨ ∀ d, d < n → ∃ c, c < 3 ∧ uSr n κ a t (xStep n κ k (aP n d c))
def lstIs (P : Nat → Prop) (v : Int32) : Prop := (∃ t, t < 1000 ∧ v = nI t ∧ P t ∧ ∀ s, s < t → ¬ P s) ∨ (v = -1 ∧ ∀ t, ¬ P t)
theorem lstIs.uniq {P : Nat → Prop} {v w : Int32} (h : lstIs P v) (h' : lstIs P w) : v = w := by
  rcases h with ⟨t, _, rfl, pt, mt⟩ | ⟨rfl, nt⟩
  · rcases h' with ⟨s, _, rfl, ps, ms⟩ | ⟨rfl, ns⟩
    · rcases Nat.lt_trichotomy t s with q | q | q
      · exact absurd pt (ms t q)
      · rw [q]
      · exact absurd ps (mt s q)
    · exact absurd pt (ns t)
  · rcases h' with ⟨s, _, rfl, ps, ms⟩ | ⟨rfl, ns⟩
    · exact absurd ps (nt s)
    · rfl
def rPage (sx sm : kS) : Prop := ∃ m c, pgX m c sx ∧ pgM m c sm
def rSeed (sx sm : kS) : Prop := 0 ≤ gI sx 6 ∧ gJ sm 0 = (gI sx 6).toInt64
def rGoal (n : Nat) (κ : Nat → Nat) (sx sm : kS) : Prop := (gI sx 13 = 0 ∧ gI sm 3 = 0) ∨ (gI sx 13 = 1 ∧ gI sm 3 = 1 ∧ ∃ a, uO n a (gA sx 21) ∧ uO n a (gA sm 5) ∧ (gI sx 14 = 0 ∨ gI sx 14 = 1 ∧ ∀ k, k < uF n → lstIs (fun t => uWk n κ a t k) (gA sx 22 k)) ∧ (gI sx 15 = 0 ∨ gI sx 15 = 1 ∧ ∀ k, k < uF n → lstIs (fun t => uSr n κ a t k) (gA sx 23 k)))
def rKeep (r n : Nat) (κ : Nat → Nat) (sx sm : kS) : Prop := (gI sx 0 = 0 ∧ (gI sm 5 = 0 ∨ ∃ r', r' < r ∧ gI sm 6 = nI r')) ∨ (gI sx 0 = 1 ∧ gI sm 5 = 1 ∧ gI sm 6 = nI r ∧ gI sx 9 = gI sm 7 ∧ 0 ≤ gI sx 8 ∧ gJ sm 1 = (gI sx 8).toInt64 ∧ ∃ o h, uO n o (gA sx 15) ∧ uO n o (gA sm 7) ∧ uO n h (gA sx 16) ∧ uO n h (gA sm 8) ∧ uCompat n κ o)
def rTown (r n : Nat) (κ : Nat → Nat) (φ : Nat → Nat → Bool) (o h : Nat) (sx sm : kS) : Prop := xR n κ φ sx ∧ mR n κ φ sm ∧ (∀ i j, φ i j = φ j i) ∧ gI sx 4 = nI (uPn n φ) ∧ xA n κ φ sx ∧ uO n o (gA sx 13) ∧ uO n o (gA sm 3) ∧ uO n h (gA sx 14) ∧ uO n h (gA sm 4) ∧ uCompat n κ o ∧ rGoal n κ sx sm ∧ rKeep r n κ sx sm
def rBare (sx sm : kS) : Prop := gI sx 3 = 0 ∧ gI sm 0 = 0 ∧ gI sx 10 = 0 ∧ gI sx 4 = 0 ∧ gI sx 0 = 0 ∧ gI sm 5 = 0 ∧ gI sx 13 = 0 ∧ gI sm 3 = 0
def R (k : Nat) (sx sm : kS) : Prop := rPage sx sm ∧ gI sx 7 = gI sm 2 ∧ rSeed sx sm ∧ ∃ r, r ≤ k ∧ gI sx 1 = nI r ∧ gI sm 1 = nI r ∧ (rBare sx sm ∨ ∃ n κ φ o h, rTown r n κ φ o h sx sm)
theorem R_mono {k k' : Nat} {sx sm : kS} (h : R k sx sm) (hk : k ≤ k') : R k' sx sm := by
  obtain ⟨h1, h2, h3, r, hr, h4⟩ := h
  exact ⟨h1, h2, h3, r, by omega, h4⟩
section FR
variable {sx sm tx tm : kS} {IX JX AX LX IM JM AM LM : List Nat}
theorem rPage.fr (h : rPage sx sm) (hx : kSame IX JX AX LX sx tx) (hm : kSame IM JM AM LM sm tm) (dx : 2 ∉ IX ∧ 10 ∉ AX) (dm : 4 ∉ IM ∧ 6 ∉ AM) : rPage tx tm := by
  obtain ⟨m, c, h1, h2⟩ := h
  exact ⟨m, c, h1.same hx dx, h2.same hm dm⟩
theorem rSeed.fr (h : rSeed sx sm) (hx : kSame IX JX AX LX sx tx) (hm : kSame IM JM AM LM sm tm) (dx : 6 ∉ IX) (dm : 0 ∉ JM) : rSeed tx tm := by
  unfold rSeed
  rw [hx.1 6 dx, hm.2.1 0 dm]
  exact h
theorem rGoal.fr {n : Nat} {κ : Nat → Nat} (h : rGoal n κ sx sm) (hx : kSame IX JX AX LX sx tx) (hm : kSame IM JM AM LM sm tm) (dx : (13 ∉ IX ∧ 14 ∉ IX ∧ 15 ∉ IX) ∧ 21 ∉ AX ∧ 22 ∉ AX ∧ 23 ∉ AX) (dm : 3 ∉ IM ∧ 5 ∉ AM) : rGoal n κ tx tm := by
  unfold rGoal
  rw [hx.1 13 dx.1.1, hx.1 14 dx.1.2.1, hx.1 15 dx.1.2.2, hx.2.2.1 21 dx.2.1, hx.2.2.1 22 dx.2.2.1, hx.2.2.1 23 dx.2.2.2, hm.1 3 dm.1, hm.2.2.1 5 dm.2]
  exact h
theorem rKeep.fr {r n : Nat} {κ : Nat → Nat} (h : rKeep r n κ sx sm) (hx : kSame IX JX AX LX sx tx) (hm : kSame IM JM AM LM sm tm) (dx : (0 ∉ IX ∧ 8 ∉ IX ∧ 9 ∉ IX) ∧ 15 ∉ AX ∧ 16 ∉ AX) (dm : (5 ∉ IM ∧ 6 ∉ IM ∧ 7 ∉ IM) ∧ 1 ∉ JM ∧ 7 ∉ AM ∧ 8 ∉ AM) : rKeep r n κ tx tm := by
  unfold rKeep
  rw [hx.1 0 dx.1.1, hx.1 8 dx.1.2.1, hx.1 9 dx.1.2.2, hx.2.2.1 15 dx.2.1, hx.2.2.1 16 dx.2.2, hm.1 5 dm.1.1, hm.1 6 dm.1.2.1, hm.1 7 dm.1.2.2, hm.2.1 1 dm.2.1, hm.2.2.1 7 dm.2.2.1, hm.2.2.1 8 dm.2.2.2]
  exact h
theorem rBare.fr (h : rBare sx sm) (hx : kSame IX JX AX LX sx tx) (hm : kSame IM JM AM LM sm tm) (dx : 3 ∉ IX ∧ 10 ∉ IX ∧ 4 ∉ IX ∧ 0 ∉ IX ∧ 13 ∉ IX) (dm : 0 ∉ IM ∧ 5 ∉ IM ∧ 3 ∉ IM) : rBare tx tm := by
  unfold rBare
  rw [hx.1 3 dx.1, hx.1 10 dx.2.1, hx.1 4 dx.2.2.1, hx.1 0 dx.2.2.2.1, hx.1 13 dx.2.2.2.2, hm.1 0 dm.1, hm.1 5 dm.2.1, hm.1 3 dm.2.2]
  exact h
theorem xA.same {n : Nat} {κ : Nat → Nat} {φ : Nat → Nat → Bool} (h : xA n κ φ sx) (hx : kSame IX JX AX LX sx tx) (d : 12 ∉ IX ∧ 19 ∉ AX) : xA n κ φ tx := by
  unfold xA
  rw [hx.1 12 d.1, hx.2.2.1 19 d.2]
  exact h
end FR
/-- what a call may leave behind: nothing that the relation reads -/
theorem rTown.fr {r n o h : Nat} {κ : Nat → Nat} {φ : Nat → Nat → Bool} {sx sm tx tm : kS} (H : rTown r n κ φ o h sx sm) (hx : kSame [2, 12] [] [10, 18, 19, 20, 24, 27, 28, 29, 30] [25, 26] sx tx) (hm : kSame [4, 8, 9, 10, 11, 12, 13, 14, 15] [2] [6, 9, 10, 11, 15, 16, 17, 18, 19, 20, 21] [22, 23] sm tm) (hA : xA n κ φ tx) : rTown r n κ φ o h tx tm := by
  obtain ⟨h1, h2, h3, h4, h5, h6, h7, h8, h9, h10, h11, h12⟩ := H
  exact ⟨h1.same hx (by decide), h2.same hm (by decide), h3, (hx.1 4 (by decide)).trans h4, hA, by rw [hx.2.2.1 13 (by decide)]; exact h6, by rw [hm.2.2.1 3 (by decide)]; exact h7, by rw [hx.2.2.1 14 (by decide)]; exact h8, by rw [hm.2.2.1 4 (by decide)]; exact h9, h10, h11.fr hx hm (by decide) (by decide), h12.fr hx hm (by decide) (by decide)⟩
theorem R_fr {k k' : Nat} {sx sm tx tm : kS} (H : R k sx sm) (hk : k ≤ k') (hx : kSame [] [] [18, 20, 24, 27, 28, 29, 30] [25, 26] sx tx) (hm : kSame [8, 9, 10, 11, 12, 13, 14, 15] [2] [9, 10, 11, 15, 16, 17, 18, 19, 20, 21] [22, 23] sm tm) : R k' tx tm := by
  obtain ⟨h1, h2, h3, r, hr, h4, h5, h6⟩ := H
  refine ⟨h1.fr hx hm (by decide) (by decide), ?_, h3.fr hx hm (by decide) (by decide), r, by omega, (hx.1 1 (by decide)).trans h4, (hm.1 1 (by decide)).trans h5, ?_⟩
  · rw [hx.1 7 (by decide), hm.1 2 (by decide)]; exact h2
  rcases h6 with h6 | ⟨n, κ, φ, o, h, h6⟩
  · exact Or.inl (h6.fr hx hm (by decide) (by decide))
  · exact Or.inr ⟨n, κ, φ, o, h, h6.fr (hx.sub (by decide) (by decide) (by decide) (by decide)) (hm.sub (by decide) (by decide) (by decide) (by decide)) (h6.2.2.2.2.1.same hx (by decide))⟩
/-- the page told anew -/
theorem R_page {k k' : Nat} {sx sm tx tm : kS} (H : R k sx sm) (hk : k ≤ k') (hx : kSame [2] [] [10, 18, 20, 24, 27, 28, 29, 30] [25, 26] sx tx) (hm : kSame [4, 8, 9, 10, 11, 12, 13, 14, 15] [2] [6, 9, 10, 11, 15, 16, 17, 18, 19, 20, 21] [22, 23] sm tm) (hp : rPage tx tm) : R k' tx tm := by
  obtain ⟨h1, h2, h3, r, hr, h4, h5, h6⟩ := H
  refine ⟨hp, ?_, h3.fr hx hm (by decide) (by decide), r, by omega, (hx.1 1 (by decide)).trans h4, (hm.1 1 (by decide)).trans h5, ?_⟩
  · rw [hx.1 7 (by decide), hm.1 2 (by decide)]; exact h2
  rcases h6 with h6 | ⟨n, κ, φ, o, h, h6⟩
  · exact Or.inl (h6.fr hx hm (by decide) (by decide))
  · exact Or.inr ⟨n, κ, φ, o, h, h6.fr (hx.sub (by decide) (by decide) (by decide) (by decide)) (hm.sub (by decide) (by decide) (by decide) (by decide)) (h6.2.2.2.2.1.same hx (by decide))⟩
/-- the mayor's rolls told anew -/
theorem R_mayor {k k' r n o h : Nat} {κ : Nat → Nat} {φ : Nat → Nat → Bool} {sx sm tx tm : kS} (h1 : rPage sx sm) (h2 : gI sx 7 = gI sm 2) (h3 : rSeed sx sm) (hr : r ≤ k) (h4 : gI sx 1 = nI r) (h5 : gI sm 1 = nI r) (h6 : rTown r n κ φ o h sx sm) (hk : k ≤ k') (hx : kSame [12] [] [18, 19, 20, 24, 27, 28, 29, 30] [25, 26] sx tx) (hm : kSame [8, 9, 10, 11, 12, 13, 14, 15] [2] [9, 10, 11, 15, 16, 17, 18, 19, 20, 21] [22, 23] sm tm) (hA : xA n κ φ tx) : R k' tx tm := by
  refine ⟨h1.fr hx hm (by decide) (by decide), ?_, h3.fr hx hm (by decide) (by decide), r, by omega, (hx.1 1 (by decide)).trans h4, (hm.1 1 (by decide)).trans h5, Or.inr ⟨n, κ, φ, o, h, h6.fr (hx.sub (by decide) (by decide) (by decide) (by decide)) (hm.sub (by decide) (by decide) (by decide) (by decide)) hA⟩⟩
  rw [hx.1 7 (by decide), hm.1 2 (by decide)]; exact h2
/-- how many houses: both say the same -/
theorem R_n {k : Nat} {sx sm : kS} (H : R k sx sm) : ∃ n, n ≤ 6 ∧ gI sx 3 = nI n ∧ gI sm 0 = nI n ∧ (n = 0 ∨ uHn n) := by
  obtain ⟨h1, h2, h3, r, hr, h4, h5, h6⟩ := H
  rcases h6 with h6 | ⟨n, κ, φ, o, h, h6⟩
  · exact ⟨0, by decide, h6.1, h6.2.1, Or.inl rfl⟩
  · exact ⟨n, h6.1.1.2, h6.1.2.1, h6.2.1.2.1, Or.inr h6.1.1⟩
