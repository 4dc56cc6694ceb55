/-! night and nights, both -/
theorem kr_klr {a b : Nat} (ha : a < 2 ^ 63) (h0 : 0 < b) (hb : b < 2 ^ 63) : klr (lN a) (lN b) = lN (a % b) := pk_lRem ha h0 hb
theorem lN_and (x : Int64) : x &&& 2147483647 = lN (x.toBitVec.toNat % 2 ^ 31) := by
  rw [← Int64.toBitVec_inj]
  apply BitVec.eq_of_toNat_eq
  rw [Int64.toBitVec_and, BitVec.toNat_and, show (2147483647 : Int64).toBitVec.toNat = 2 ^ 31 - 1 from by decide, Nat.and_two_pow_sub_one_eq_mod]
  have : x.toBitVec.toNat % 2 ^ 31 < 2 ^ 31 := Nat.mod_lt _ (by decide)
  exact (Nat.mod_eq_of_lt (show x.toBitVec.toNat % 2 ^ 31 < 2 ^ 64 by omega)).symm
theorem kshr_16 {V : Nat} (h : V < 2 ^ 31) : kshr (nI V) 16 = nI (V / 65536) := by
  unfold kshr
  exact pk_shrN h _ 16 (by decide)
section NN
variable {k r n o h : Nat} {κ : Nat → Nat} {φ : Nat → Nat → Bool} {sx sm : kS}
theorem draw_both (A : rAll k r n κ φ o h sx sm) : ∃ d, d < n ∧ ∃ tx tm, fX3_draw_3 sx (gI sx 3) = (nI d, tx) ∧ fX10_draw sm = some (nI d, tm) ∧ rAll k r n κ φ o h tx tm := by
  obtain ⟨a1, a2, a3, a4, a5, a6, hx, hm, hφ, a7, h5, h6, h7, h8, h9, h10, h11, h12⟩ := A
  have hn := hx.1
  have hn6 := hn.2
  have hn3 := hn.1
  have hV : ((1103515245 * (gJ sm 0)) + 12345 : Int64).toBitVec.toNat % 2 ^ 31 < 2 ^ 31 := Nat.mod_lt _ (by decide)
  have eV := lN_and ((1103515245 * (gJ sm 0)) + 12345)
  generalize ((1103515245 * (gJ sm 0)) + 12345 : Int64).toBitVec.toNat % 2 ^ 31 = V at hV eV
  have hV2 : V / 65536 < 2 ^ 31 := Nat.lt_of_le_of_lt (Nat.div_le_self _ _) hV
  have hd : V / 65536 % n < n := Nat.mod_lt _ (by omega)
  have kx : kSame [6] [] [] [] sx (sI sx 6 (nI V)) := kSame.rf.sI (by decide) _
  have km : kSame [] [0] [] [] sm (sJ sm 0 (lN V)) := kSame.rf.sJ (by decide) _
  refine ⟨V / 65536 % n, hd, sI sx 6 (nI V), sJ sm 0 (lN V), ?_, ?_, ?_⟩
  · unfold fX3_draw_3
    rw [hx.2.1, if_neg (nI_nle (by omega) hn.lt), ← a3.2, eV, lN_i, kshr_16 hV, kr_n hV2 (by omega) hn.lt]
  · unfold fX10_draw
    rw [hm.2.1, nI_l hn.lt]
    have e0 : ¬ lN n = 0 := fun q => by
      have := (lN_eq (a := n) (b := 0) hn.lt (by decide)).mp q
      omega
    rw [if_neg e0, eV, show (65536 : Int64) = lN 65536 from rfl, pk_lDiv (by omega) (by decide) (by decide), kr_klr (by omega) (by omega) (by have := hn.lt; omega), lN_i]
  · refine ⟨a1.fr kx km (by decide) (by decide), ?_, ⟨?_, ?_⟩, a4, (kx.1 1 (by decide)).trans a5, (km.1 1 (by decide)).trans a6, hx.same kx (by decide), hm.same km (by decide), hφ, (kx.1 4 (by decide)).trans a7, h5.same kx (by decide), by rw [kx.2.2.1 13 (by decide)]; exact h6, by rw [km.2.2.1 3 (by decide)]; exact h7, by rw [kx.2.2.1 14 (by decide)]; exact h8, by rw [km.2.2.1 4 (by decide)]; exact h9, h10, h11.fr kx km (by decide) (by decide), h12.fr kx km (by decide) (by decide)⟩
    · rw [kx.1 7 (by decide), km.1 2 (by decide)]; exact a2
    · rw [gI_e]; exact nI_pos' hV
    · rw [gI_e, gJ_e, nI_l hV]
theorem night_both (A : rAll k r n κ φ o h sx sm) {d c : Nat} (hd : d < n) (hc3 : c < 3) : ∃ b tx tm, fX9_midnight sx (fX8_around sx (nI d + (nI c - 1))) = some (b01 b, tx) ∧ fX10_goNight sm (nI d) (nI c - 1) = some (b01 b, tm) ∧ rAll k r n κ φ (xStep n κ o (aP n d c)) o tx tm := by
  obtain ⟨a1, a2, a3, a4, a5, a6, hx, hm, hφ, a7, h5, h6, h7, h8, h9, h10, h11, h12⟩ := A
  have hn := hx.1
  have hp := aP_lt (d := d) (c := c) hn
  obtain ⟨⟨b1, tx⟩, hz1, e1, kx, x1, x2, x3⟩ := x_midnight hx h6 hp
  obtain ⟨⟨b2, tm⟩, hz2, e2, km, y1, y2, y3⟩ := m_goNight hm h7 h10 hd hc3
  dsimp only at e1 kx x1 x2 x3 e2 km y1 y2 y3
  refine ⟨_, tx, tm, by rw [hx.around hd hc3, hz1, e1], by rw [hz2, e2], a1.fr kx km (by decide) (by decide), by rw [x3, y3, a2], a3.fr kx km (by decide) (by decide), a4, (kx.1 1 (by decide)).trans a5, (km.1 1 (by decide)).trans a6, hx.same kx (by decide), hm.same km (by decide), hφ, (kx.1 4 (by decide)).trans a7, h5.same kx (by decide), x1, y1, x2, y2, xStep_compat hn h6.1 h10 hp, h11.fr kx km (by decide) (by decide), h12.fr kx km (by decide) (by decide)⟩
theorem uCh_same (hn : uHn n) (ho : o < uF n) (hc : uCompat n κ o) {T : Nat → Nat} (t d : Nat) : uCh (fun c => aS n T (mStep n κ) t (mStep n κ o (aP n d c))) = uCh (fun c => aS n T (xStep n κ) t (xStep n κ o (aP n d c))) := by
  congr 1
  funext c
  have hp := aP_lt (d := d) (c := c) hn
  rw [mStep_eq hn ho hc hp, aS_same hn t _ (xStep_lt hn ho hp) (xStep_compat hn ho hc hp)]
theorem rAll.mayor {tx tm : kS} (A : rAll k r n κ φ o h sx sm) (hx : kSame [12] [] [18, 19, 20, 24, 27, 28, 29, 30] [25, 26] sx tx) (hm : kSame [8, 9, 10, 11, 12, 13, 14, 15] [2] [9, 10, 11, 15, 16, 17, 18, 19, 20, 21] [22, 23] sm tm) (hA : xA n κ φ tx) : rAll k r n κ φ o h tx tm := by
  obtain ⟨a1, a2, a3, a4, a5, a6, a7⟩ := A
  refine ⟨a1.fr hx hm (by decide) (by decide), ?_, a3.fr hx hm (by decide) (by decide), a4, (hx.1 1 (by decide)).trans a5, (hm.1 1 (by decide)).trans a6, a7.fr (hx.sub (by decide) (by decide) (by decide) (by decide)) (hm.sub (by decide) (by decide) (by decide) (by decide)) hA⟩
  rw [hx.1 7 (by decide), hm.1 2 (by decide)]; exact a2
theorem choose_both (A : rAll k r n κ φ o h sx sm) {d t : Nat} (hd : d < n) (ht : t < 5) : ∃ c tx tm, c < 3 ∧ fX2_choice sx (nI o) (nI d) (nI (t + 1)) = some (nI c - 1, tx) ∧ fX10_chooseOf sm (nI d) (nI (t + 1)) = some (nI c - 1, tm) ∧ rAll k r n κ φ o h tx tm := by
  have A0 := A
  obtain ⟨a1, a2, a3, a4, a5, a6, hx, hm, hφ, a7, h5, h6, h7, h8, h9, h10, h11, h12⟩ := A
  obtain ⟨⟨b1, tx⟩, hz1, e1, kx, x1⟩ := x_choice hx hφ h5 h6.1 ht hd
  obtain ⟨⟨b2, tm⟩, hz2, e2, km⟩ := m_chooseOf hm h7 ht hd
  dsimp only at e1 kx x1 e2 km
  rw [uCh_same hx.1 h6.1 h10] at e2
  exact ⟨_, tx, tm, uCh_lt _, by rw [hz1, e1], by rw [hz2, e2], A0.mayor (kx.sub (by decide) (by decide) (by decide) (by decide)) (km.sub (by decide) (by decide) (by decide) (by decide)) x1⟩
theorem number_x (A : rAll k r n κ φ o h sx sm) : fX9_number sx = some (nI o) := by
  obtain ⟨a1, a2, a3, a4, a5, a6, hx, hm, hφ, a7, h5, h6, _⟩ := A
  unfold fX9_number
  rw [x_numberOf hx.1 hx.2.2.2.2.2.1 h6]
  rfl
end NN
theorem sim_night : kH_night R := by
  intro k sx sm x y _ H
  unfold fX9_night fX10_night
  rcases R_has H x with ⟨e1, e2⟩ | ⟨r, n, κ, φ, o, h, j, A, hj, rfl, e1, e2⟩
  · rw [e1, e2]
    exact ⟨_, _, rfl, rfl, rfl, R_mono H (Nat.le_succ k)⟩
  · rw [e1, e2]
    simp only [Option.bind_some]
    rw [if_neg (show ¬ (1 : Int32) = 0 by decide), if_neg (show ¬ (1 : Int32) = 0 by decide), within_n]
    have n1 : (-1 : Int32).toInt = -1 := by decide
    have p1 : (1 : Int32).toInt = 1 := by decide
    by_cases c1 : y < -1
    · rw [if_pos c1, if_neg (show ¬ (-1 ≤ y ∧ y ≤ 1) from fun q => by
        have := q.1
        rw [Int32.le_iff_toInt_le] at this
        rw [Int32.lt_iff_toInt_lt] at c1
        omega), if_pos (show (0 : Int32) = 0 from rfl)]
      exact ⟨_, _, rfl, rfl, rfl, R_mono H (Nat.le_succ k)⟩
    · rw [if_neg c1]
      by_cases c2 : y ≤ 1
      · have hy : ∃ c, c < 3 ∧ y = nI c - 1 := by
          rw [Int32.lt_iff_toInt_lt] at c1
          rw [Int32.le_iff_toInt_le] at c2
          have e : ∀ z : Int32, y.toInt = z.toInt → y = z := fun z q => Int32.toInt_inj.mp q
          rcases (show y.toInt = -1 ∨ y.toInt = 0 ∨ y.toInt = 1 by omega) with q | q | q
          · exact ⟨0, by decide, e _ (q.trans (by decide))⟩
          · exact ⟨1, by decide, e _ (q.trans (by decide))⟩
          · exact ⟨2, by decide, e _ (q.trans (by decide))⟩
        obtain ⟨c, hc, rfl⟩ := hy
        obtain ⟨b, tx, tm, g1, g2, g3⟩ := night_both A hj hc
        rw [if_pos c2, g1, if_pos (show -1 ≤ nI c - 1 ∧ nI c - 1 ≤ 1 from ⟨by rw [Int32.le_iff_toInt_le]; rw [Int32.lt_iff_toInt_lt] at c1; omega, c2⟩), if_neg (show ¬ (1 : Int32) = 0 by decide), g2]
        cases b with
        | true => exact ⟨_, _, rfl, rfl, rfl, g3.R (Nat.le_succ k)⟩
        | false => exact ⟨_, _, rfl, rfl, rfl, g3.R (Nat.le_succ k)⟩
      · rw [if_neg c2, if_neg (show ¬ (-1 ≤ y ∧ y ≤ 1) from fun q => c2 q.2), if_pos (show (0 : Int32) = 0 from rfl)]
        exact ⟨_, _, rfl, rfl, rfl, R_mono H (Nat.le_succ k)⟩
/-- one of the nights -/
theorem nights_one {k r n o h t d c : Nat} {κ : Nat → Nat} {φ : Nat → Nat → Bool} {sx sm : kS} {v1 v2 v4 : Int32} {KX KM GX GM : Int32 → Int32 → kS → Option (Int32 × kS)} (A : rAll k r n κ φ o h sx sm) (hd : d < n) (hc : c < 3) (hG : ∀ t' o' h' tx tm, rAll k r n κ φ o' h' tx tm → ∃ zx zm, GX (nI t') (v4 + 1) tx = some zx ∧ GM (nI t') (v4 + 1) tm = some zm ∧ zx.1 = zm.1 ∧ ∃ o'' h'', rAll k r n κ φ o'' h'' zx.2 zm.2) : ∃ zx zm, fX9_nights_J85 KX GX sx v1 v2 (nI t) v4 (nI d) (nI c - 1) = some zx ∧ fX10_nights_J67 KM GM sm v1 v2 (nI t) v4 (nI c - 1) (nI d) = some zm ∧ zx.1 = zm.1 ∧ ∃ o'' h'', rAll k r n κ φ o'' h'' zx.2 zm.2 := by
  obtain ⟨b, tx, tm, g1, g2, g3⟩ := night_both A hd hc
  unfold fX9_nights_J85 fX10_nights_J67
  rw [g1, g2]
  simp only [Option.bind_some]
  have g4 := g3
  obtain ⟨a1, a2, a3, a4, a5, a6, hx, hm, hφ, a7, h5, h6, h7, _⟩ := g3
  rw [x_touching hx hφ h6, m_touchIn hm h7]
  simp only [Option.bind_some]
  by_cases q : nI (uT n κ φ (xStep n κ o (aP n d c))) ≤ 0
  · rw [if_pos q, if_pos q, l0, nI_add]
    exact hG t _ _ tx tm g4
  · rw [if_neg q, if_neg q, show nI t + 1 = nI (t + 1) from nI_1 t]
    exact hG (t + 1) _ _ tx tm g4
theorem nights_all {k r n N w : Nat} {κ : Nat → Nat} {φ : Nat → Nat → Bool} (hN : N < 1000) (hw : w < 2) : ∀ e F i t o h sx sm, i + e = N → e + 1 ≤ F → rAll k r n κ φ o h sx sm → ∃ zx zm, fX9_nights_L41 (fun v3 _ s => some (v3, s)) (nI N) (nI w) F (nI t) (nI i) sx = some zx ∧ fX10_nights_L37 (fun v3 _ s => some (v3, s)) (nI N) (nI w) F (nI t) (nI i) sm = some zm ∧ zx.1 = zm.1 ∧ ∃ o'' h'', rAll k r n κ φ o'' h'' zx.2 zm.2 := by
  intro e
  induction e with
  | zero =>
    intro F i t o h sx sm hi hF A
    obtain ⟨F, rfl⟩ : ∃ F', F = F' + 1 := ⟨F - 1, by omega⟩
    refine ⟨(nI t, sx), (nI t, sm), ?_, ?_, rfl, o, h, A⟩
    · show fX9_nights_L41_B _ _ sx (nI N) (nI w) (nI t) (nI i) = _
      unfold fX9_nights_L41_B
      rw [if_pos (nI_le (by omega) (n_lt31 (by omega)))]
    · show fX10_nights_L37_B _ _ sm (nI N) (nI w) (nI t) (nI i) = _
      unfold fX10_nights_L37_B
      rw [if_pos (nI_le (by omega) (n_lt31 (by omega)))]
  | succ e ih =>
    intro F i t o h sx sm hi hF A
    obtain ⟨F, rfl⟩ : ∃ F', F = F' + 1 := ⟨F - 1, by omega⟩
    have hG : ∀ t' o' h' tx tm, rAll k r n κ φ o' h' tx tm → ∃ zx zm, fX9_nights_L41 (fun v3 _ s => some (v3, s)) (nI N) (nI w) F (nI t') (nI i + 1) tx = some zx ∧ fX10_nights_L37 (fun v3 _ s => some (v3, s)) (nI N) (nI w) F (nI t') (nI i + 1) tm = some zm ∧ zx.1 = zm.1 ∧ ∃ o'' h'', rAll k r n κ φ o'' h'' zx.2 zm.2 := fun t' o' h' tx tm B => by
      rw [show nI i + 1 = nI (i + 1) from nI_1 i]
      exact ih F (i + 1) t' o' h' tx tm (by omega) (by omega) B
    obtain ⟨d, hd, tx, tm, g1, g2, B⟩ := draw_both A
    show ∃ zx zm, fX9_nights_L41_B _ _ sx (nI N) (nI w) (nI t) (nI i) = some zx ∧ fX10_nights_L37_B _ _ sm (nI N) (nI w) (nI t) (nI i) = some zm ∧ _
    unfold fX9_nights_L41_B fX10_nights_L37_B
    rw [if_neg (nI_ge (show i < N by omega) (n_lt31 (by omega))), if_neg (nI_ge (show i < N by omega) (n_lt31 (by omega))), g1, g2]
    simp only [Option.bind_some]
    rcases (show w = 0 ∨ w = 1 by omega) with rfl | rfl
    · rw [if_pos (show nI 0 = 0 from rfl), if_pos (show nI 0 = 0 from rfl), show (0 : Int32) = nI 1 - 1 from by decide]
      exact nights_one B hd (by decide) hG
    · rw [if_neg (show ¬ nI 1 = 0 by decide), if_neg (show ¬ nI 1 = 0 by decide), number_x B]
      obtain ⟨c, ux, um, hc, f1, f2, C⟩ := choose_both B (t := 1) hd (by decide)
      simp only [Option.bind_some]
      rw [show (2 : Int32) = nI (1 + 1) from rfl, f1, f2]
      simp only [Option.bind_some]
      exact nights_one C hd hc hG
theorem sim_nights : kH_nights R := by
  intro k sx sm x y _ H
  unfold fX9_nights fX10_nights
  rcases R_stands H with ⟨e1, e2, _⟩ | ⟨r, n, κ, φ, o, h, A, e1, e2⟩
  · rw [if_pos e1, if_pos e2]
    exact ⟨_, _, rfl, rfl, rfl, R_mono H (Nat.le_succ k)⟩
  · rw [if_neg (show ¬ fX8_stands sx = 0 by rw [e1]; decide), if_neg e2]
    have t60 : (60 : Int32).toInt = 60 := by decide
    have t1 : (1 : Int32).toInt = 1 := by decide
    have w60 := within_n (v := x) (lo := 1) (hi := 60)
    rcases rng x 60 (by decide) with ⟨N, hN, rfl, w1, w2, w3, _⟩ | ⟨w1, _, _⟩ | ⟨w1, w2, w3, _, _⟩
    · by_cases c1 : N = 0
      · rw [w60, if_pos (show nI N < 1 by rw [c1]; decide), if_neg (show ¬ (1 ≤ nI N ∧ nI N ≤ 60) by rw [c1]; decide), if_pos (show (0 : Int32) = 0 from rfl)]
        exact ⟨_, _, rfl, rfl, rfl, R_mono H (Nat.le_succ k)⟩
      · rw [w60, if_neg (show ¬ nI N < 1 from nI_nlt (b := 1) (by omega) (n_lt31 (by omega))), if_neg (show ¬ 60 < nI N from w3), if_pos (show 1 ≤ nI N ∧ nI N ≤ 60 from ⟨nI_le (a := 1) (by omega) (n_lt31 (by omega)), w2⟩), if_neg (show ¬ (1 : Int32) = 0 by decide)]
        rcases rng y 1 (by decide) with ⟨w, hw, rfl, v1, v2, v3, vw⟩ | ⟨v1, vw, _⟩ | ⟨v1, v2, v3, vw, _⟩
        · rw [show fX10_within (nI w) 0 1 = 1 from vw, if_neg (show ¬ (1 : Int32) = 0 by decide), if_neg v1, if_pos (show nI w ≤ 1 from v2)]
          obtain ⟨zx, zm, g1, g2, g3, o2, h2, B⟩ := nights_all (w := w) (N := N) (by omega) (by omega) N kFU 0 0 o h sx sm (by omega) (by show _ ≤ 60000; omega) A
          exact ⟨zx, zm, g1, g2, g3, B.R (Nat.le_succ k)⟩
        · rw [show fX10_within y 0 1 = 0 from vw, if_pos (show (0 : Int32) = 0 from rfl), if_pos v1]
          exact ⟨_, _, rfl, rfl, rfl, R_mono H (Nat.le_succ k)⟩
        · rw [show fX10_within y 0 1 = 0 from vw, if_pos (show (0 : Int32) = 0 from rfl), if_neg v1, if_neg (show ¬ y ≤ 1 from v2)]
          exact ⟨_, _, rfl, rfl, rfl, R_mono H (Nat.le_succ k)⟩
    · rw [w60, if_pos (show x < 1 by rw [Int32.lt_iff_toInt_lt] at w1 ⊢; have : (0 : Int32).toInt = 0 := rfl; omega), if_neg (show ¬ (1 ≤ x ∧ x ≤ 60) from fun q => by
        have := q.1
        rw [Int32.le_iff_toInt_le] at this
        rw [Int32.lt_iff_toInt_lt] at w1
        have : (0 : Int32).toInt = 0 := rfl
        omega), if_pos (show (0 : Int32) = 0 from rfl)]
      exact ⟨_, _, rfl, rfl, rfl, R_mono H (Nat.le_succ k)⟩
    · rw [w60, if_neg (show ¬ (1 ≤ x ∧ x ≤ 60) from fun q => w2 q.2), if_pos (show (0 : Int32) = 0 from rfl), if_neg (show ¬ x < 1 from fun q => by
        have w3' : (60 : Int32) < x := w3
        rw [Int32.lt_iff_toInt_lt] at q w3'
        omega), if_pos (show 60 < x from w3)]
      exact ⟨_, _, rfl, rfl, rfl, R_mono H (Nat.le_succ k)⟩
