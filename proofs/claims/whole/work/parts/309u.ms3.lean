-- the reference's reader: a module
section MS3
variable {own own' own2 : Nat → Nat} {mm nm en0 en b e E p : Nat} {A A' A2 : Nat → Nat} {h h' h2 : xb_H} {F F' F2 : Nat → Nat → Int32} {v v' cb : Nat → Int32} {ct fs : Nat → Nat} {P : Nat → Nat → Nat}
theorem mE.sF {s : Nat} {w : Int32} (hB : mB own mm A h) (hE : mE A nm en0 en b E cb F ct fs P) (hs : s < 12) (hc : ct s = 0) (hw : w.toInt = en) : mE A nm en0 en b E cb (va_up F (A 8) (va_up (F (A 8)) (12 * nm + s) w)) ct (va_up fs s en) P := by
  have n8 : ∀ k, k ∈ [9, 10, 11] → A k ≠ A 8 := fun k hk => by
    have : ∀ k, k ∈ [9, 10, 11] → (∃ e ∈ aL, e.1 = k) ∧ k ≠ 8 := by decide
    exact hB.ne (this k hk).1 (by decide) (this k hk).2
  refine ⟨fun i hi => ?_, fun κ hκ => ?_⟩
  · obtain ⟨a1, a2, a3, a4⟩ := hE.1 i hi
    rw [xh_up F, if_neg (n8 9 (by decide)), xh_up F, if_pos rfl, xh_up F, if_neg (n8 11 (by decide))]
    by_cases his : i = s
    · subst his
      rw [xh_up, if_pos rfl, xh_up, if_pos rfl]
      exact ⟨a1, hw, fun h0 => by omega, fun k hk => by omega⟩
    · rw [xh_up, if_neg (by omega), xh_up, if_neg his]
      exact ⟨a1, a2, a3, a4⟩
  · rw [xh_up F, if_neg (n8 10 (by decide))]
    exact hE.2 κ hκ
/-- where the reading of a module stands -/
def rmS (A : Nat → Nat) (nm en0 en b E : Nat) (cb : Nat → Int32) (F : Nat → Nat → Int32) (v : Nat → Int32) (last : Int) : Prop :=
  ∃ (p : Nat) (ct fs : Nat → Nat) (P : Nat → Nat → Nat), (v 15).toInt = p ∧ b ≤ p ∧ p ≤ E ∧ en0 ≤ en ∧ en ≤ p ∧ 0 ≤ last ∧ mE A nm en0 en b E cb F ct fs P ∧ ∀ j : Nat, last < j → ct j = 0
/-- what reading a module leaves -/
def rmQ (mm nm en0 b E : Nat) (cb : Nat → Int32) (own A : Nat → Nat) (h : xb_H) (F : Nat → Nat → Int32) (v : Nat → Int32) (rc rs : Nat) (Qr : xb_H → Nat → Nat → Prop) : Prop :=
  ∀ (own' A' : Nat → Nat) (h' : xb_H) (F' : Nat → Nat → Int32) (v' : Nat → Int32) (en' len' bc' bs' : Nat), ldF mm nm en0 own A h F own' A' h' F' → lenE A' h' len' → bgE len' rc rs bc' bs' → (∀ j, j ≠ 13 → j ≠ 15 → j ≠ 16 → j ≠ 17 → j ≠ 18 → v' j = v j) → (v' 13).toInt = en' → en' ≤ len' → (v' 17 = 0 → en0 ≤ en' ∧ en' ≤ E ∧ ∃ ct fs P, mE A' nm en0 en' b E cb F' ct fs P ∧ ct 10 = ct 3) → Qr (mH h' F' mm v') bc' bs'
theorem mE.z0 (hE : mE A nm en0 en b E cb F ct fs P) : ct 0 = 0 := by
  rcases Nat.eq_zero_or_pos (ct 0) with h | h
  · exact h
  · obtain ⟨-, -, q, hq, -⟩ := (hE.1 0 (by decide)).2.2.2 0 h
    exact hq.elim
theorem m_readModuleL {x1 : Int32} {rc rs : Nat} {Qr : xb_H → Nat → Nat → Prop} (hby : ∀ j, -128 ≤ (cb j).toInt ∧ (cb j).toInt ≤ 127) (h1 : x1.toInt = E) (hnm : nm < 64) (hE2 : E ≤ 12000) :
    ∀ (m : Nat) (x3 : Int32) (own A : Nat → Nat) (h : xb_H) (F : Nat → Nat → Int32) (v : Nat → Int32) (en len bc bs : Nat), mB own mm A h → rdH mm (A 3) 16384 b E cb h F → (v 5).toInt = nm → (v 13).toInt = en → lenE A h len → en ≤ len → bgE len rc rs bc bs → (v 17 = 0 → E - (v 15).toInt.toNat + 1 ≤ m) → (v 17 = 0 → rmS A nm en0 en b E cb F v x3.toInt) → rmQ mm nm en0 b E cb own A h F v rc rs Qr → w_M_readModule_L111 Qr (m + 1) mm x1 x3 (mH h F mm v) bc bs := by
  -- the end
  have L281 : ∀ (own A : Nat → Nat) (h : xb_H) (F : Nat → Nat → Int32) (v : Nat → Int32) (en len bc bs : Nat), mB own mm A h → (v 5).toInt = nm → (v 13).toInt = en → lenE A h len → en ≤ len → bgE len rc rs bc bs → (v 17 = 0 → en0 ≤ en ∧ en ≤ E ∧ ∃ ct fs P, mE A nm en0 en b E cb F ct fs P) → rmQ mm nm en0 b E cb own A h F v rc rs Qr → w_M_readModule_L281 Qr mm x1 (mH h F mm v) bc bs := by
    intro own A h F v en len bc bs hB h5 h13 hl hen hb hok hQ
    obtain ⟨g1, g2, -, g4⟩ := hB.g (k := 9) (kd := 102) (n := 768) (by decide)
    have g4 : xb_n h (A 9) = 768 := g4.elim (fun h => by omega) id
    have n9 : A 9 ≠ mm := hB.nm (by decide)
    have e10 : (12 * v 5 + 10).toInt = (12 * nm + 10 : Nat) := z_12 h5 rfl hnm (by decide)
    have e3 : (12 * v 5 + 3).toInt = (12 * nm + 3 : Nat) := z_12 h5 rfl hnm (by decide)
    unfold w_M_readModule_L281 w_M_readModule_L327
    rw [mH_i]
    refine ⟨hB.2.1, fun hn => hQ own A h F v en len bc bs (ldF.rf hB) hl hb (fun _ _ _ _ _ _ => rfl) h13 hen (fun hz => absurd hz hn), fun hz => ⟨A 9, g1, g2, ?_, A 9, g1, g2, ?_, ?_, fun _ => ?_⟩⟩
    · rw [z_in, e10]
      show _ ∧ _ < ((xb_n h (A 9) : Nat) : Int)
      omega
    · rw [z_in, e3]
      show _ ∧ _ < ((xb_n h (A 9) : Nat) : Int)
      omega
    · rw [mH_o n9, z_cl, z_cl, e10, e3, Int.toNat_natCast, Int.toNat_natCast]
      intro he
      obtain ⟨c1, c2, ct, fs, P, c3⟩ := hok hz
      refine hQ own A h F v en len bc bs (ldF.rf hB) hl hb (fun _ _ _ _ _ _ => rfl) h13 hen (fun _ => ⟨c1, c2, ct, fs, P, c3, ?_⟩)
      have d1 := (c3.1 10 (by decide)).1
      have d2 := (c3.1 3 (by decide)).1
      rw [he] at d1
      omega
    · exact m_fail hB.2.1 (by decide) (fun v' g1 g2 _ => hQ own A h F v' en len bc bs (ldF.rf hB) hl hb (fun j _ _ _ j4 j5 => g1 j j4 j5) (by rw [g1 13 (by decide) (by decide)]; exact h13) hen (fun h9 => absurd h9 g2))
  have dead : ∀ (m : Nat) (x3 : Int32) (own A : Nat → Nat) (h : xb_H) (F : Nat → Nat → Int32) (v : Nat → Int32) (en len bc bs : Nat), mB own mm A h → (v 5).toInt = nm → (v 13).toInt = en → lenE A h len → en ≤ len → bgE len rc rs bc bs → v 17 ≠ 0 → rmQ mm nm en0 b E cb own A h F v rc rs Qr → w_M_readModule_L111 Qr (m + 1) mm x1 x3 (mH h F mm v) bc bs := by
    intro m x3 own A h F v en len bc bs hB h5 h13 hl hen hb hn hQ
    unfold w_M_readModule_L111
    rw [mH_i]
    exact ⟨hB.2.1, fun _ => L281 own A h F v en len bc bs hB h5 h13 hl hen hb (fun hz => absurd hz hn) hQ, fun hz => absurd hz hn⟩
  intro m
  induction m with
  | zero =>
    intro x3 own A h F v en len bc bs hB hs h5 h13 hl hen hb hm hS hQ
    by_cases hz : v 17 = 0
    · have := hm hz
      omega
    · exact dead 0 x3 own A h F v en len bc bs hB h5 h13 hl hen hb hz hQ
  | succ m ih =>
    intro x3 own A h F v en len bc bs hB hs h5 h13 hl hen hb hm hS hQ
    by_cases hz : v 17 = 0
    · obtain ⟨p, ct, fs, P, c1, c2, c3, c4, c5, c6, c7, c8⟩ := hS hz
      have hm := hm hz
      rw [c1, Int.toNat_natCast] at hm
      unfold w_M_readModule_L111
      rw [mH_i]
      refine ⟨hB.2.1, fun hn => absurd hz hn, fun _ => ⟨fun hle => L281 own A h F v en len bc bs hB h5 h13 hl hen hb (fun _ => ⟨c4, by omega, ct, fs, P, c7⟩) hQ, fun hle v4 e4 h5' e5 => ?_⟩⟩
      rw [z_le, h1, c1] at hle
      rw [mH_I] at e5
      subst e5
      obtain ⟨w, hw⟩ : ∃ w : Nat → Int32, w = va_up v 16 x1 := ⟨_, rfl⟩
      rw [← hw]
      have wj : ∀ j, j ≠ 16 → w j = v j := fun j hj => by rw [hw, xh_up, if_neg hj]
      have Pw : rdP w b p E := ⟨by rw [wj 15 (by decide)]; exact c1, by rw [hw, xh_up, if_pos rfl]; exact h1, c2, c3⟩
      refine m_next hs Pw (fun r v1 p1 o1 f1 b1 _ => ?_)
      have z1 : v1 17 = 0 := b1 (by rw [wj 17 (by decide)]; exact hz) ⟨p + 1, _, ⟨rfl, rfl⟩, by omega⟩
      obtain ⟨f2, f3⟩ := f1 z1
      subst f2 f3
      have hr := ub_r (cb := cb) (p := p)
      have P1 := o1.P Pw
      -- frames from v on
      have fr : ∀ v2 : Nat → Int32, (∀ j, j ≠ 15 → j ≠ 17 → j ≠ 18 → v2 j = v1 j) → ∀ j, j ≠ 13 → j ≠ 15 → j ≠ 16 → j ≠ 17 → j ≠ 18 → v2 j = v j := fun v2 h9 j j1 j2 j3 j4 j5 => by rw [h9 j j2 j4 j5, o1.1 j j2 j4 j5, wj j j3]
      have v15 : (v1 5).toInt = nm := by rw [o1.1 5 (by decide) (by decide) (by decide), wj 5 (by decide)]; exact h5
      have v113 : (v1 13).toInt = en := by rw [o1.1 13 (by decide) (by decide) (by decide), wj 13 (by decide)]; exact h13
      have hQv : ∀ v2 : Nat → Int32, (∀ j, j ≠ 13 → j ≠ 15 → j ≠ 16 → j ≠ 17 → j ≠ 18 → v2 j = v j) → rmQ mm nm en0 b E cb own A h F v2 rc rs Qr := fun v2 hv2 own' A' h' F' v' en' len' bc' bs' L hl' hb' hf' => hQ own' A' h' F' v' en' len' bc' bs' L hl' hb' (fun j j1 j2 j3 j4 j5 => (hf' j j1 j2 j3 j4 j5).trans (hv2 j j1 j2 j3 j4 j5))
      have die : ∀ v2 : Nat → Int32, (∀ j, j ≠ 15 → j ≠ 17 → j ≠ 18 → v2 j = v1 j) → v2 17 ≠ 0 → w_M_readModule_L278 (w_M_readModule_L111 Qr (m + 1)) Qr mm x1 x3 (mH h F mm v2) bc bs := fun v2 h9 hn => by
        unfold w_M_readModule_L278
        exact dead m x3 own A h F v2 en len bc bs hB (by rw [h9 5 (by decide) (by decide) (by decide)]; exact v15) (by rw [h9 13 (by decide) (by decide) (by decide)]; exact v113) hl hen hb hn (hQv v2 (fr v2 h9))
      have die222 : ∀ (v2 : Nat → Int32) (y : Int64), (∀ j, j ≠ 15 → j ≠ 17 → j ≠ 18 → v2 j = v1 j) → v2 17 ≠ 0 → w_M_readModule_L222 (w_M_readModule_L111 Qr (m + 1)) Qr mm x1 x3 (ub cb p) y (mH h F mm v2) bc bs := fun v2 y h9 hn => by
        unfold w_M_readModule_L222
        rw [mH_i]
        exact ⟨hB.2.1, fun _ => die v2 h9 hn, fun hz => absurd hz hn⟩
      have die179 : ∀ v2 : Nat → Int32, (∀ j, j ≠ 15 → j ≠ 17 → j ≠ 18 → v2 j = v1 j) → v2 17 ≠ 0 → w_M_readModule_L179 (w_M_readModule_L111 Qr (m + 1)) Qr mm x1 x3 (ub cb p) (mH h F mm v2) bc bs := fun v2 h9 hn => by
        unfold w_M_readModule_L179 w_M_readModule_L194
        rw [mH_i]
        exact ⟨hB.2.1, fun _ => ⟨hB.2.1, fun _ => die222 v2 _ h9 hn, fun hz => absurd hz hn⟩, fun hz => absurd hz hn⟩
      have L179 : ∀ s : Nat, (ub cb p).toInt = s → s < 12 → (s = 0 ∨ x3.toInt < s) → w_M_readModule_L179 (w_M_readModule_L111 Qr (m + 1)) Qr mm x1 x3 (ub cb p) (mH h F mm v1) bc bs := by
        intro s hs1 hs2 hs3
        have cs0 : ct s = 0 := by
          rcases hs3 with e9 | e9
          · subst e9
            exact c7.z0
          · exact c8 s e9
        unfold w_M_readModule_L179
        rw [mH_i]
        refine ⟨hB.2.1, fun hn => absurd z1 hn, fun _ => m_count hs P1 (fun n v2 p2 o2 f2 _ _ => ?_)⟩
        have h9 : ∀ j, j ≠ 15 → j ≠ 17 → j ≠ 18 → v2 j = v1 j := o2.1
        have P2 := o2.P P1
        have ez : (x1 - v2 15).toInt = (E : Int) - p2 := by
          rw [z_sub, h1, P2.1]
          have := P2.2.2.2
          omega
        unfold w_M_readModule_L194
        rw [mH_i]
        refine ⟨hB.2.1, fun hn => die222 v2 _ h9 hn, fun hz2 => ⟨fun hle2 => ?_, fun _ => m_fail hB.2.1 (by decide) (fun v' g1 g2 _ => die222 v' _ (fun j j1 j2 j3 => (g1 j j2 j3).trans (h9 j j1 j2 j3)) g2)⟩⟩
        have hb2 := rC_b (f2 hz2)
        rw [Z_lim, ez] at hle2
        obtain ⟨e', he'⟩ : ∃ e' : Nat, e' = p2 + n.toInt.toNat := ⟨_, rfl⟩
        have hee : e' ≤ E := by omega
        unfold w_M_readModule_L222
        rw [mH_i]
        refine ⟨hB.2.1, fun hn => absurd hz2 hn, fun _ h3 e3 => ?_⟩
        rw [mH_I] at e3
        subst e3
        have e16 : (v2 15 + Int64.toInt32 n).toInt = e' := by
          have e4 : (Int64.toInt32 n).toInt = n.toInt := by
            rw [z_of64]
            omega
          rw [z_add, P2.1, e4]
          have := P2.2.2.2
          omega
        obtain ⟨u, hu⟩ : ∃ u : Nat → Int32, u = va_up v2 16 (v2 15 + Int64.toInt32 n) := ⟨_, rfl⟩
        rw [← hu]
        have uj : ∀ j, j ≠ 16 → u j = v2 j := fun j hj => by rw [hu, xh_up, if_neg hj]
        have u5 : (u 5).toInt = nm := by rw [uj 5 (by decide), h9 5 (by decide) (by decide) (by decide)]; exact v15
        have u13 : (u 13).toInt = en := by rw [uj 13 (by decide), h9 13 (by decide) (by decide) (by decide)]; exact v113
        have Pu : rdP u b p2 e' := ⟨by rw [uj 15 (by decide)]; exact P2.1, by rw [hu, xh_up, if_pos rfl]; exact e16, P2.2.2.1, by omega⟩
        have uf : ∀ j, j ≠ 13 → j ≠ 15 → j ≠ 16 → j ≠ 17 → j ≠ 18 → u j = v j := fun j j1 j2 j3 j4 j5 => by rw [uj j j3]; exact fr v2 h9 j j1 j2 j3 j4 j5
        obtain ⟨g1, g2, -, g4⟩ := hB.g (k := 8) (kd := 102) (n := 768) (by decide)
        have g4 : xb_n h (A 8) = 768 := g4.elim (fun h => by omega) id
        have n8 : A 8 ≠ mm := hB.nm (by decide)
        have e12 : (12 * u 5 + ub cb p).toInt = (12 * nm + s : Nat) := z_12 u5 hs1 hnm hs2
        rw [mH_i]
        refine ⟨A 8, g1, g2, ?_, fun h7 e7 => ?_⟩
        · rw [z_in, e12]
          show _ ∧ _ < ((xb_n h (A 8) : Nat) : Int)
          omega
        rw [mH_A n8, show (12 * u 5 + ub cb p).toNatClampNeg = 12 * nm + s from by rw [z_cl, e12]; omega] at e7
        subst e7
        have E1 := c7.sF (s := s) (w := u 13) hB hs2 cs0 u13
        have L0 := ldF.up (nm := nm) (en0 := en0) (F := F) hB (k := 8) (f := va_up (F (A 8)) (12 * nm + s) (u 13)) (by decide) (fun _ j hj => by rw [xh_up, if_neg (by omega)]) (fun e => by omega) (fun e => by omega)
        refine m_section (en := en) hB ((L0.rd hB hs).sub hee) hby Pu hs1 hs2 u5 hnm u13 hl hen (by omega) (by omega) hee c4 hb (by rw [uj 17 (by decide)]; exact hz2) E1 (by rw [xh_up, if_pos rfl]) cs0 (fun own1 A1 g F1 v3 p3 en1 len1 bc1 bs1 L1 hl1 hb1 hf1 h15 hp1 hp2 h13' hen1 hok _ => ?_)
        have B1 := L1.2.1
        have LL := ldF.tr hB L0 L1
        have v3f : ∀ j, j ≠ 13 → j ≠ 15 → j ≠ 16 → j ≠ 17 → j ≠ 18 → v3 j = v j := fun j j1 j2 j3 j4 j5 => (hf1 j j1 j2 j4 j5).trans (uf j j1 j2 j3 j4 j5)
        have hQ1 : rmQ mm nm en0 b E cb own1 A1 g F1 v3 rc rs Qr := fun own' A' h' F' v' en' len' bc' bs' L hl' hb' hf' => hQ own' A' h' F' v' en' len' bc' bs' (ldF.tr hB LL L) hl' hb' (fun j j1 j2 j3 j4 j5 => (hf' j j1 j2 j3 j4 j5).trans (v3f j j1 j2 j3 j4 j5))
        have K : ∀ y : Int32, (∀ ct' : Nat → Nat, (∀ j, j ≠ s → ct' j = ct j) → ct' 0 = 0 → 0 ≤ y.toInt ∧ ∀ j : Nat, y.toInt < j → ct' j = 0) → w_M_readModule_L277 (w_M_readModule_L111 Qr (m + 1)) Qr mm x1 y (mH g F1 mm v3) bc1 bs1 := by
          intro y hy
          unfold w_M_readModule_L277 w_M_readModule_L278
          refine ih y own1 A1 g F1 v3 en1 len1 bc1 bs1 B1 (LL.rd hB hs) (by rw [hf1 5 (by decide) (by decide) (by decide) (by decide)]; exact u5) h13' hl1 hen1 hb1 (fun hz3 => ?_) (fun hz3 => ?_) hQ1
          · rw [h15, Int.toNat_natCast]
            omega
          · obtain ⟨d1, d2, d3, ct', P', d4, d5⟩ := hok hz3
            obtain ⟨y1, y2⟩ := hy ct' d5 d4.z0
            exact ⟨p3, ct', _, P', h15, by have := P2.2.2.1; omega, by omega, d1, d2, y1, d4, y2⟩
        refine ⟨fun hle3 => K x3 (fun ct' d5 d6 => ⟨c6, fun j hj => ?_⟩), fun hle3 => K (ub cb p) (fun ct' d5 d6 => ⟨by omega, fun j hj => ?_⟩)⟩
        · rw [z_le, hs1] at hle3
          simp only [Int32.reduceToInt] at hle3
          rw [d5 j (by omega)]
          exact c8 j hj
        · rw [z_le, hs1] at hle3
          simp only [Int32.reduceToInt] at hle3
          rw [d5 j (by omega)]
          exact c8 j (by omega)
      obtain ⟨s, hsu⟩ : ∃ s : Nat, (ub cb p).toInt = s := ⟨(ub cb p).toInt.toNat, by omega⟩
      refine ⟨fun k11 => ⟨fun k0 => L179 s hsu ?_ ?_, fun k0 => ⟨fun kl => L179 s hsu ?_ ?_, fun _ => m_fail hB.2.1 (by decide) (fun v' g1 g2 _ => die179 v' (fun j _ j2 j3 => g1 j j2 j3) g2)⟩⟩, fun _ => m_fail hB.2.1 (by decide) (fun v' g1 g2 _ => die179 v' (fun j _ j2 j3 => g1 j j2 j3) g2)⟩
      all_goals
        simp only [z_le, z_lt, hsu, Int32.reduceToInt] at *
        omega
    · exact dead (m + 1) x3 own A h F v en len bc bs hB h5 h13 hl hen hb hz hQ
theorem ldF.new (hB : mB own mm A h) {q n : Nat} {f : Nat → Int32} (hq : xb_k h q = 0) : ldF mm nm en0 own A h F (fun a => if a = q then 199 else own a) A (xb_new h q 102 n) (va_up F q f) := by
  have nq : ∀ a, xb_k h a ≠ 0 → a ≠ q := fun a ha e => ha (by rw [e]; exact hq)
  have na : ∀ k, (∃ e ∈ aL, e.1 = k) → A k ≠ q := fun k ⟨e, he1, he2⟩ => by
    have := hB.pk e he1
    rw [he2] at this
    exact nq _ this
  have qm : mm ≠ q := nq mm (by rw [hB.2.1]; decide)
  refine ⟨zT.new hq (by decide) rfl, ⟨by dsimp only; rw [if_neg qm]; exact hB.1, by rw [xh_kN, if_neg qm]; exact hB.2.1, fun e he => ?_⟩, fun _ _ _ => rfl, fun a ha _ _ => by rw [xh_up, if_neg (nq a ha)], fun j _ => ⟨by rw [xh_up, if_neg (na 8 (by decide))], by rw [xh_up, if_neg (na 9 (by decide))]⟩, fun j _ => by rw [xh_up, if_neg (na 10 (by decide))], fun j _ => ⟨by rw [xh_up, if_neg (na 11 (by decide))], by rw [xh_up, if_neg (na 12 (by decide))]⟩, fun a ha _ => ⟨by rw [xh_lN, if_neg (nq a ha)], by rw [xh_rN, if_neg (nq a ha)], by rw [xh_kN, if_neg (nq a ha)], by rw [xh_nN, if_neg (nq a ha)]⟩, fun k _ => by rw [xh_lN, if_neg qm], fun a ha => ?_, fun k hk => ⟨.inl rfl, by rw [xh_nN, if_neg (na k ((by decide : ∀ k, k ∈ [11, 12] → ∃ e ∈ aL, e.1 = k) k hk))]; exact Nat.le_refl _⟩⟩
  · obtain ⟨g1, g2, g3, g4⟩ := hB.2.2 e he
    have hn := nq _ (hB.pk e he)
    dsimp only
    rw [xh_rN, if_neg qm, xh_kN, if_neg hn, xh_nN, if_neg hn, if_neg hn]
    exact ⟨g1, g2, g3, g4⟩
  · rw [xh_kN] at ha
    split at ha
    · omega
    · exact ha
theorem m_readModule {x1 : Int32} {len rc rs bc bs : Nat} {Qr : xb_H → Nat → Nat → Prop} (hby : ∀ j, -128 ≤ (cb j).toInt ∧ (cb j).toInt ≤ 127) (h1 : x1.toInt = E) (hnm : nm < 64) (hE2 : E ≤ 12000) (hB : mB own mm A h) (hs : rdH mm (A 3) 16384 b E cb h F) (h5 : (v 5).toInt = nm) (h13 : (v 13).toInt = en0) (h14 : (v 14).toInt = b) (hl : lenE A h len) (hen : en0 ≤ len) (hb : bgE len (rc + 1) (rs + 8) bc bs) (hen0 : en0 ≤ b) (hbE : b ≤ E) (hE : mE A nm en0 en0 b E cb F (fun _ => 0) fs P)
    (hQ : rmQ mm nm en0 b E cb own A h F v rc rs Qr) : w_M_readModule mm x1 (mH h F mm v) bc bs Qr := by
  obtain ⟨b1, b2⟩ := id hb
  unfold w_M_readModule
  refine ⟨by omega, by omega, fun q1 hq1 h2 e2 => ?_⟩
  have hq : xb_k h q1 = 0 := hq1
  have qm : q1 ≠ mm := fun e => by rw [e, hB.2.1] at hq; omega
  rw [mH_N qm] at e2
  subst e2
  have hn : xb_n (xb_new h q1 102 8) q1 = 8 := by rw [xh_nN, if_pos rfl]
  have hk : xb_k (xb_new h q1 102 8) q1 = 102 := by rw [xh_kN, if_pos rfl]
  have inn : ∀ (f : Nat → Int32) (c : Int32), 0 ≤ c.toInt → c.toInt < 8 → vp_in c (xb_n (mH (xb_new h q1 102 8) (va_up F q1 f) mm v) q1) := fun f c c1 c2 => by
    rw [z_in]
    show _ ∧ _ < ((xb_n (xb_new h q1 102 8) q1 : Nat) : Int)
    rw [hn]
    exact ⟨c1, c2⟩
  refine ⟨inn _ 0 (by decide) (by decide), fun h5' e5 => ?_⟩
  rw [mH_AA qm] at e5; subst e5
  refine ⟨inn _ 1 (by decide) (by decide), fun h7 e7 => ?_⟩
  rw [mH_AA qm] at e7; subst e7
  refine ⟨inn _ 2 (by decide) (by decide), fun h9 e9 => ?_⟩
  rw [mH_AA qm] at e9; subst e9
  refine ⟨inn _ 3 (by decide) (by decide), fun h11 e11 => ?_⟩
  rw [mH_AA qm] at e11; subst e11
  refine ⟨inn _ 4 (by decide) (by decide), fun h13' e13 => ?_⟩
  rw [mH_AA qm] at e13; subst e13
  refine ⟨inn _ 5 (by decide) (by decide), fun h15 e15 => ?_⟩
  rw [mH_AA qm] at e15; subst e15
  refine ⟨inn _ 6 (by decide) (by decide), fun h17 e17 => ?_⟩
  rw [mH_AA qm] at e17; subst e17
  refine ⟨inn _ 7 (by decide) (by decide), fun h19 e19 => ?_⟩
  rw [mH_AA qm] at e19; subst e19
  generalize va_up (va_up (va_up (va_up (va_up (va_up (va_up (va_up (fun _ => (0 : Int32)) _ _) _ _) _ _) _ _) _ _) _ _) _ _) _ _ = f
  have L0 := ldF.new (nm := nm) (en0 := en0) (F := F) hB (n := 8) (f := f) hq
  have B1 := L0.2.1
  have S1 : rdH mm (A 3) 16384 b E cb (xb_new h q1 102 8) (va_up F q1 f) := L0.rd hB hs
  have nq : ∀ k, (∃ e ∈ aL, e.1 = k) → A k ≠ q1 := fun k ⟨e, he1, he2⟩ e9 => by
    have := hB.pk e he1
    rw [he2, e9] at this
    exact this hq
  have E1 : mE A nm en0 en0 b E cb (va_up F q1 f) (fun _ => 0) fs P := by
    refine ⟨fun i hi => ?_, fun κ hκ => ?_⟩
    · rw [xh_up F, if_neg (nq 9 (by decide)), xh_up F, if_neg (nq 8 (by decide)), xh_up F, if_neg (nq 11 (by decide))]
      exact hE.1 i hi
    · rw [xh_up F, if_neg (nq 10 (by decide))]
      exact hE.2 κ hκ
  have hl1 : lenE A (xb_new h q1 102 8) len := by
    obtain ⟨l1, l2, l3⟩ := hl
    refine ⟨?_, ?_, l3⟩
    · rw [xh_nN, if_neg (nq 11 (by decide))]; exact l1
    · rw [xh_nN, if_neg (nq 12 (by decide))]; exact l2
  have hQ1 : ∀ v2 : Nat → Int32, (∀ j, j ≠ 15 → j ≠ 17 → j ≠ 18 → v2 j = v j) → rmQ mm nm en0 b E cb _ A (xb_new h q1 102 8) (va_up F q1 f) v2 rc rs Qr := fun v2 hv2 own' A' h' F' v' en' len' bc' bs' L hl' hb' hf' => hQ own' A' h' F' v' en' len' bc' bs' (ldF.tr hB L0 L) hl' hb' (fun j j1 j2 j3 j4 j5 => (hf' j j1 j2 j3 j4 j5).trans (hv2 j j2 j4 j5))
  have key : ∀ (m k : Nat) (x3 : Int32) (v2 : Nat → Int32), x3.toInt = k → k + m = 8 → (∀ j, j ≠ 15 → j ≠ 17 → j ≠ 18 → v2 j = v j) → (v2 17 = 0 → b + k ≤ E) → w_M_readModule_L44 Qr (m + 1) mm x1 q1 x3 (mH (xb_new h q1 102 8) (va_up F q1 f) mm v2) (bc - 1) (bs - 8) := by
    intro m
    induction m with
    | zero =>
      intro k x3 v2 e3 hk8 hv2 hbk
      unfold w_M_readModule_L44
      rw [mH_i]
      refine ⟨fun _ => ⟨B1.2.1, fun h3 e4 => ⟨E + 2 + 1, ?_⟩⟩, fun h9 => ?_⟩
      · rw [mH_I] at e4
        subst e4
        have e15 : (v2 14 + 8).toInt = (b + 8 : Nat) := by
          rw [hv2 14 (by decide) (by decide) (by decide), z_add, h14]
          simp only [Int32.reduceToInt]
          omega
        refine m_readModuleL (en0 := en0) hby h1 hnm hE2 (E + 2) 0 _ A _ _ _ en0 len _ _ B1 S1 (by rw [xh_up, if_neg (by decide), hv2 5 (by decide) (by decide) (by decide)]; exact h5) (by rw [xh_up, if_neg (by decide), hv2 13 (by decide) (by decide) (by decide)]; exact h13) hl1 hen ⟨by omega, by omega⟩ (fun _ => by omega) (fun hz => ⟨b + 8, fun _ => 0, fs, P, by rw [xh_up, if_pos rfl]; exact e15, by omega, ?_, Nat.le_refl _, by omega, by decide, E1, fun _ _ => rfl⟩) (hQ1 _ (fun j j1 j2 j3 => by rw [xh_up, if_neg j1]; exact hv2 j j1 j2 j3))
        rw [xh_up, if_neg (by decide)] at hz
        have := hbk hz
        omega
      · rw [z_le, e3] at h9
        simp only [Int32.reduceToInt] at h9
        omega
    | succ m ih =>
      intro k x3 v2 e3 hk8 hv2 hbk
      have e31 : (x3 + 1).toInt = (k + 1 : Nat) := z_inc e3 (by omega)
      have e14 : ∀ v3 : Nat → Int32, (∀ j, j ≠ 15 → j ≠ 17 → j ≠ 18 → v3 j = v j) → b ≤ 1000000 → (v3 14 + x3).toInt = (b + k : Nat) := fun v3 hv3 hb9 => by
        rw [hv3 14 (by decide) (by decide) (by decide)]
        exact z_ad2 h14 e3 hb9 (by omega)
      have L81 : w_M_readModule_L81 (w_M_readModule_L44 Qr (m + 1)) Qr mm x1 q1 x3 (mH (xb_new h q1 102 8) (va_up F q1 f) mm v2) (bc - 1) (bs - 8) := by
        unfold w_M_readModule_L81 w_M_readModule_L92
        exact ⟨B1.2.1, m_fail B1.2.1 (by decide) (fun v' g1 g2 _ => ih (k + 1) (x3 + 1) v' e31 (by omega) (fun j j1 j2 j3 => (g1 j j2 j3).trans (hv2 j j1 j2 j3)) (fun h9 => absurd h9 g2))⟩
      unfold w_M_readModule_L44 w_M_readModule_L92
      rw [mH_i]
      refine ⟨fun h9 => ?_, fun h9 => ⟨B1.2.1, fun _ => L81, fun hlt => ?_⟩⟩
      · rw [z_le, e3] at h9
        simp only [Int32.reduceToInt] at h9
        omega
      · have hbb : b ≤ 1000000 := by omega
        rw [z_le, h1, e14 v2 hv2 hbb] at hlt
        obtain ⟨g1, g2, -, g4⟩ := B1.g (k := 3) (kd := 100) (n := 16384) (by decide)
        refine ⟨A 3, g1, g2, ?_, hk, inn f x3 (by omega) (by omega), fun _ => ih (k + 1) (x3 + 1) v2 e31 (by omega) hv2 (fun _ => by omega), fun _ => L81⟩
        rw [z_in, e14 v2 hv2 hbb]
        have g4 : xb_n (xb_new h q1 102 8) (A 3) = 16384 := g4.elim (fun h => by omega) id
        show _ ∧ _ < ((xb_n (xb_new h q1 102 8) (A 3) : Nat) : Int)
        omega
  refine ⟨8 + 1, key 8 0 0 v rfl rfl (fun _ _ _ _ => rfl) (fun _ => by omega)⟩
end MS3
