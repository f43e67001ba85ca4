-- equality: the class's reader, exact: names
section CR3
variable {α : Type} {h0 : xb_H} {rd op md cd N rc rs b p q e : Nat} {cb : Nat → Int32} {R : Except (Nat × Nat) α} {Qt : String → xb_H → Nat → Nat → Prop} {h : xb_H} {bc bs : Nat} {K : Nat → Except (Nat × Nat) α}
/-- a byte that goes on -/
def con_ (cb : Nat → Int32) (j : Nat) : Prop := ¬ ub cb j < 128 ∧ ub cb j ≤ 191
set_option maxRecDepth 100000 in
theorem con_i {j : Nat} : cb j &&& 192 = 128 ↔ con_ cb j := by
  have key : ∀ n : Nat, n < 256 → (n &&& 192 = 128 ↔ 128 ≤ n ∧ n ≤ 191) := by decide
  have e1 : (ub cb j).toInt = (cb j).toInt % 256 := by unfold ub; rw [z_255]
  have e2 := z_nat (cb j)
  have e3 : (cb j &&& 192).toBitVec.toNat = ((cb j).toBitVec.toNat % 256) &&& 192 := by
    rw [z_and32, show (192 : Int32).toBitVec.toNat = 192 from rfl]
    have : ∀ a : Nat, a &&& 192 = (a % 256) &&& 192 := fun a => by
      rw [show (192 : Nat) = 255 &&& 192 from rfl, ← Nat.and_assoc, show (255 : Nat) = 2 ^ 8 - 1 from rfl, Nat.and_two_pow_sub_one_eq_mod, ← Nat.and_assoc, Nat.and_two_pow_sub_one_eq_mod, Nat.mod_mod]
    exact this _
  have e4 : cb j &&& 192 = 128 ↔ (cb j &&& 192).toBitVec.toNat = 128 := by
    constructor
    · intro h9
      rw [h9]
      rfl
    · intro h9
      apply Int32.toBitVec_inj.mp
      apply BitVec.eq_of_toNat_eq
      rw [h9]
      rfl
  unfold con_
  rw [e4, e3, key _ (by omega), z_lt, z_le]
  simp only [Int32.reduceToInt]
  omega
theorem blb_v {x : Int32} (h0 : 0 ≤ x.toInt) (h1 : x.toInt < 256) : (blb x).toInt = if x.toInt < 128 then 0 else if x.toInt < 194 then -1 else if x.toInt < 224 then 1 else if x.toInt < 240 then 2 else if x.toInt < 245 then 3 else -1 := by
  unfold blb
  simp only [z_le, z_lt, Int32.reduceToInt]
  repeat' split
  all_goals first
    | rfl
    | omega
theorem y_groupL {Qr : Int32 → xb_H → Prop} {x1 x4 : Int32} {a y : Nat} (hs : rq h rd md cd N b p e cb) (h1 : x1.toInt + b = a) (ha : b ≤ a) (h4 : x4.toInt = y) (h2 : a + y ≤ b + N)
    (hQ0 : (∃ k, 2 ≤ k ∧ k < y ∧ ¬ con_ cb (a + k)) → Qr 0 h) (hQ1 : (∀ k, 2 ≤ k → k < y → con_ cb (a + k)) → Qr x4 h) : ∀ (m j : Nat) (x8 : Int32), x8.toInt = j → 2 ≤ j → y - j ≤ m → (∀ k, 2 ≤ k → k < j → con_ cb (a + k)) → w_Reader_groupLength_L164 Qr (m + 1) rd x1 x4 x8 h
  | m, j, x8, h8, hj, hm, hk => by
    obtain ⟨k1, k2, k3, k4, k5, k6, k7, k8, k9, k10, k11, k12⟩ := hs.2.2.1
    have hr := hs.rg
    unfold w_Reader_groupLength_L164 w_Reader_groupLength_L202
    refine ⟨fun h3 => hQ1 (fun k a1 a2 => ?_), fun h3 => ⟨k1, cd, k4, k5, ?_, fun v6 e6 => ?_⟩⟩
    · rw [z_le] at h3
      exact hk k a1 (by omega)
    · rw [z_le] at h3
      rw [z_in, z_add, h8, k6]
      omega
    · rw [z_le] at h3
      have ei : (x1 + x8).toInt = ((a - b + j : Nat) : Int) := by
        rw [z_add, h8]
        omega
      have e6' : v6 = ub cb (a + j) := by
        rw [e6, z_cl, ei, Int.toNat_natCast, hs.2.2.2.2 _ (by omega), show b + (a - b + j) = a + j by omega]
        rfl
      subst e6'
      refine ⟨fun h5 => hQ0 ⟨j, hj, by omega, fun h9 => h9.1 h5⟩, fun h5 => ⟨fun h6 => ?_, fun h6 => hQ0 ⟨j, hj, by omega, fun h9 => h6 h9.2⟩⟩⟩
      have e2 : (x8 + 1).toInt = (j + 1 : Nat) := z_inc h8 (by omega)
      match m, hm with
      | 0, hm => omega
      | m + 1, hm =>
        refine y_groupL hs h1 ha h4 h2 hQ0 hQ1 m (j + 1) (x8 + 1) e2 (by omega) (by omega) (fun k a1 a2 => ?_)
        rcases Nat.lt_or_ge k j with h9 | h9
        · exact hk k a1 h9
        · rw [show k = j by omega]
          exact ⟨h5, h6⟩
theorem y_groupLength {Qr : Int32 → xb_H → Prop} {x1 x2 : Int32} {a stop : Nat} (hs : rq h rd md cd N b p e cb) (h1 : x1.toInt + b = a) (ha : b ≤ a) (h2 : x2.toInt + b = stop) (hlt : a < stop) (h3 : stop ≤ b + N)
    (hQ0 : ¬ grp cb a stop → Qr 0 h) (hQ1 : ∀ u : Int32, grp cb a stop → u.toInt = (blb (ub cb a)).toInt + 1 → Qr u h) : w_Reader_groupLength rd x1 x2 h Qr := by
  obtain ⟨k1, k2, k3, k4, k5, k6, k7, k8, k9, k10, k11, k12⟩ := hs.2.2.1
  have hr := hs.rg
  have hu := ub_r (cb := cb) (p := a)
  have hbl := blb_v hu.1 hu.2
  unfold w_Reader_groupLength
  have ei : x1.toInt = ((a - b : Nat) : Int) := by omega
  have s1 : ∀ s : Int32, s = (if blb (ub cb a) ≤ 0 then 0 else ub cb (a + 1)) → 0 < (blb (ub cb a)).toInt → s = ub cb (a + 1) := fun s e h9 => by
    rw [e, if_neg (by rw [z_le]; simp only [Int32.reduceToInt]; omega)]
  -- what a group of y bytes is
  have L43 : ∀ (y : Int32) (n : Nat), y.toInt = n → 2 ≤ n → n ≤ 4 → 128 ≤ (ub cb a).toInt → (194 ≤ (ub cb a).toInt → (ub cb a).toInt ≤ 244 → (blb (ub cb a)).toInt + 1 = n) → w_Reader_groupLength_L43 Qr rd x1 x2 (ub cb a) y h := by
    intro y n hy n2 n4 h128 hyb
    unfold w_Reader_groupLength_L43 w_Reader_groupLength_L67
    refine ⟨fun h5 => hQ0 (fun hg => ?_), fun h5 => ⟨fun h6 => hQ0 (fun hg => ?_), fun h6 => ⟨fun h7 => ⟨k1, cd, k4, k5, ?_, fun v8 e8 => ?_⟩, fun h7 => hQ0 (fun hg => ?_)⟩⟩⟩
    · rw [z_lt] at h5
      simp only [Int32.reduceToInt] at h5
      have := hg.1
      rw [hbl, if_neg (by omega), if_pos (by omega)] at this
      omega
    · rw [z_lt] at h6
      simp only [Int32.reduceToInt] at h6
      have := hg.1
      rw [hbl, if_neg (by omega), if_neg (by omega), if_neg (by omega), if_neg (by omega), if_neg (by omega)] at this
      omega
    · rw [z_le, z_sub, hy] at h7
      rw [z_in, z_add, k6]
      simp only [Int32.reduceToInt]
      omega
    · rw [z_le, z_sub, hy] at h7
      rw [z_lt] at h5 h6
      simp only [Int32.reduceToInt] at h5 h6
      have hyb := hyb (by omega) (by omega)
      have e1 : (x1 + 1).toInt = ((a - b + 1 : Nat) : Int) := z_inc ei (by omega)
      have e8' : v8 = ub cb (a + 1) := by
        rw [e8, z_cl, e1, Int.toNat_natCast, hs.2.2.2.2 _ (by omega), show b + (a - b + 1) = a + 1 by omega]
        rfl
      subst e8'
      -- the second byte's bounds
      have L143 : ∀ lo hi : Int32, ((¬ ub cb (a + 1) < lo ∧ ub cb (a + 1) ≤ hi) ↔ (con_ cb (a + 1) ∧ ¬ (ub cb a = 224 ∧ ub cb (a + 1) < 160) ∧ ¬ (ub cb a = 237 ∧ 159 < ub cb (a + 1)) ∧ ¬ (ub cb a = 240 ∧ ub cb (a + 1) < 144) ∧ ¬ (ub cb a = 244 ∧ 143 < ub cb (a + 1)))) → w_Reader_groupLength_L143 Qr rd x1 y (ub cb (a + 1)) lo hi h := by
        intro lo hi hlh
        have no : ¬ (¬ ub cb (a + 1) < lo ∧ ub cb (a + 1) ≤ hi) → ¬ grp cb a stop := fun h9 hg => by
          obtain ⟨g1, g2, g3, g4⟩ := hg
          obtain ⟨w1, w2, w3, w4⟩ := g4 _ rfl
          rw [s1 _ rfl (by omega)] at w1 w2 w3 w4
          exact h9 (hlh.mpr ⟨con_i.mp (g3 1 (by omega) (by omega)), w1, w2, w3, w4⟩)
        unfold w_Reader_groupLength_L143 w_Reader_groupLength_L159
        refine ⟨fun h9 => hQ0 (no (fun h8 => h8.1 h9)), fun h9 => ⟨fun h8 => ⟨4, ?_⟩, fun h8 => hQ0 (no (fun h7 => h8 h7.2))⟩⟩
        obtain ⟨c1, w1, w2, w3, w4⟩ := hlh.mp ⟨h9, h8⟩
        have n0 : (∃ k, 2 ≤ k ∧ k < n ∧ ¬ con_ cb (a + k)) → Qr 0 h := by
          rintro ⟨k, a1, a2, a3⟩
          exact hQ0 (fun hg => a3 (con_i.mp (hg.2.2.1 k (by omega) (by omega))))
        have n1 : (∀ k, 2 ≤ k → k < n → con_ cb (a + k)) → Qr y h := by
          intro hall
          refine hQ1 y ⟨by omega, by omega, fun k a1 a2 => ?_, fun s e9 => ?_⟩ (by omega)
          · rcases Nat.lt_or_ge k 2 with h6 | h6
            · rw [show k = 1 by omega]
              exact con_i.mpr c1
            · exact con_i.mpr (hall k h6 (by omega))
          · rw [s1 s e9 (by omega)]
            exact ⟨w1, w2, w3, w4⟩
        exact y_groupL hs h1 ha hy (by omega) n0 n1 3 2 2 rfl (by omega) (by omega) (fun k a1 a2 => by omega)
      have key : ∀ lo hi : Int32, ((ub cb a).toInt = 224 → lo.toInt = 160) → ((ub cb a).toInt = 240 → lo.toInt = 144) → (¬ (ub cb a).toInt = 224 → ¬ (ub cb a).toInt = 240 → lo.toInt = 128) → ((ub cb a).toInt = 237 → hi.toInt = 159) → ((ub cb a).toInt = 244 → hi.toInt = 143) → (¬ (ub cb a).toInt = 237 → ¬ (ub cb a).toInt = 244 → hi.toInt = 191) → ((¬ ub cb (a + 1) < lo ∧ ub cb (a + 1) ≤ hi) ↔ (con_ cb (a + 1) ∧ ¬ (ub cb a = 224 ∧ ub cb (a + 1) < 160) ∧ ¬ (ub cb a = 237 ∧ 159 < ub cb (a + 1)) ∧ ¬ (ub cb a = 240 ∧ ub cb (a + 1) < 144) ∧ ¬ (ub cb a = 244 ∧ 143 < ub cb (a + 1)))) := by
        intro lo hi d1 d2 d3 d4 d5 d6
        unfold con_
        simp only [z_lt, z_le, z_eq, Int32.reduceToInt]
        generalize (ub cb a).toInt = A at *
        generalize (ub cb (a + 1)).toInt = B at *
        omega
      have eqv : ∀ c : Int32, ub cb a = c ↔ (ub cb a).toInt = c.toInt := fun c => z_eq
      unfold w_Reader_groupLength_L112
      simp only [eqv, Int32.reduceToInt]
      refine ⟨fun g1 => ⟨fun g2 => ⟨fun g3 => ⟨fun g4 => L143 _ _ (key _ _ ?_ ?_ ?_ ?_ ?_ ?_), fun g4 => L143 _ _ (key _ _ ?_ ?_ ?_ ?_ ?_ ?_)⟩, fun g3 => L143 _ _ (key _ _ ?_ ?_ ?_ ?_ ?_ ?_)⟩, fun g2 => ⟨fun g3 => ⟨fun g4 => L143 _ _ (key _ _ ?_ ?_ ?_ ?_ ?_ ?_), fun g4 => L143 _ _ (key _ _ ?_ ?_ ?_ ?_ ?_ ?_)⟩, fun g3 => L143 _ _ (key _ _ ?_ ?_ ?_ ?_ ?_ ?_)⟩⟩, fun g1 => ⟨fun g3 => ⟨fun g4 => L143 _ _ (key _ _ ?_ ?_ ?_ ?_ ?_ ?_), fun g4 => L143 _ _ (key _ _ ?_ ?_ ?_ ?_ ?_ ?_)⟩, fun g3 => L143 _ _ (key _ _ ?_ ?_ ?_ ?_ ?_ ?_)⟩⟩
      all_goals
        intro g9
        try intro g10
        try simp only [Int32.reduceToInt]
        try omega
    · rw [z_le, z_sub, hy] at h7
      rw [z_lt] at h5 h6
      simp only [Int32.reduceToInt] at h5 h6
      have hyb := hyb (by omega) (by omega)
      have := hg.2.1
      omega
  refine ⟨k1, cd, k4, k5, ?_, fun v5 e5 => ?_⟩
  · rw [z_in, k6]
    omega
  · have e5' : v5 = ub cb a := by
      rw [e5, z_cl, ei, Int.toNat_natCast, hs.2.2.2.2 _ (by omega), show b + (a - b) = a by omega]
      rfl
    subst e5'
    simp only [z_le, Int32.reduceToInt]
    refine ⟨fun g1 => ⟨fun g2 => ⟨fun g3 => L43 4 4 rfl (by decide) (by decide) g1 (fun a1 a2 => ?_), fun g3 => L43 3 3 rfl (by decide) (by decide) g1 (fun a1 a2 => ?_)⟩, fun g2 => L43 2 2 rfl (by decide) (by decide) g1 (fun a1 a2 => ?_)⟩, fun g1 => hQ1 1 ⟨?_, ?_, ?_, ?_⟩ ?_⟩
    · rw [hbl, if_neg (by omega), if_neg (by omega), if_neg (by omega), if_neg (by omega), if_pos (by omega)]
      rfl
    · rw [hbl, if_neg (by omega), if_neg (by omega), if_neg (by omega), if_pos (by omega)]
      rfl
    · rw [hbl, if_neg (by omega), if_neg (by omega), if_pos (by omega)]
      rfl
    · rw [hbl, if_pos (by omega)]
      exact Int.le_refl _
    · rw [hbl, if_pos (by omega)]
      omega
    · intro k a1 a2
      rw [hbl, if_pos (by omega)] at a2
      omega
    · intro s e9
      simp only [z_eq, Int32.reduceToInt]
      omega
    · rw [hbl, if_pos (by omega)]
      rfl
theorem y_nameL {Qr : Int32 → xb_H → Nat → Nat → Prop} (hT : rdT h0 rd op md rc rs b R Qt) (hc : rc + 1 ≤ bc) (hb : rs + 6 ≤ bs) {x1 x2 : Int32} {n stop : Nat} (h1 : x1.toInt = n) (h2 : x2.toInt + b = stop) (h3 : stop ≤ e) : ∀ (m j : Nat) (x3 : Int32) (h : xb_H) (a M : Nat), rd_X h0 h rd op md → rq h rd md cd N b a e cb → x3.toInt = j → a ≤ stop → stop + j ≤ a + n → n - j ≤ m → stop - a + 1 ≤ M →
    ((¬ ∃ k, utf cb stop k a) → R = .error (fUt cb stop M a)) →
    ((∃ k, utf cb stop k a) → ∀ v : Int32, v.toInt + b = stop → Qr x1 (xb_I h rd 3 v) bc bs) → w_Reader_readName_L43 Qr Qt (m + 1) rd x1 x2 x3 h bc bs
  | m, j, x3, h, a, M, hX, hs, hj, ha, hn, hm, hM, hR, hQ => by
    obtain ⟨k1, k2, k3, k4, k5, k6, k7, k8, k9, k10, k11, k12⟩ := hs.2.2.1
    have hi := hs.ix
    have hr := hs.rg
    unfold w_Reader_readName_L43 w_Reader_readName_L84 w_Reader_readName_L101
    have done : a = stop → Qr x1 h bc bs := by
      intro e9
      have := hQ ⟨1, .inl e9⟩ (xb_i h rd 3) (by omega)
      rw [xh_Iself] at this
      exact this
    refine ⟨fun g1 => done ?_, fun g1 => ⟨k1, fun g4 => done ?_, fun g4 => ?_⟩⟩
    · rw [z_le] at g1
      omega
    · rw [z_le] at g4
      omega
    · rw [z_le] at g1 g4
      have hlt : a < stop := by omega
      obtain ⟨M, rfl⟩ : ∃ k, M = k + 1 := ⟨M - 1, by omega⟩
      refine y_groupLength hs hi.1 (by omega) h2 hlt (by omega) (fun hng _ => ⟨fun h5 => absurd rfl h5, fun _ => ⟨md, k2, k3, y_fail (c := 4) (w := a) hT hX hc hb ?_ rfl hi.1⟩⟩) (fun u hg hu _ => ⟨fun h5 => ⟨k1, fun h6 e6 => ?_⟩, fun h5 => ?_⟩)
      · rw [hR, fUt_0 hng]
        rintro ⟨k, hk⟩
        match k, hk with
        | 0, hk => exact hk
        | k + 1, hk =>
          rcases hk with h9 | h9
          · omega
          · exact hng h9.2.1
      · subst e6
        have g0 := hg.1
        have g2 := hg.2.1
        have e1 : (xb_i h rd 3 + u).toInt + b = (a + (blb (ub cb a)).toInt.toNat + 1 : Nat) := by
          rw [z_add, hu]
          omega
        match m, hm with
        | 0, hm => omega
        | m + 1, hm =>
          have st : (∃ k, utf cb stop k (a + (blb (ub cb a)).toInt.toNat + 1)) ↔ ∃ k, utf cb stop k a := by
            constructor
            · rintro ⟨k, hk⟩
              exact ⟨k + 1, .inr ⟨hlt, hg, hk⟩⟩
            · rintro ⟨k, hk⟩
              match k, hk with
              | 0, hk => exact hk.elim
              | k + 1, hk =>
                rcases hk with h9 | h9
                · omega
                · exact ⟨k, h9.2.2⟩
          refine y_nameL hT hc hb h1 h2 h3 m (j + 1) (x3 + 1) _ (a + (blb (ub cb a)).toInt.toNat + 1) M (hX.I (.inl rfl)) (hs.at e1 (by omega) (by omega)) (by rw [z_add, hj]; simp only [Int32.reduceToInt]; have := z_rg x1; omega) (by omega) (by omega) (by omega) (by omega) (fun h9 => ?_) (fun h9 v hv => ?_)
          · rw [hR (fun h8 => h9 (st.mpr h8)), fUt_1 hg]
          · rw [xh_II]
            exact hQ (st.mp h9) v hv
      · rw [h5] at hu
        have := hg.1
        simp only [Int32.reduceToInt] at hu
        omega
theorem pNm_s (h1 : rN cb p q) (h2 : q ≤ e) : pNm cb e p = .ok q := mkP_s (fun q q' a b => rN_f a b) h1 h2
theorem pNm_n (h1 : ¬ ∃ q, rN cb p q ∧ q ≤ e) : pNm cb e p = .error (fN cb e p) := mkP_n h1
theorem y_readName {Qr : Int32 → xb_H → Nat → Nat → Prop} (hT : rdT h0 rd op md rc rs b R Qt) (hX : rd_X h0 h rd op md) (hs : rq h rd md cd N b p e cb) (hc : rc + 1 ≤ bc) (hb : rs + 6 ≤ bs) (hR : R = (pNm cb e p).bind K)
    (hQ : ∀ (u v : Int32), rN cb p (qN cb p) → p < cE cb p → qN cb p ≤ e → u.toInt = cV cb p → v.toInt + b = qN cb p → R = K (qN cb p) → Qr u (xb_I h rd 3 v) bc bs) : w_Reader_readName rd h bc bs Qr Qt := by
  unfold w_Reader_readName
  have hcn : ∀ {a' b' : Nat} {x y : Int64}, rC cb p = some (a', x) → rC cb p = some (b', y) → a' = b' ∧ x = y := fun h8 h9 => rC_in h8 h9
  refine ⟨hs.2.2.1.1, y_count (K := fun q => if e < q + cV cb p then .error (2, e) else (mkP (fun q' => rN cb p q') e (fN cb e p)).bind K) hT hX hs hc hb ?_ (fun u v q x g1 g2 g3 g4 g5 g6 _ => ?_)⟩
  · by_cases hq : ∃ q x, rC cb p = some (q, x) ∧ q ≤ e
    · obtain ⟨q, x, h8, h9⟩ := hq
      rw [pCx_s h8 h9, hR]
      show _ = (if e < q + cV cb p then _ else _)
      split
      · rename_i h7
        have e1 : fN cb e p = (2, e) := by
          unfold fN
          rw [thC_s h8 h9]
          rw [(rC_E h8).2] at h7
          rw [if_pos h7]
        rw [pNm_n ?_, e1]
        · rfl
        · rintro ⟨q', ⟨p1, n, a1, a2, a3⟩, a4⟩
          obtain ⟨e2, e3⟩ := hcn h8 a1
          subst e2 e3
          rw [(rC_E h8).2] at h7
          omega
      · rfl
    · rw [pCx_n hq, hR, pNm_n ?_]
      · unfold fN
        rw [thC_n hq]
        rfl
      · rintro ⟨q', ⟨p1, n, a1, a2, a3⟩, a4⟩
        exact hq ⟨p1, n, a1, by omega⟩
  · have hs1 := hs.at (q := q) g5 (by have := hs.1; omega) g3
    have hX1 : rd_X h0 (xb_I h rd 3 v) rd op md := hX.I (.inl rfl)
    obtain ⟨k1, k2, k3, k4, k5, k6, k7, k8, k9, k10, k11, k12⟩ := hs1.2.2.1
    have hi := hs1.ix
    have hr := hs1.rg
    obtain ⟨z1, z2⟩ := hs1.sz g4
    obtain ⟨E1, E2⟩ := rC_E g1
    have hf : e < q + cV cb p → R = .error (2, e) := fun h9 => by rw [g6, if_pos h9]
    unfold w_Reader_readName_L22 w_Reader_readName_L34
    refine ⟨fun h3 => ⟨k1, md, k2, k3, y_fail hT hX1 hc hb (hf (z1 h3)) rfl hi.2.1⟩, fun h3 => ⟨fun h4 => ⟨k1, fun v2 e2 => ⟨cV cb p + 1, ?_⟩⟩, fun h4 => ⟨k1, md, k2, k3, y_fail hT hX1 hc hb (hf ?_) rfl hi.2.1⟩⟩⟩
    · rw [(z2 h3).1] at h4
      have hu := (z2 h3).2
      have e3 : v2.toInt + b = (q + cV cb p : Nat) := by
        rw [e2, z_add, hu]
        omega
      have hqn : qN cb p = q + cV cb p := by
        unfold qN
        rw [E1]
      have g6' : R = (mkP (fun q' => rN cb p q') e (fN cb e p)).bind K := by
        rw [g6, if_neg (by omega)]
      have hrn : (∃ k, utf cb (q + cV cb p) k q) ↔ rN cb p (q + cV cb p) := by
        constructor
        · rintro ⟨k, hk⟩
          exact ⟨q, x, g1, by rw [E2], k, hk⟩
        · rintro ⟨p1, n, a1, a2, k, hk⟩
          obtain ⟨e7, e8⟩ := hcn g1 a1
          subst e7
          exact ⟨k, hk⟩
      refine y_nameL hT hc hb hu e3 h4 (cV cb p) 0 0 _ q (cV cb p + 1) hX1 hs1 rfl (by omega) (by omega) (by omega) (by omega) (fun h9 => ?_) (fun h9 w hw => ?_)
      · rw [g6', mkP_n ?_]
        · unfold fN
          rw [thC_s g1 g3, ← E2, if_neg (by omega)]
          rfl
        · rintro ⟨q', ⟨p1, n, a1, a2, k, hk⟩, a4⟩
          obtain ⟨e7, e8⟩ := hcn g1 a1
          subst e7 e8
          rw [← E2] at a2
          subst a2
          exact h9 ⟨k, hk⟩
      · rw [xh_II]
        refine hQ u w (by rw [hqn]; exact hrn.mp h9) (by omega) (by omega) hu (by rw [hqn]; exact hw) ?_
        rw [g6', hqn, mkP_s (fun q q' a b => rN_f a b) (hrn.mp h9) h4]
        rfl
    · rw [(z2 h3).1] at h4
      omega
end CR3
