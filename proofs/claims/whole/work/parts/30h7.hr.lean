-- equality: instantiate, the new instance of the class
theorem wrs_rel {α β : Type} {R : α → β → Prop} {a a' : Nat → Nat} {v : Nat → α} {v' : Nat → β} {f : Nat → α} {f' : Nat → β} {e : Nat} : ∀ (k : Nat), (∀ t, t < k → a t = a' t) → (∀ t, t < k → R (v t) (v' t)) → R (f e) (f' e) → R (wrs a v f k e) (wrs a' v' f' k e)
  | 0, _, _, h => h
  | k + 1, ha, hv, h => by
    show R (va_up (wrs a v f k) (a k) (v k) e) (va_up (wrs a' v' f' k) (a' k) (v' k) e)
    rw [xh_up, xh_up, ha k (by omega)]
    by_cases h9 : e = a' k
    · rw [if_pos h9, if_pos h9]
      exact hv k (by omega)
    · rw [if_neg h9, if_neg h9]
      exact wrs_rel k (fun t ht => ha t (by omega)) (fun t ht => hv t (by omega)) h
theorem wrr_rel {α β : Type} {R : α → β → Prop} {len len' : Nat → Nat} {a a' : Nat → Nat → Nat} {v : Nat → Nat → α} {v' : Nat → Nat → β} {f : Nat → α} {f' : Nat → β} {e : Nat} : ∀ (n : Nat), (∀ j, j < n → len j = len' j) → (∀ j, j < n → ∀ t, t < len j → a j t = a' j t) → (∀ j, j < n → ∀ t, t < len j → R (v j t) (v' j t)) → R (f e) (f' e) → R (wrr len a v f n e) (wrr len' a' v' f' n e)
  | 0, _, _, _, h => h
  | n + 1, hl, ha, hv, h => by
    show R (wrs (a n) (v n) (wrr len a v f n) (len n) e) (wrs (a' n) (v' n) (wrr len' a' v' f' n) (len' n) e)
    rw [← hl n (by omega)]
    exact wrs_rel _ (fun t ht => ha n (by omega) t ht) (fun t ht => hv n (by omega) t ht) (wrr_rel n (fun j hj => hl j (by omega)) (fun j hj => ha j (by omega)) (fun j hj => hv j (by omega)) h)
theorem wrs_ne {α : Type} {a : Nat → Nat} {v : Nat → α} {f : Nat → α} {e : Nat} : ∀ (k : Nat), (∀ t, t < k → a t ≠ e) → wrs a v f k e = f e
  | 0, _ => rfl
  | k + 1, ha => by
    show va_up (wrs a v f k) (a k) (v k) e = f e
    rw [xh_up, if_neg (fun h9 => ha k (by omega) h9.symm)]
    exact wrs_ne k (fun t ht => ha t (by omega))
theorem wrr_ne {α : Type} {len : Nat → Nat} {a : Nat → Nat → Nat} {v : Nat → Nat → α} {f : Nat → α} {e : Nat} : ∀ (n : Nat), (∀ j, j < n → ∀ t, t < len j → a j t ≠ e) → wrr len a v f n e = f e
  | 0, _ => rfl
  | n + 1, ha => by
    show wrs (a n) (v n) (wrr len a v f n) (len n) e = f e
    rw [wrs_ne _ (fun t ht => ha n (by omega) t ht)]
    exact wrr_ne n (fun j hj => ha j (by omega))
/-- the new instance: functions, variables, table, memory -/
def cNw (ad1 : Nat → Nat) (h1 : xb_H) (W : wD) (d : mD) (q : Nat) (H' : xb_H) : Prop :=
  (∃ fa, xb_r H' q 2 = some fa ∧ ∀ j, j < ni d 0 → xb_l H' fa j = xb_l h1 (ad1 33) j) ∧ (∃ va, xb_r H' q 3 = some va ∧ ∀ j, j < ni d 3 → xb_l H' va j = xb_l h1 (ad1 35) j) ∧
  ((dn d 3 / 3 ≤ ni d 1 ∧ xb_r H' q 6 = xb_r h1 (ad1 14) 14) ∨ ni d 1 < dn d 3 / 3 ∧ ∃ ta, xb_r H' q 6 = some ta ∧ (xb_i H' ta 0).toInt = wne W ∧ (xb_i H' ta 1).toInt = (ol d 3 1).toNat ∧ xb_l H' ta 2 = dvs d 3 2) ∧
  ((dn d 4 / 3 ≤ ni d 2 ∧ xb_r H' q 7 = xb_r h1 (ad1 14) 15) ∨ ni d 2 < dn d 4 / 3 ∧ ∃ ma sl, xb_r H' q 7 = some ma ∧ xb_k h1 ma = 0 ∧ xb_r H' ma 2 = some sl ∧ (xb_i H' ma 3).toInt = (ol d 4 2).toNat ∧ xb_l H' ma 1 = dvs d 4 2 ∧ ∀ j, j < (ol d 4 2).toNat → (xb_i H' sl j).toInt = (wnp W + j : Nat))
/-- its variables -/
def cVr (ad1 : Nat → Nat) (h1 : xb_H) (W : wD) (d : mD) (ad' : Nat → Nat) (H' : xb_H) : Prop := (∀ g, g < wnv W → xb_l H' (ad' 22) g = xb_l h1 (ad1 22) g) ∧ ∀ j, j < nvr d - ni d 3 → xb_l H' (ad' 22) (wnv W + j) = cv ad1 h1 d (dvs d 5 (4 * (ni d 3 + j) + 3)).toInt.toNat
/-- elements -/
def cEl (ad1 : Nat → Nat) (h1 : xb_H) (W W1 : wD) (d : mD) (ad' : Nat → Nat) (H' : xb_H) : Prop := ∃ base : Nat → Int, (∀ e, e < wne W → base e = (xb_l h1 (ad1 24) e).toInt) ∧ (∀ e, wne W ≤ e → e < wne W + (ol d 3 1).toNat → base e = -1) ∧ ∀ e, (xb_l H' (ad' 24) e).toInt = wrr (elL d) (fun j t => tbF H' W1 (wic W) + (cv ad1 h1 d (dvs d 7 (5 * j + 2)).toInt.toNat).toInt.toNat + t) (fun j t => ((fnI H' W1 (wic W) (dvs d 8 (2 * ((dvs d 7 (5 * j + 3)).toInt.toNat + t) + 1)).toInt.toNat : Nat) : Int)) base (dn d 7 / 5) e
/-- bytes -/
def cDa (ad1 : Nat → Nat) (h1 : xb_H) (W W1 : wD) (d : mD) (ad' : Nat → Nat) (H' : xb_H) : Prop := ∃ base : Nat → Nat, (∀ b, b < 65536 * wnp W → base b = byA (xb_l h1 (ad1 26)) b) ∧ (∀ b, 65536 * wnp W ≤ b → b < 65536 * (wnp W + (ol d 4 2).toNat) → base b = 0) ∧ ∀ b, byA (xb_l H' (ad' 26)) b = wrr (daL d) (fun j t => mpA (xb_i H' (mmS H' W1 (wic W))) ((cv ad1 h1 d (dvs d 11 (5 * j + 2)).toInt.toNat).toInt.toNat + t)) (daX d) base (dn d 11 / 5) b
section HT
variable {own ad own' ad' : Nat → Nat} {H h2 H' : xb_H} {W : wD} {σ ts K md q : Nat} {d : mD} {ms : Nat → Nat}
theorem wN1_n {W : wD} {md q : Nat} {d : mD} {ms : Nat → Nat} : wia (wN1 W md d q ms) (wic W) = q ∧ wim (wN1 W md d q ms) (wic W) = md ∧ wd (wN1 W md d q ms) (wic W) = d ∧ wff (wN1 W md d q ms) (wic W) = wno W ∧ wfv (wN1 W md d q ms) (wic W) = wnv W := by
  refine ⟨?_, ?_, ?_, ?_, ?_⟩
  · show va_up _ _ _ _ = _
    rw [xh_up, if_pos rfl]
  · show va_up _ _ _ _ = _
    rw [xh_up, if_pos rfl]
  · show va_up (wMD W) (wic W) d (wic W) = d
    rw [xh_up, if_pos rfl]
  · show va_up _ _ _ _ = _
    rw [xh_up, if_pos rfl]
  · show va_up _ _ _ _ = _
    rw [xh_up, if_pos rfl]
theorem byA_z {l : Nat → Int64} {b : Nat} (h : l (b / 8) = 0) : byA l b = 0 := by
  unfold byA
  rw [h]
  show (0 : Nat) / _ % 256 = 0
  rw [Nat.zero_div]
theorem byA_c {l l' : Nat → Int64} {b : Nat} (h : l (b / 8) = l' (b / 8)) : byA l b = byA l' b := by
  unfold byA
  rw [h]
theorem in_cls (hI : cI own ad H W σ ts K) (hmo : mo own H md d) (hN : iN own ad H W md d q ms own' ad' h2) (s2 : stp [15, 0] [] own' ad' own' ad' h2 H') : ∃ (vv own1 ad1 : Nat → Nat) (h1 : xb_H), lkM own ad H W d vv own1 ad1 h1 ∧ tmO W d ∧ (∀ i, i < dn d 7 / 5 → rbO ad1 h1 d 7 (eS ad1 h1 d) i) ∧ (∀ i, i < dn d 11 / 5 → rbO ad1 h1 d 11 (bS ad1 h1 d) i) ∧ cNw ad1 h1 W d q H' ∧ cVr ad1 h1 W d ad' H' ∧ cEl ad1 h1 W (wN1 W md d q ms) d ad' H' ∧ cDa ad1 h1 W (wN1 W md d q ms) d ad' H' := by
  obtain ⟨hB, hW, -⟩ := hI.1
  obtain ⟨s8, hms, hT, vv, own1, ad1, h1, hlk, hE, hD, ha, hb, hF, w24, w26, hel, hda⟩ := hN
  refine ⟨vv, own1, ad1, h1, hlk, hT, hE, hD, ?_⟩
  have hB1 := hlk.1.1
  obtain ⟨sF, -, ⟨-, v1, -⟩, v2, ⟨-, e1, e2⟩, ⟨-, b1, b2⟩, -, -, ⟨q1, q2, q3, -, -⟩, ⟨fa, f1, f2, f3, f4, f5⟩, ⟨va, g1, g2, g3, g4, g5⟩, -, -, hTb, hMm⟩ := hF
  have hBa := sF.1
  have hBb := w24.B hBa
  have hB2 := w26.B hBb
  obtain ⟨nia, niq, nid, niff, nifv⟩ := wN1_n (W := W) (md := md) (q := q) (d := d) (ms := ms)
  obtain ⟨n1, n2, n3, n4, n5, n6, n7, n8⟩ := hmo.nn
  -- what belongs to instances stays from ha on
  have smA : ∀ a, xb_k ha a ≠ 0 → own' a = 1 ∨ own' a = 50 ∨ own' a = 51 → xh_sm ha hb a ∧ xh_sm ha H' a := fun a hk ho => by
    have t1 : ∀ i, i < 41 → a ≠ ad' i := fun i hi => hBa.nk (c := own' a) hi rfl (by omega)
    have s1 := w24.sm (t1 24 (by decide))
    have s3 := w26.sm (t1 26 (by decide))
    have k2 : xb_k h2 a ≠ 0 := by
      rw [(w26.ex a (by rw [(w24.ex a hk).1]; exact hk)).1, (w24.ex a hk).1]
      exact hk
    have s4 := s2.n1 hB2 (by decide) (a := a) k2 (by simp) rfl (show own' a < 2 ∨ 42 < own' a by omega)
    exact ⟨s1, (s1.tr s3).tr s4⟩
  have cmp : ∀ k, k < 41 → k ≠ 15 → k ≠ 0 → k ≠ 24 → k ≠ 26 → xh_sm ha H' (ad' k) := fun k hk h5 h0 h4 h6 => by
    have s1 := w24.sm (hBa.ne hk (by decide : 24 < 41) h4)
    have s3 := w26.sm (hBa.ne hk (by decide : 26 < 41) h6)
    have s4 := (s2.cm hB2 (by decide) (fun x hx => by cases hx) hk (by simp; omega)).2
    exact (s1.tr s3).tr s4
  have l24 : xb_l H' (ad' 24) = xb_l hb (ad' 24) := by
    have s3 := w26.sm (hBa.ne (i := 24) (j := 26) (by decide) (by decide) (by decide))
    have s4 := (s2.cm hB2 (by decide) (fun x hx => by cases hx) (k := 24) (by decide) (by decide)).2
    rw [s4.2.1, s3.2.1]
  have l26 : xb_l H' (ad' 26) = xb_l h2 (ad' 26) := (s2.cm hB2 (by decide) (fun x hx => by cases hx) (k := 26) (by decide) (by decide)).2.2.1
  have l26b : xb_l hb (ad' 26) = xb_l ha (ad' 26) := (w24.sm (hBa.ne (i := 26) (j := 24) (by decide) (by decide) (by decide))).2.1
  have sq := (smA q (by rw [q2]; decide) (.inl q3)).2
  have sqb := (smA q (by rw [q2]; decide) (.inl q3)).1
  have sfa := (smA fa (by rw [f2]; decide) (.inl f3)).2
  have sva := (smA va (by rw [g2]; decide) (.inl g3)).2
  have hcn : cNw ad1 h1 W d q H' := by
    refine ⟨⟨fa, by rw [sq.2.2]; exact f1, fun j hj => by rw [sfa.2.1]; exact f5 j hj⟩, ⟨va, by rw [sq.2.2]; exact g1, fun j hj => by rw [sva.2.1]; exact g5 j hj⟩, ?_, ?_⟩
    · rw [sq.2.2]
      rcases hTb with hTb | ⟨t0, ta, t1, t2, t3, t4, t5, t6⟩
      · exact .inl hTb
      · have sta := (smA ta (by rw [t2]; decide) (.inl t3)).2
        exact .inr ⟨t0, ta, t1, by rw [sta.1]; exact t4, by rw [sta.1]; exact t5, by rw [sta.2.1]; exact t6⟩
    · rw [sq.2.2]
      rcases hMm with hMm | ⟨t0, ma, sl, t1, t2, t3, t4, t5, t6, t7, t8, t9, t10, t11, t12, t13, t14, t15⟩
      · exact .inl hMm
      · have sma := (smA ma (by rw [t4]; decide) (.inr (.inl t5))).2
        have ssl := (smA sl (by rw [t9]; decide) (.inr (.inr t10))).2
        exact .inr ⟨t0, ma, sl, t1, t2, by rw [sma.2.2]; exact t8, by rw [sma.1]; exact t12, by rw [sma.2.1]; exact t14, fun j hj => by rw [ssl.1]; exact t15 j hj⟩
  -- the expressions' values
  have a22 : ∀ g, g < wnv W → xb_l ha (ad' 22) g = xb_l h1 (ad1 22) g := v1
  have l22H : xb_l H' (ad' 22) = xb_l ha (ad' 22) := (cmp 22 (by decide) (by decide) (by decide) (by decide) (by decide)).2.1
  have l22b : xb_l hb (ad' 22) = xb_l ha (ad' 22) := (w24.sm (hBa.ne (i := 22) (j := 24) (by decide) (by decide) (by decide))).2.1
  have c35 := sF.cm hB1 mkC_lt (fun x hx => by cases hx) (k := 35) (by decide) (by decide)
  have l35 : xb_l ha (ad' 35) = xb_l h1 (ad1 35) := by rw [c35.1, c35.2.2.1]
  have l35b : xb_l hb (ad' 35) = xb_l h1 (ad1 35) := by rw [(w24.sm (hBa.ne (i := 35) (j := 24) (by decide) (by decide) (by decide))).2.1]; exact l35
  have hFv : fV ad1 h1 W d (ni d 3) := by
    have := hlk.2.1.2.1
    rw [n8 3 (by decide)]
    exact this
  have hni := n5 3 (by decide)
  have x7 := hmo.2.1.2.2.2.2.2.2.2.1
  have x11 := hmo.2.1.2.2.2.2.2.2.2.2.2.1
  have cv7 : ∀ j, j < dn d 7 / 5 → cv ad' ha d (dvs d 7 (5 * j + 2)).toInt.toNat = cv ad1 h1 d (dvs d 7 (5 * j + 2)).toInt.toNat := fun j hj => by
    obtain ⟨-, ⟨p, p1, p2⟩, -⟩ := x7.2 j hj
    rw [p1, Int.toNat_natCast]
    exact cv_le hFv hni p2 a22 l35
  have cv11 : ∀ j, j < dn d 11 / 5 → cv ad' hb d (dvs d 11 (5 * j + 2)).toInt.toNat = cv ad1 h1 d (dvs d 11 (5 * j + 2)).toInt.toNat := fun j hj => by
    obtain ⟨-, ⟨p, p1, p2⟩, -⟩ := x11.2 j hj
    rw [p1, Int.toNat_natCast]
    exact cv_le hFv hni p2 (fun g hg => by rw [l22b]; exact a22 g hg) l35b
  refine ⟨hcn, ⟨fun g hg => by rw [l22H]; exact a22 g hg, fun j hj => by rw [l22H]; exact v2 j hj⟩, ?_, ?_⟩
  · refine ⟨fun e => (xb_l ha (ad' 24) e).toInt, fun e he => congrArg Int64.toInt (e1 e he), fun e he he' => e2 e he he', fun e => ?_⟩
    rw [l24, hel e]
    refine wrr_rel (R := Eq) _ (fun j hj => rfl) (fun j hj t ht => ?_) (fun j hj t ht => ?_) rfl
    · -- where
      have hex : 0 < dn d 3 / 3 := by
        have := (x7.2 j hj).1
        omega
      have etb : tbF H' (wN1 W md d q ms) (wic W) = tbF ha (wN1 W md d q ms) (wic W) := by
        unfold tbF
        rw [nia, sq.2.2]
        rcases hTb with ⟨t1, t2⟩ | ⟨t0, ta, t1, t2, t3, t4, t5, t6⟩
        · obtain ⟨ta, u1, u2⟩ := hlk.2.1.2.2.1.2 (by have e9 : ni d 1 = mcnt (dvs d 1) 1 (dn d 1 / 7) := n8 1 (by decide); omega)
          have k1 : xb_k h1 ta ≠ 0 := by rw [u2.1]; decide
          have sta := (smA ta (by rw [(sF.2.2.2.1 ta k1).1]; exact k1) (.inl (by rw [sF.2.2.1 ta k1]; exact u2.2.1))).2
          rw [t2, u1]
          show (xb_i H' ta 0).toInt.toNat = (xb_i ha ta 0).toInt.toNat
          rw [sta.1]
        · have sta := (smA ta (by rw [t2]; decide) (.inl t3)).2
          rw [t1]
          show (xb_i H' ta 0).toInt.toNat = (xb_i ha ta 0).toInt.toNat
          rw [sta.1]
      unfold elA
      rw [nid, cv7 j hj, etb]
      rfl
    · unfold elX
      rw [nid]
      have efn : ∀ k, fnI H' (wN1 W md d q ms) (wic W) k = fnI ha (wN1 W md d q ms) (wic W) k := fun k => by
        unfold fnI
        rw [nid, nia, sq.2.2, f1]
        show (if k < ni d 0 then (xb_l H' fa k).toInt.toNat else _) = (if k < ni d 0 then (xb_l ha fa k).toInt.toNat else _)
        rw [sfa.2.1]
      rw [efn]
  · refine ⟨byA (xb_l hb (ad' 26)), fun b hb9 => ?_, fun b hb9 hb8 => ?_, fun b => ?_⟩
    · rw [l26b]
      exact byA_c (b1 _ (by omega))
    · rw [l26b]
      exact byA_z (b2 _ (by omega) (by omega))
    · rw [l26, hda b]
      refine wrr_rel (R := Eq) _ (fun j hj => rfl) (fun j hj t ht => ?_) (fun j hj t ht => rfl) rfl
      have hex : 0 < dn d 4 / 3 := by
        have := (x11.2 j hj).1
        omega
      have esl : xb_i H' (mmS H' (wN1 W md d q ms) (wic W)) = xb_i hb ((xb_r hb ((xb_r hb (wia (wN1 W md d q ms) (wic W)) 7).getD 0) 2).getD 0) := by
        unfold mmS mmA
        rw [nia, sq.2.2, sqb.2.2]
        rcases hMm with ⟨t1, t2⟩ | ⟨t0, ma, sl, t1, t2, t3, t4, t5, t6, t7, t8, t9, t10, -⟩
        · obtain ⟨ma, u1, u2⟩ := hlk.2.1.2.2.2.2 (by have e9 : ni d 2 = mcnt (dvs d 1) 2 (dn d 1 / 7) := n8 2 (by decide); omega)
          obtain ⟨w1, w2, w3, w4, sl, pc, w5, w6, w7, -⟩ := u2
          have k1 : xb_k h1 ma ≠ 0 := by rw [w1]; decide
          have k2 : xb_k h1 sl ≠ 0 := by rw [w6]; decide
          have o1 : own' ma = 50 := by rw [sF.2.2.1 ma k1]; exact w2
          have o2 : own' sl = 51 := by rw [sF.2.2.1 sl k2]; exact w7
          have sma := smA ma (by rw [(sF.2.2.2.1 ma k1).1]; exact k1) (.inr (.inl o1))
          have ssl := smA sl (by rw [(sF.2.2.2.1 sl k2).1]; exact k2) (.inr (.inr o2))
          have w5' : xb_r ha ma 2 = some sl := by
            rw [(sF.n1 hB1 mkC_lt k1 (by simp) w2 (by omega)).2.2]
            exact w5
          rw [t2, u1]
          show xb_i H' ((xb_r H' ma 2).getD 0) = xb_i hb ((xb_r hb ma 2).getD 0)
          rw [sma.2.2.2, sma.1.2.2, w5']
          show xb_i H' sl = xb_i hb sl
          rw [ssl.2.1, ssl.1.1]
        · have sma := smA ma (by rw [t4]; decide) (.inr (.inl t5))
          have ssl := smA sl (by rw [t9]; decide) (.inr (.inr t10))
          rw [t1]
          show xb_i H' ((xb_r H' ma 2).getD 0) = xb_i hb ((xb_r hb ma 2).getD 0)
          rw [sma.2.2.2, sma.1.2.2, t8]
          show xb_i H' sl = xb_i hb sl
          rw [ssl.2.1, ssl.1.1]
      unfold daA
      rw [nid, cv11 j hj, esl]
end HT
