-- linking a module
def lkC : List Nat := [14, 18, 19, 20, 21, 22, 23, 24, 25, 26, 32, 33, 34, 35]
theorem lkC_lt : ∀ k ∈ lkC, k < 41 := by decide
section LK1
variable {own own' own2 ad ad' ad2 : Nat → Nat} {h h' h2 : xb_H} {W : wD} {σ : Nat}
theorem lkR.stp (hR : lkR own ad own' ad' h h') : stp [14, 32, 33, 34, 35] [] own ad own' ad' h h' := by
  obtain ⟨r1, r2, r3, r4, r5, r6, r7, r8⟩ := hR
  refine ⟨r1, fun k hk => r2 k (fun e => hk (by rw [e]; decide)) (fun e => hk (by rw [e]; decide)), r3, r4, fun a ha _ hc => r5 a ha (hc 14 (by decide)) (hc 32 (by decide)) (hc 33 (by decide)) (hc 34 (by decide)) (hc 35 (by decide)), fun k => ?_, fun k hk => r2 k (fun e => hk (by rw [e]; decide)) (fun e => hk (by rw [e]; decide))⟩
  by_cases e : k = 33
  · rw [e]; exact r7
  · by_cases e2 : k = 35
    · rw [e2]; exact r8
    · exact .inl (r2 k e e2)
theorem lkR.I {k : Nat} {x : Int32} (hB : cB own ad h) (hk : k = 7 ∨ k = 8) : lkR own ad own ad h (xb_I h (ad 14) k x) :=
  ⟨hB, fun _ _ _ => rfl, fun _ _ => rfl, fun _ _ => ⟨rfl, rfl⟩, fun a _ h1 _ _ _ _ => xh_smI _ _ _ h1, fun j h1 h2 => by rw [xh_iI, if_pos rfl, xh_up, if_neg (by omega)], .inl rfl, .inl rfl⟩
theorem lkR.J {c k : Nat} {x : Int32} (hB : cB own ad h) (hc : c = 32 ∨ c = 34) : lkR own ad own ad h (xb_I h (ad c) k x) :=
  ⟨hB, fun _ _ _ => rfl, fun _ _ => rfl, fun _ _ => ⟨rfl, rfl⟩, fun a _ h1 h2 h3 h4 h5 => xh_smI _ _ _ (by rcases hc with e | e <;> rw [e] <;> assumption), fun j h1 h2 => by rw [xh_iI, if_neg (hB.ne (by omega) (by omega) (by omega))], .inl rfl, .inl rfl⟩
theorem lkR.P {k : Nat} {x : Option Nat} (hB : cB own ad h) (hk : k = 14 ∨ k = 15) : lkR own ad own ad h (xb_P h (ad 14) k x) := by
  refine ⟨⟨hB.1, fun e he => ?_⟩, fun _ _ _ => rfl, fun _ _ => rfl, fun _ _ => ⟨rfl, rfl⟩, fun a _ h1 _ _ _ _ => xh_smP _ _ _ h1, fun j h1 h2 => by rw [xh_iP], .inl rfl, .inl rfl⟩
  have h9 : ∀ e ∈ cRl, e.1 = 14 → e.2.1 ≠ 14 ∧ e.2.1 ≠ 15 := by decide
  rw [xh_rP]
  split
  · rename_i e9
    have e1 : e.1 = 14 := Classical.byContradiction fun hne => hB.ne (cRl_lt e he).1 (by omega) hne e9
    obtain ⟨x1, x2⟩ := h9 e he e1
    rw [xh_up, if_neg (by omega), ← e9]
    exact hB.r e he
  · exact hB.r e he
theorem wI_elementsOf {md : Nat} {d : mD} {Qr : Int64 → xb_H → Prop} (hB : cB own ad h) (hm : mo own h md d) (hS : lkS own ad h W d (dn d 1 / 7)) (hE : wne W ≤ 16384) (hQ : ∀ r : Int64, r.toInt = eS ad h d → 0 ≤ r.toInt → r.toInt < 4294967296 → Qr r h) : w_World_elementsOf (ad 14) md h Qr := by
  obtain ⟨S1, S2, S3, S4⟩ := id hS
  unfold w_World_elementsOf w_World_elementsOf_L27
  refine ⟨hB.k 14 (by omega), fun e => ⟨hm.1.k, _, hm.1.row (k := 3) (by omega), mo_ownLeast hm (.inl ⟨rfl, rfl⟩) rfl (fun r e1 e2 e3 _ => hQ r ?_ e2 e3)⟩, fun ta e => ⟨ta, e, ?_⟩⟩
  · unfold eS
    rw [e]
    exact e1
  · by_cases h9 : mcnt (dvs d 1) 1 (dn d 1 / 7) = 0
    · rw [S3.1 h9] at e
      cases e
    · obtain ⟨ta2, k1, k2⟩ := S3.2 (by omega)
      rw [e] at k1
      injection k1 with k1
      subst k1
      obtain ⟨t1, t2, fr, sz, t3, t4, t5⟩ := k2
      refine ⟨t1, hQ _ ?_ ?_ ?_⟩
      · unfold eS
        rw [e, Z_of32]
      · rw [Z_of32, t4]
        omega
      · rw [Z_of32, t4]
        omega
theorem wI_bytesOf {md : Nat} {d : mD} {Qr : Int64 → xb_H → Prop} (hB : cB own ad h) (hm : mo own h md d) (hS : lkS own ad h W d (dn d 1 / 7)) (hE : wnp W ≤ 16) (hQ : ∀ r : Int64, r.toInt = bS ad h d → 0 ≤ r.toInt → r.toInt ≤ 4294967296 → Qr r h) : w_World_bytesOf (ad 14) md h Qr := by
  obtain ⟨S1, S2, S3, S4⟩ := id hS
  have p5 := (ol_rg hm (.inr ⟨rfl, rfl⟩)).2.2 rfl
  unfold w_World_bytesOf w_World_bytesOf_L31
  refine ⟨hB.k 14 (by omega), fun e => ⟨hm.1.k, _, hm.1.row (k := 4) (by omega), mo_ownLeast hm (.inr ⟨rfl, rfl⟩) rfl (fun r e1 e2 e3 _ => ?_)⟩, fun ma e => ⟨ma, e, ?_⟩⟩
  · have e9 : (r * 65536).toInt = 65536 * ol d 4 2 := by
      rw [Z_mul, e1, show (65536 : Int64).toInt = 65536 from rfl]
      omega
    refine hQ _ ?_ (by omega) (by omega)
    unfold bS
    rw [e, e9]
  · by_cases h9 : mcnt (dvs d 1) 2 (dn d 1 / 7) = 0
    · rw [S4.1 h9] at e
      cases e
    · obtain ⟨ta2, k1, k2⟩ := S4.2 (by omega)
      rw [e] at k1
      injection k1 with k1
      subst k1
      obtain ⟨m1, m2, m3, m4, sl2, pc, m5, m6, m7, m8, m9, m10, m11, m12⟩ := k2
      refine ⟨m1, m1, fun _ => ?_⟩
      have e9 : (xb_i h ma 3 * 65536).toInt = 65536 * (pc : Int) := by
        rw [z_mul, m10, show (65536 : Int32).toInt = 65536 from rfl]
        omega
      refine hQ _ ?_ ?_ ?_
      · unfold bS
        rw [e, Z_of32, e9]
        show _ = 65536 * (xb_i h ma 3).toInt
        rw [m10]
      · rw [Z_of32, e9]
        omega
      · rw [Z_of32, e9]
        omega
theorem wI_refuse {x y : Int32} {Qr : Int32 → xb_H → Prop} (hB : cB own ad h) (hW : wI own ad h W σ) (hQ : ∀ h' : xb_H, lkR own ad own ad h h' → wI own ad h' W σ → (∀ k, k < 41 → xb_n h' (ad k) = xb_n h (ad k)) → xb_i h' (ad 14) 7 = x ∧ xb_i h' (ad 14) 8 = y → Qr (-1) h') : w_World_refuse (ad 14) x y h Qr := by
  unfold w_World_refuse
  refine ⟨hB.k 14 (by omega), fun h2 e2 h3 e3 => ?_⟩
  have l1 : lkR own ad own ad h h2 := by rw [e2]; exact lkR.I hB (.inl rfl)
  have l2 : lkR own ad own ad h2 h3 := by rw [e3]; exact lkR.I l1.1 (.inr rfl)
  have hR := l1.tr l2
  obtain ⟨⟨g1n, g1⟩, g2n, g2⟩ := hW.2.2.2.2.2.2.2.1
  refine hQ h3 hR (hW.lk hB hR ⟨⟨g1n, g1.fr ?_ hR.2.2.2.1⟩, g2n, g2.fr ?_ hR.2.2.2.1⟩) (fun k hk => (hR.2.2.2.1 _ (hB.z k hk)).2) ⟨by rw [e3, xh_iI, if_pos rfl, xh_up, if_neg (by omega), e2, xh_iI, if_pos rfl, xh_up, if_pos rfl], by rw [e3, xh_iI, if_pos rfl, xh_up, if_pos rfl]⟩
  · rw [e3, e2]
    exact (xh_smI _ _ _ (hB.ne (by omega) (by omega) (by omega))).tr (xh_smI _ _ _ (hB.ne (by omega) (by omega) (by omega)))
  · rw [e3, e2]
    exact (xh_smI _ _ _ (hB.ne (by omega) (by omega) (by omega))).tr (xh_smI _ _ _ (hB.ne (by omega) (by omega) (by omega)))
theorem tkF_sm {d : mD} {k κ i num v : Nat} (hW : wI own ad h W σ) (hi : i < wic W) (sm : ∀ a, xb_k h a ≠ 0 → own a = 1 ∨ own a = 50 → xh_sm h h' a) : tkF h' W d k κ i num v ↔ tkF h W d k κ i num v := by
  have hiO := (hW.2.2.2.2.2.2.1.2.2.2 i hi).2
  have ef : fnI h' W i num = fnI h W i num := fnI_sm hiO (fun a ha ho => sm a ha (.inl ho))
  have ev : vnI h' W i num = vnI h W i num := vnI_sm hiO (fun a ha ho => sm a ha (.inl ho))
  have sw := sm (wia W i) (by have := hiO.1.1; omega) (.inl hiO.1.2.1)
  unfold tkF
  rw [ef, ev, sw.2.2]
  refine ⟨fun ⟨a, b, c, e⟩ => ⟨a, fun h9 => ⟨(b h9).1, ?_⟩, fun h9 => ⟨(c h9).1, ?_⟩, e⟩, fun ⟨a, b, c, e⟩ => ⟨a, fun h9 => ⟨(b h9).1, ?_⟩, fun h9 => ⟨(c h9).1, ?_⟩, e⟩⟩
  · have hta := hiO.2.2.2.2.2.1.2 v (b h9).1
    have sv := sm v (by have := hta.1; omega) (.inl hta.2.1)
    rw [← sv.1, ← sv.2.1]
    exact (b h9).2
  · have hta := hiO.2.2.2.2.2.2.2 v (c h9).1
    have sv := sm v (by have := hta.1; omega) (.inr hta.2.1)
    rw [← sv.1, ← sv.2.1]
    exact (c h9).2
  · have hta := hiO.2.2.2.2.2.1.2 v (b h9).1
    have sv := sm v (by have := hta.1; omega) (.inl hta.2.1)
    rw [sv.1, sv.2.1]
    exact (b h9).2
  · have hta := hiO.2.2.2.2.2.2.2 v (c h9).1
    have sv := sm v (by have := hta.1; omega) (.inr hta.2.1)
    rw [sv.1, sv.2.1]
    exact (c h9).2
theorem luR_lk {d : mD} {k v : Nat} {r : Int32} (hB : cB own ad h) (hW : wI own ad h W σ) (hR : lkR own ad own' ad' h h') (hl : luR ad' h' W d k r v) : luR ad h W d k r v := by
  obtain ⟨r1, r2, r3, r4, r5, r6, r7, r8⟩ := hR
  have sm : ∀ j, j < 41 → j ≠ 14 → j < 32 ∨ 35 < j → ad' j = ad j ∧ xh_sm h h' (ad j) := fun j hj h9 h8 => ⟨r2 j (by omega) (by omega), r5 _ (hB.z j hj) (hB.ne hj (by omega) (by omega)) (hB.ne hj (by omega) (by omega)) (hB.ne hj (by omega) (by omega)) (hB.ne hj (by omega) (by omega)) (hB.ne hj (by omega) (by omega))⟩
  have sm1 : ∀ a, xb_k h a ≠ 0 → own a = 1 ∨ own a = 50 → xh_sm h h' a := fun a ha ho => by
    have nk : ∀ j, j < 41 → a ≠ ad j := fun j hj => hB.nk hj (c := own a) rfl (by omega)
    exact r5 a ha (nk 14 (by omega)) (nk 32 (by omega)) (nk 33 (by omega)) (nk 34 (by omega)) (nk 35 (by omega))
  have s29 := sm 29 (by omega) (by omega) (by omega)
  have s30 := sm 30 (by omega) (by omega) (by omega)
  have s31 := sm 31 (by omega) (by omega) (by omega)
  have enm : ∀ nn u p l x, nmR ad' h' nn u p l x → nmR ad h nn u p l x := fun nn u p l x h9 => by
    unfold nmR nmS at *
    rw [s30.1, s31.1, s30.2.2.1, s31.2.1] at h9
    exact h9
  rcases hl with hl | ⟨hn, nn, h29, hl⟩
  · exact .inl hl
  rw [s29.1, s29.2.1] at h29
  refine .inr ⟨hn, nn, h29, ?_⟩
  rcases hl with ⟨h1, h2⟩ | ⟨r0, i, h1, h2, h3, hl⟩
  · exact .inl ⟨h1, enm _ _ _ _ _ h2⟩
  refine .inr ⟨r0, i, h1, h2, enm _ _ _ _ _ h3, ?_⟩
  rcases hl with hl | ⟨r9, e, h4, h5, h6, hl⟩
  · exact .inl hl
  refine .inr ⟨r9, e, h4, h5, h6, ?_⟩
  rcases hl with ⟨h7, hl⟩ | ⟨h7, h8, hl⟩
  · refine .inl ⟨h7, ?_⟩
    rcases hl with hl | hl
    · exact .inl hl
    · exact .inr (fun v hv => hl v ((tkF_sm hW h2 sm1).mpr hv))
  · exact .inr ⟨h7, h8, (tkF_sm hW h2 sm1).mp hl⟩
/-- the imports up to k are taken over: what each means -/
def lkA (ad0 : Nat → Nat) (h0 : xb_H) (W : wD) (d : mD) (k : Nat) (vv : Nat → Nat) (ad : Nat → Nat) (h : xb_H) : Prop := ∀ j, j < k → luR ad0 h0 W d j 0 (vv j) ∧ lkI ad h d (dvs d 1 (7 * j + 1)).toInt.toNat j (vv j)
/-- all imports are taken over -/
def lkM (own ad : Nat → Nat) (h : xb_H) (W : wD) (d : mD) (vv : Nat → Nat) (own1 ad1 : Nat → Nat) (h1 : xb_H) : Prop := lkR own ad own1 ad1 h h1 ∧ lkS own1 ad1 h1 W d (dn d 1 / 7) ∧ lkA ad h W d (dn d 1 / 7) vv ad1 h1
/-- why a module is refused: the code, the place -/
def lkN (own ad : Nat → Nat) (h : xb_H) (W : wD) (d : mD) (x y : Int32) : Prop :=
  (∃ (k : Nat) (vv : Nat → Nat), k < dn d 1 / 7 ∧ (∀ j, j < k → luR ad h W d j 0 (vv j)) ∧ x ≠ 0 ∧ luR ad h W d k x 0 ∧ y.toInt = k) ∨
  ∃ (vv own1 ad1 : Nat → Nat) (h1 : xb_H), lkM own ad h W d vv own1 ad1 h1 ∧
   ((x = 44 ∧ y = 0 ∧ ¬ tmO W d) ∨ (tmO W d ∧ ((x = 45 ∧ ∃ i : Nat, y.toInt = i ∧ i < dn d 7 / 5 ∧ ¬ rbO ad1 h1 d 7 (eS ad1 h1 d) i ∧ ∀ j, j < i → rbO ad1 h1 d 7 (eS ad1 h1 d) j) ∨ ((∀ i, i < dn d 7 / 5 → rbO ad1 h1 d 7 (eS ad1 h1 d) i) ∧ x = 46 ∧ ∃ i : Nat, y.toInt = i ∧ i < dn d 11 / 5 ∧ ¬ rbO ad1 h1 d 11 (bS ad1 h1 d) i ∧ ∀ j, j < i → rbO ad1 h1 d 11 (bS ad1 h1 d) j))))
/-- what linking may lead to -/
def lkQ (own ad : Nat → Nat) (h : xb_H) (W : wD) (σ md : Nat) (d : mD) (rc rs : Nat) (own' ad' : Nat → Nat) (h' : xb_H) (r : Int32) (bc' bs' : Nat) : Prop :=
  stp lkC [] own ad own' ad' h h' ∧ xb_i h' (ad 14) 11 = xb_i h (ad 14) 11 ∧ ((r.toInt = -1 ∧ wI own' ad' h' W σ ∧ bg ad' h' (rc + 6) (rs + (31 + (ni d 0 + ni d 3))) bc' bs' ∧ lkR own ad own' ad' h h' ∧ lkN own ad h W d (xb_i h' (ad 14) 7) (xb_i h' (ad 14) 8)) ∨ (r.toInt = wic W ∧ wic W < 24 ∧ bg ad' h' rc rs bc' bs' ∧ (xb_i h' (ad 14) 7 = 0 ∧ xb_i h' (ad 14) 8 = 0) ∧ ∃ (q : Nat) (ms : Nat → Nat), wI own' ad' h' (wN1 W md d q ms) σ ∧ (∀ a, xb_k h a ≠ 0 → ms a = wms W a) ∧ ∃ (vv own1 ad1 : Nat → Nat) (h1 : xb_H), lkM own ad h W d vv own1 ad1 h1 ∧ tmO W d ∧ (∀ i, i < dn d 7 / 5 → rbO ad1 h1 d 7 (eS ad1 h1 d) i) ∧ (∀ i, i < dn d 11 / 5 → rbO ad1 h1 d 11 (bS ad1 h1 d) i) ∧ mkG own1 ad1 h1 W md d q ms own' ad' h'))
theorem wI_link {md rc rs bc bs : Nat} {d : mD} {Qr : Int32 → xb_H → Nat → Nat → Prop} (hB : cB own ad h) (hW : wI own ad h W σ) (hm : mo own h md d) (hg : bg ad h (rc + 6) (rs + (31 + (ni d 0 + ni d 3))) bc bs)
    (hQ : ∀ (h' : xb_H) (own' ad' : Nat → Nat) (r : Int32) (bc' bs' : Nat), lkQ own ad h W σ md d rc rs own' ad' h' r bc' bs' → Qr r h' bc' bs') : w_World_link σ (ad 14) md h bc bs Qr := by
  obtain ⟨n1, n2, n3, n4, n5, n6, n7, n8⟩ := hm.nn
  have k14 : xb_k h (ad 14) = 7 := hB.k 14 (by omega)
  -- refused
  have no : ∀ (h1 : xb_H) (own1 ad1 : Nat → Nat) (bc1 bs1 : Nat) (x y : Int32) (Q2 : Int32 → xb_H → Prop), lkR own ad own1 ad1 h h1 → wI own1 ad1 h1 W σ → bg ad1 h1 (rc + 6) (rs + (31 + (ni d 0 + ni d 3))) bc1 bs1 → lkN own ad h W d x y → (∀ h2, Qr (-1) h2 bc1 bs1 → Q2 (-1) h2) → w_World_refuse (ad 14) x y h1 Q2 := by
    intro h1 own1 ad1 bc1 bs1 x y Q2 r1 w1 g1 hN q1
    have key := wI_refuse (x := x) (y := y) (Qr := Q2) r1.1 w1 (fun h2 r2 w2 n2 ⟨e7, e8⟩ => q1 h2 (hQ h2 own1 ad1 (-1) bc1 bs1 ⟨(r1.tr r2).stp.mono (by decide) (fun k hk => hk), (r1.tr r2).2.2.2.2.2.1 11 (by omega) (by omega), .inl ⟨rfl, w2, (g1.sp (c := 0) (s := 0) (ad' := ad1) (h' := h2) (fun k hk => ⟨rfl, n2 k hk⟩)).2.2, r1.tr r2, by rw [← r1.2.1 14 (by omega) (by omega), e7, e8]; exact hN⟩⟩))
    rw [r1.2.1 14 (by omega) (by omega)] at key
    exact key
  have fin : ∀ (h1 : xb_H) (own1 ad1 : Nat → Nat) (bc1 bs1 : Nat), lkR own ad own1 ad1 h h1 → wI own1 ad1 h1 W σ → lkS own1 ad1 h1 W d (dn d 1 / 7) → (∃ vv, lkA ad h W d (dn d 1 / 7) vv ad1 h1) → (xb_i h1 (ad 14) 7 = 0 ∧ xb_i h1 (ad 14) 8 = 0) → bg ad1 h1 (rc + 6) (rs + (31 + (ni d 0 + ni d 3))) bc1 bs1 → xb_k h1 (ad 14) = 7 ∧ w_World_isTooMuch (ad 14) md h1 (fun (r9 : Int32) (h8 : xb_H) => xb_ext h1 h8 → ((r9 = (0 : Int32) → ∃ b11 : Nat, (xb_r h8 md 9) = some b11 ∧ w_World_elementsOf (ad 14) md h8 (fun (r13 : Int64) (h12 : xb_H) => xb_ext h8 h12 → w_World_rowBeyond (ad 14) md b11 r13 h12 (fun (r15 : Int32) (h14 : xb_H) => xb_ext h12 h14 → ((r15 = ((-1) : Int32) → ∃ b17 : Nat, (xb_r h14 md 13) = some b17 ∧ w_World_bytesOf (ad 14) md h14 (fun (r19 : Int64) (h18 : xb_H) => xb_ext h14 h18 → w_World_rowBeyond (ad 14) md b17 r19 h18 (fun (r21 : Int32) (h20 : xb_H) => xb_ext h18 h20 → ((r21 = ((-1) : Int32) → w_World_make (ad 14) md h20 bc1 bs1 (fun (r24 : Int32) (h23 : xb_H) (bc24 bs24 : Nat) => xb_ext h20 h23 → Qr r24 h23 bc24 bs24)) ∧ (¬ r21 = ((-1) : Int32) → w_World_refuse (ad 14) 46 r21 h20 (fun (r26 : Int32) (h25 : xb_H) => xb_ext h20 h25 → Qr r26 h25 bc1 bs1)))))) ∧ (¬ r15 = ((-1) : Int32) → w_World_refuse (ad 14) 45 r15 h14 (fun (r28 : Int32) (h27 : xb_H) => xb_ext h14 h27 → Qr r28 h27 bc1 bs1)))))) ∧ (¬ r9 = (0 : Int32) → w_World_refuse (ad 14) 44 0 h8 (fun (r30 : Int32) (h29 : xb_H) => xb_ext h8 h29 → Qr r30 h29 bc1 bs1)))) := by
    intro h1 own1 ad1 bc1 bs1 r1 w1 s1 ⟨vv, hvv⟩ z78 g1
    have hM : lkM own ad h W d vv own1 ad1 h1 := ⟨r1, s1, hvv⟩
    have a14 := r1.2.1 14 (by omega) (by omega)
    have hm1 := hm.lk hB r1
    have s2 := s1.2.1
    have c3 : ni d 3 = mcnt (dvs d 1) 3 (dn d 1 / 7) := n8 3 (by omega)
    rw [← c3] at s2
    have no1 : ∀ (x y : Int32), lkN own ad h W d x y → w_World_refuse (ad 14) x y h1 (fun (r30 : Int32) (h29 : xb_H) => xb_ext h1 h29 → Qr r30 h29 bc1 bs1) := fun x y hN => no h1 own1 ad1 bc1 bs1 x y _ r1 w1 g1 hN (fun h2 h9 _ => h9)
    rw [← a14] at no1 ⊢
    refine ⟨r1.1.k 14 (by omega), wI_isTooMuch r1.1 w1 hm1 ⟨n5 0 (by omega), n5 3 (by omega), n1, n2, n3, n4⟩ (fun r9 h9 _ => ⟨fun e9 => ⟨_, hm1.1.row (k := 7) (by omega), wI_elementsOf r1.1 hm1 s1 w1.2.2.1.2.1 (fun r13 f1 f2 f3 _ => wI_rowBeyond (k := 7) r1.1 w1.2.1 s2 hm1 (n5 3 (by omega)) (.inl rfl) ⟨f2, by omega⟩ (fun r15 h15 _ => ⟨fun e15 => ⟨_, hm1.1.row (k := 11) (by omega), wI_bytesOf r1.1 hm1 s1 w1.2.2.2.1.2 (fun r19 f4 f5 f6 _ => wI_rowBeyond (k := 11) r1.1 w1.2.1 s2 hm1 (n5 3 (by omega)) (.inr rfl) ⟨f5, by omega⟩ (fun r21 h21 _ => ⟨fun e21 => ?_, fun e21 => no1 _ _ ?_⟩))⟩, fun e15 => no1 _ _ ?_⟩))⟩, fun e9 => no1 _ _ ?_⟩)⟩
    rotate_left
    · refine .inr ⟨vv, own1, ad1, h1, hM, .inr ⟨?_, .inr ⟨?_, rfl, ?_⟩⟩⟩
      · rcases h9 with ⟨h9, -⟩ | ⟨-, h9⟩
        · rw [e9] at h9; cases h9
        · exact h9
      · rcases h15 with ⟨i, h9, -⟩ | ⟨-, h9⟩
        · rw [e15, show (-1 : Int32).toInt = -1 from rfl] at h9; omega
        · rw [← f1]; exact h9
      · rcases h21 with h9 | ⟨h9, -⟩
        · rw [← f4]; exact h9
        · exact absurd h9 e21
    · refine .inr ⟨vv, own1, ad1, h1, hM, .inr ⟨?_, .inl ⟨rfl, ?_⟩⟩⟩
      · rcases h9 with ⟨h9, -⟩ | ⟨-, h9⟩
        · rw [e9] at h9; cases h9
        · exact h9
      · rcases h15 with h9 | ⟨h9, -⟩
        · rw [← f1]; exact h9
        · exact absurd h9 e15
    · refine .inr ⟨vv, own1, ad1, h1, hM, .inl ⟨rfl, rfl, ?_⟩⟩
      rcases h9 with ⟨-, h9⟩ | ⟨h9, -⟩
      · exact h9
      · exact absurd h9 e9
    rw [e9] at h9
    rw [e15] at h15
    rw [e21] at h21
    rcases h9 with ⟨h9, -⟩ | ⟨-, hTM⟩
    · cases h9
    obtain ⟨k1, k2, k3, k4, k5⟩ := id hTM
    have h15' : ∀ i, i < dn d 7 / 5 → rbO ad1 h1 d 7 r13.toInt i := by
      rcases h15 with ⟨i, h9, -⟩ | h9
      · rw [show (-1 : Int32).toInt = -1 from rfl] at h9; omega
      · exact h9.2
    have h21' : ∀ i, i < dn d 11 / 5 → rbO ad1 h1 d 11 r19.toInt i := by
      rcases h21 with ⟨i, h9, -⟩ | h9
      · rw [show (-1 : Int32).toInt = -1 from rfl] at h9; omega
      · exact h9.2
    refine wI_make r1.1 w1 hm1 s1 k1 k2 k3 k4 k5 g1 (fun j hj => by rw [← f1]; exact h15' j hj) (fun j hj => by rw [← f4]; exact h21' j hj) (fun q ms h2 own2 ad2 bc2 bs2 r j1 jG j2 j3 j4 j6 j5 _ => ?_)
    refine hQ h2 own2 ad2 r bc2 bs2 ⟨(r1.stp.tr j1).mono (by decide) (fun k hk => by simpa using hk), ?_, .inr ⟨j4, k1, j5, ?_, q, ms, j2, fun a ha => j3 a (ext_nz r1.2.2.2.1 ha), vv, own1, ad1, h1, hM, hTM, fun j hj => by rw [← f1]; exact h15' j hj, fun j hj => by rw [← f4]; exact h21' j hj, jG⟩⟩
    rotate_left
    · rw [← a14]
      rw [← a14] at z78
      obtain ⟨hh1, hh2, jF, w24, w26, -, -⟩ := jG
      have b14 : ad2 14 = ad1 14 := j1.2.2.2.2.2.2 14 (by decide)
      have u2 := w24.sm (a := ad1 14) (by rw [← b14]; exact jF.1.1.ne (by omega) (by omega) (by omega))
      have u4 := w26.sm (a := ad1 14) (by rw [← b14]; exact (w24.B jF.1.1).ne (by omega) (by omega) (by omega))
      rw [u4.1, u2.1]
      exact ⟨(jF.2.2.2.2.2.2.1.2.2 7 (by omega)).trans z78.1, (jF.2.2.2.2.2.2.1.2.2 8 (by omega)).trans z78.2⟩
    rw [a14] at j6
    exact j6.trans (r1.2.2.2.2.2.1 11 (by omega) (by omega))
  have key : ∀ (m : Nat) (x2 : Int32) (k : Nat) (h1 : xb_H) (own1 ad1 : Nat → Nat) (bc1 bs1 : Nat), x2.toInt = k → k ≤ dn d 1 / 7 → dn d 1 / 7 - k ≤ m → lkR own ad own1 ad1 h h1 → wI own1 ad1 h1 W σ → lkS own1 ad1 h1 W d k → (∃ vv, lkA ad h W d k vv ad1 h1) → (xb_i h1 (ad 14) 7 = 0 ∧ xb_i h1 (ad 14) 8 = 0) → bg ad1 h1 (rc + 6) (rs + (31 + (ni d 0 + ni d 3))) bc1 bs1 → w_World_link_L38 σ Qr (m + 1) (ad 14) md x2 h1 bc1 bs1 := by
    intro m
    induction m with
    | zero =>
      intro x2 k h1 own1 ad1 bc1 bs1 e2 hk hkm r1 w1 s1 hvv z78 g1
      have ek : dn d 1 / 7 = k := by omega
      have hm1 := hm.lk hB r1
      unfold w_World_link_L38
      refine ⟨hm1.1.k, _, hm1.1.row (k := 1) (by omega), hm1.1.krow (by omega), md_lines hm1.1 (k := 1) (c := 7) (by omega) rfl (by omega) (fun r5 e5 _ => ⟨fun _ => fin h1 own1 ad1 bc1 bs1 r1 w1 (by rw [ek]; exact s1) (by rw [ek]; exact hvv) z78 g1, fun e => ?_⟩)⟩
      rw [z_le, e5, e2] at e
      omega
    | succ m ih =>
      intro x2 k h1 own1 ad1 bc1 bs1 e2 hk hkm r1 w1 s1 hvv z78 g1
      have hm1 := hm.lk hB r1
      unfold w_World_link_L38
      refine ⟨hm1.1.k, _, hm1.1.row (k := 1) (by omega), hm1.1.krow (by omega), md_lines hm1.1 (k := 1) (c := 7) (by omega) rfl (by omega) (fun r5 e5 _ => ⟨fun e => ?_, fun e => ?_⟩)⟩
      · rw [z_le, e5, e2] at e
        have ek : dn d 1 / 7 = k := by omega
        exact fin h1 own1 ad1 bc1 bs1 r1 w1 (by rw [ek]; exact s1) (by rw [ek]; exact hvv) z78 g1
      · rw [z_le, e5, e2] at e
        have hk2 : k < dn d 1 / 7 := by omega
        have a14 := r1.2.1 14 (by omega) (by omega)
        have hb : dn d 1 / 7 ≤ 1000000 := by
          have := hm.2.1.2.2.2.2.2.2.2.2.2.2.2.1 1 (by omega)
          have := hm.1.2.2.2.2
          omega
        have kk := wI_lookUp (x2 := x2) (Qr := fun (r33 : Int32) (h32 : xb_H) (bc33 bs33 : Nat) => xb_ext h1 h32 → ((r33 = (0 : Int32) → w_World_link_L38 σ Qr (m + 1) (ad 14) md (x2 + 1) h32 bc33 bs33) ∧ (¬ r33 = (0 : Int32) → w_World_refuse (ad 14) r33 x2 h32 (fun (r36 : Int32) (h35 : xb_H) => xb_ext h32 h35 → Qr r36 h35 bc33 bs33)))) r1.1 w1 hm1 s1 e2 hk2 g1 (fun h2 own2 ad2 r bc2 bs2 j1 j2 j3 j4 _ => ⟨fun e0 => ?_, fun e0 => no h2 own2 ad2 bc2 bs2 r x2 _ (r1.tr j1) j2 j4 ?_ (fun h3 h9 _ => h9)⟩)
        · rw [a14] at kk
          refine ⟨?_, kk⟩
          rw [← a14]
          exact r1.1.k 14 (by omega)
        · have e3 : (x2 + 1).toInt = (k + 1 : Nat) := z_inc e2 (by omega)
          rcases j3 with ⟨h9, -⟩ | ⟨-, h9, v, h8, h7, h6⟩
          · exact absurd e0 h9
          · refine ih (x2 + 1) (k + 1) h2 own2 ad2 bc2 bs2 e3 (by omega) (by omega) (r1.tr j1) j2 h9 ?_ ?_ j4
            · obtain ⟨vv, hvv⟩ := hvv
              refine ⟨va_up vv k v, fun j hj => ?_⟩
              rw [xh_up]
              by_cases ej : j = k
              · subst ej
                rw [if_pos rfl]
                rw [e0] at h8
                exact ⟨luR_lk hB hW r1 h8, h7⟩
              · rw [if_neg ej]
                obtain ⟨y1, y2, y3, y4, y5⟩ := hvv j (by omega)
                obtain ⟨κ, c1, c2, -⟩ := hm.imp (k := j) (by omega)
                have ek : (dvs d 1 (7 * j + 1)).toInt.toNat = κ := by omega
                have ml := mcnt_lt (v := dvs d 1) (κ := (κ : Int)) (k := j) (m := k) (by omega) c2
                rw [ek] at y2 y3 y4 y5 ⊢
                refine ⟨y1, fun h5 => ?_, fun h5 => ?_, fun h5 => ?_, fun h5 => ?_⟩
                · subst h5
                  have ml' : mcnt (dvs d 1) 0 j < mcnt (dvs d 1) 0 k := ml
                  rw [h6.1 _ ml']
                  exact y2 rfl
                · subst h5
                  have ml' : mcnt (dvs d 1) 3 j < mcnt (dvs d 1) 3 k := ml
                  rw [h6.2.1 _ ml']
                  exact y3 rfl
                · subst h5
                  have ml' : mcnt (dvs d 1) 1 j < mcnt (dvs d 1) 1 k := ml
                  rw [h6.2.2.1 (by omega)]
                  exact y4 rfl
                · subst h5
                  have ml' : mcnt (dvs d 1) 2 j < mcnt (dvs d 1) 2 k := ml
                  rw [h6.2.2.2.1 (by omega)]
                  exact y5 rfl
            · rw [← a14]
              rw [← a14] at z78
              have h14 : ad2 14 = ad1 14 := j1.2.1 14 (by omega) (by omega)
              have h5 := h6.2.2.2.2
              rw [h14] at h5
              rw [h5]
              exact z78
        · obtain ⟨vv, hvv⟩ := hvv
          rcases j3 with ⟨h9, h8⟩ | ⟨h9, -⟩
          · exact .inl ⟨k, vv, hk2, fun j hj => (hvv j hj).1, h9, luR_lk hB hW r1 h8, e2⟩
          · exact absurd h9 e0
  unfold w_World_link
  obtain ⟨⟨g1n, g1⟩, g2n, g2⟩ := hW.2.2.2.2.2.2.2.1
  refine ⟨k14, fun h2 e2 h3 e3 => ?_⟩
  have l2 : lkR own ad own ad h h2 := by rw [e2]; exact lkR.I hB (.inl rfl)
  have l3 : lkR own ad own ad h h3 := by rw [e3]; exact l2.tr (lkR.I l2.1 (.inr rfl))
  refine ⟨ad 32, l3.1.r (14, 12, 32) (by decide), l3.1.k 32 (by omega), fun h6 e6 => ?_⟩
  have l6 : lkR own ad own ad h h6 := by rw [e6]; exact l3.tr (lkR.J l3.1 (.inl rfl))
  refine ⟨ad 34, l6.1.r (14, 13, 34) (by decide), l6.1.k 34 (by omega), fun h9 e9 h10 e10 h11 e11 => ⟨dn d 1 / 7 + 1, ?_⟩⟩
  have l9 : lkR own ad own ad h h9 := by rw [e9]; exact l6.tr (lkR.J l6.1 (.inr rfl))
  have l10 : lkR own ad own ad h h10 := by rw [e10]; exact l9.tr (lkR.P l9.1 (.inl rfl))
  have l11 : lkR own ad own ad h h11 := by rw [e11]; exact l10.tr (lkR.P l10.1 (.inr rfl))
  have ne1 : ad 32 ≠ ad 14 := hB.ne (by omega) (by omega) (by omega)
  have ne2 : ad 34 ≠ ad 14 := hB.ne (by omega) (by omega) (by omega)
  have ne3 : ad 32 ≠ ad 34 := hB.ne (by omega) (by omega) (by omega)
  have row0 : ∀ (r n : Nat), xr_row h (ad r) 1 n (ad (r + 1)) → r = 32 ∨ r = 34 → xr_row h11 (ad r) 1 0 (ad (r + 1)) := by
    intro r n hr h9
    obtain ⟨b1, b2, b3, b4, b5, b6, b7, b8⟩ := hr
    have e := l11.2.2.2.1
    have ii : xb_i h11 (ad r) = va_up (xb_i h (ad r)) 1 0 := by
      rcases h9 with h9 | h9
      · rw [h9, e11, xh_iP, e10, xh_iP, e9, xh_iI, if_neg ne3, e6, xh_iI, if_pos rfl, e3, xh_iI, if_neg ne1, e2, xh_iI, if_neg ne1]
      · rw [h9, e11, xh_iP, e10, xh_iP, e9, xh_iI, if_pos rfl, e6, xh_iI, if_neg ne3.symm, e3, xh_iI, if_neg ne2, e2, xh_iI, if_neg ne2]
    have rr : xb_r h11 (ad r) = xb_r h (ad r) := by
      have hn : ad r ≠ ad 14 := by rcases h9 with h9 | h9 <;> rw [h9] <;> assumption
      rw [e11, xh_rP, if_neg hn, e10, xh_rP, if_neg hn, e9, xh_rI, e6, xh_rI, e3, xh_rI, e2, xh_rI]
    exact ⟨e.k (c := 1) b1, by rw [ii, xh_up, if_neg (by omega)]; exact b2, by rw [ii, xh_up, if_pos rfl]; rfl, by rw [rr]; exact b4, e.k (c := 102) b5, by omega, by rw [e.n (c := 102) b5]; exact b7, by rw [e.n (c := 102) b5]; exact b8⟩
  have R1 := row0 32 g1n g1 (.inl rfl)
  have R2 := row0 34 g2n g2 (.inr rfl)
  have r14 : xb_r h11 (ad 14) 14 = none := by rw [e11, xh_rP, if_pos rfl, xh_up, if_neg (by omega), e10, xh_rP, if_pos rfl, xh_up, if_pos rfl]
  have r15 : xb_r h11 (ad 14) 15 = none := by rw [e11, xh_rP, if_pos rfl, xh_up, if_pos rfl]
  refine key (dn d 1 / 7) 0 0 h11 own ad bc bs rfl (by omega) (by omega) l11 (hW.lk hB l11 ⟨⟨0, R1⟩, 0, R2⟩) ⟨⟨R1, fun j hj => by cases hj⟩, ⟨R2, fun j hj => by cases hj⟩, ⟨fun _ => r14, fun h9 => by cases h9⟩, fun _ => r15, fun h9 => by cases h9⟩ ⟨fun _ => 0, fun j hj => by omega⟩ ⟨?_, ?_⟩ ?_
  · rw [e11, xh_iP, e10, xh_iP, e9, xh_iI, if_neg ne2.symm, e6, xh_iI, if_neg ne1.symm, e3, xh_iI, if_pos rfl, xh_up, if_neg (by omega), e2, xh_iI, if_pos rfl, xh_up, if_pos rfl]
  · rw [e11, xh_iP, e10, xh_iP, e9, xh_iI, if_neg ne2.symm, e6, xh_iI, if_neg ne1.symm, e3, xh_iI, if_pos rfl, xh_up, if_pos rfl]
  exact (hg.sp (c := 0) (s := 0) (ad' := ad) (h' := h11) (fun k hk => ⟨rfl, (l11.2.2.2.1 _ (hB.z k hk)).2⟩)).2.2
end LK1
