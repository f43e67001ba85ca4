-- a module becomes an instance: its variables
/-- what is left when the variables have their values -/
def w_mk_T (Qr : Int32 → xb_H → Nat → Nat → Prop) (x0 x1 x2 : Nat) (h : xb_H) (bc bs : Nat) : Prop :=
    ∃ b7 : Nat, (xb_r h x1 5) = some b7 ∧ xb_k h b7 = 2 ∧ w_Row_lines b7 h (fun (r10 : Int32) (h9 : xb_H) => xb_ext h h9 → ∃ b11 : Nat, (xb_r h9 x1 14) = some b11 ∧ xb_k h9 b11 = 102 ∧ vp_in 1 (xb_n h9 b11) ∧ ((r10 ≤ (xb_i h9 b11 1) → w_World_make_L171 Qr x0 x1 x2 h9 bc bs) ∧ (¬ r10 ≤ (xb_i h9 b11 1) → ∃ b15 : Nat, (xb_r h9 x1 5) = some b15 ∧ w_World_ownLeast x1 b15 1 h9 (fun (r17 : Int64) (h16 : xb_H) => xb_ext h9 h16 → ∀ v18 : Int32, v18 = (Int64.toInt32 r17) → 1 ≤ bc ∧ 3 ≤ bs ∧ ∀ q19 : Nat, xb_k h16 q19 = 0 → ∀ h20 : xb_H, h20 = xb_new h16 q19 12 0 → xb_k h20 x0 = 7 ∧ ∃ b23 : Nat, (xb_r h20 x0 4) = some b23 ∧ xb_k h20 b23 = 2 ∧ ∃ b25 : Nat, (xb_r h20 x1 5) = some b25 ∧ xb_k h20 b25 = 2 ∧ w_Row_longAt b25 0 2 h20 (fun (r28 : Int64) (h27 : xb_H) => xb_ext h20 h27 → w_Table_init q19 (xb_i h20 b23 1) v18 r28 h27 (fun (h29 : xb_H) => xb_ext h27 h29 → xb_k h29 x2 = 11 ∧ ∀ h32 : xb_H, h32 = xb_P h29 x2 6 (some q19) → ∃ b33 : Nat, (xb_r h32 x0 4) = some b33 ∧ xb_k h32 b33 = 2 ∧ w_Row_addMany b33 v18 (-1) h32 (bc - 1) (bs - 3) (fun (h35 : xb_H) (bc36 bs36 : Nat) => xb_ext h32 h35 → w_World_make_L171 Qr x0 x1 x2 h35 bc36 bs36)))))))
def wsVv (W : wD) (n : Nat) (vt : Nat → Int) : wD := (wic W, wia W, wim W, wMD W, wff W, wfv W, wfo W, wno W, vt, n, wne W, wnp W, wms W)
section MK4
variable {own own' ad ad' : Nat → Nat} {h h' : xb_H} {W : wD} {σ : Nat}
theorem mo.st {md : Nat} {d : mD} {C X : List Nat} (hB : cB own ad h) (hs : stp C X own ad own' ad' h h') (hC : ∀ k ∈ C, k < 41) (hX : ∀ x ∈ X, own x ≠ 1 ∨ xb_k h x = 0) (hm : mo own h md d) : mo own' h' md d := by
  refine hm.fr (fun a ha ho => hs.n1 hB hC ha (fun h9 => ?_) ho (by omega)) hs.2.2.2.1 (fun a ha ho => by rw [hs.2.2.1 a ha]; exact ho)
  rcases hX a h9 with h8 | h8
  · exact h8 ho
  · exact ha h8
theorem cv_le {d : mD} {p : Nat} {τ : Int} (hF : fV ad h W d (ni d 3)) (hni : (div_ d 3).toInt = ni d 3) (he : ck_ex (dN d) (dcb d) (dnu d) (dvs d 5) (div_ d 3).toInt p τ) (h1 : ∀ v, v < wnv W → xb_l h' (ad' 22) v = xb_l h (ad 22) v) (h2 : xb_l h' (ad' 35) = xb_l h (ad 35)) : cv ad' h' d p = cv ad h d p := by
  unfold cv
  rw [h2]
  split
  · rename_i h9
    obtain ⟨-, ⟨-, ⟨i, e1, e2, e3⟩⟩ | ⟨e1, e2, -⟩⟩ := he
    · obtain ⟨v, f1, f2, -⟩ := hF.2 i (by omega)
      rw [e1, Int.toNat_natCast, f1, Int.toNat_natCast]
      exact h1 v f2
    · rw [h9] at e1 e2
      simp only [Int32.reduceToInt] at e1 e2
      omega
  · rfl
theorem mk_vars {md q rc rs bc bs : Nat} {d : mD} {x3 : Int32} {Qr : Int32 → xb_H → Nat → Nat → Prop} (hB : cB own ad h) (hm : mo own h md d) (hV : wV ad h W) (hF : fV ad h W d (ni d 3)) (hl : wnv W + (nvr d - ni d 3) ≤ 4096) (hg : bg ad h rc rs bc bs) (hx3 : x3.toInt = ni d 3)
    (hK : ∀ (h1 : xb_H) (own1 ad1 : Nat → Nat) (bc1 bs1 : Nat), stp [21, 22] [] own ad own1 ad1 h h1 → xr_row h1 (ad1 21) 1 (wnv W + (nvr d - ni d 3)) (ad1 22) → (∀ v, v < wnv W → xb_l h1 (ad1 22) v = xb_l h (ad 22) v) → (∀ j, j < nvr d - ni d 3 → vr (dvs d 5 (4 * (ni d 3 + j) + 1)).toInt (xb_l h1 (ad1 22) (wnv W + j))) → bg ad1 h1 rc rs bc1 bs1 → (∀ j, j < nvr d - ni d 3 → xb_l h1 (ad1 22) (wnv W + j) = cv ad h d (dvs d 5 (4 * (ni d 3 + j) + 3)).toInt.toNat) → w_mk_T Qr (ad 14) md q h1 bc1 bs1) : ∃ n8 : Nat, w_World_make_L67 Qr n8 (ad 14) md q x3 h bc bs := by
  obtain ⟨n1, n2, n3, n4, n5, -⟩ := hm.nn
  obtain ⟨v1, v2, v3⟩ := id hV
  have hv := hm.2.1
  have key : ∀ (m : Nat) (x3 : Int32) (k : Nat) (h1 : xb_H) (own1 ad1 : Nat → Nat) (bc1 bs1 : Nat), x3.toInt = (ni d 3 + k : Nat) → ni d 3 + k ≤ nvr d → nvr d - (ni d 3 + k) ≤ m → stp [21, 22] [] own ad own1 ad1 h h1 → xr_row h1 (ad1 21) 1 (wnv W + k) (ad1 22) → (∀ v, v < wnv W → xb_l h1 (ad1 22) v = xb_l h (ad 22) v) → (∀ j, j < k → vr (dvs d 5 (4 * (ni d 3 + j) + 1)).toInt (xb_l h1 (ad1 22) (wnv W + j))) → bg ad1 h1 rc rs bc1 bs1 → (∀ j, j < k → xb_l h1 (ad1 22) (wnv W + j) = cv ad h d (dvs d 5 (4 * (ni d 3 + j) + 3)).toInt.toNat) → w_World_make_L67 Qr (m + 1) (ad 14) md q x3 h1 bc1 bs1 := by
    intro m
    induction m with
    | zero =>
      intro x3 k h1 own1 ad1 bc1 bs1 e3 hk hm9 hs r1 r2 r3 r4 r5'
      have hm1 := hm.st hB hs (by decide) (fun x hx => by cases hx)
      have ek : nvr d - ni d 3 = k := by omega
      unfold w_World_make_L67
      refine ⟨hm1.1.k, _, hm1.1.row (k := 5) (by omega), hm1.1.krow (by omega), md_lines hm1.1 (k := 5) (c := 4) (by omega) rfl (by omega) (fun r5 e5 _ => ⟨fun _ => hK h1 own1 ad1 bc1 bs1 hs (by rw [ek]; exact r1) r2 (by rw [ek]; exact r3) r4 (by rw [ek]; exact r5'), fun e => ?_⟩)⟩
      rw [z_le, e5, e3] at e
      unfold nvr at *
      omega
    | succ m ih =>
      intro x3 k h1 own1 ad1 bc1 bs1 e3 hk hm9 hs r1 r2 r3 r4 r5'
      have hm1 := hm.st hB hs (by decide) (fun x hx => by cases hx)
      unfold w_World_make_L67
      refine ⟨hm1.1.k, _, hm1.1.row (k := 5) (by omega), hm1.1.krow (by omega), md_lines hm1.1 (k := 5) (c := 4) (by omega) rfl (by omega) (fun r5 e5 _ => ⟨fun e => ?_, fun e => ?_⟩)⟩
      · rw [z_le, e5, e3] at e
        have ek : nvr d - ni d 3 = k := by unfold nvr at *; omega
        exact hK h1 own1 ad1 bc1 bs1 hs (by rw [ek]; exact r1) r2 (by rw [ek]; exact r3) r4 (by rw [ek]; exact r5')
      · rw [z_le, e5, e3] at e
        have hk2 : ni d 3 + k < nvr d := by unfold nvr at *; omega
        have A : ∀ j, j ∉ itl → ad1 j = ad j := hs.2.2.2.2.2.2
        have a14 := A 14 (by decide)
        have a21 := A 21 (by decide)
        have a34 := A 34 (by decide)
        obtain ⟨b1, b2, b3, b4⟩ := hm.var hk2
        obtain ⟨p, c1, c2⟩ := (hv.2.2.2.2.2.1.2 (ni d 3 + k) hk2).2 (by have := n5 3 (by omega); omega)
        have hpN := c2.1
        have hN := hv.2.2.2.2.2.2.2.2.2.2.2.2.1
        have cm35 := hs.cm hB (by decide) (fun x hx => by cases hx) (k := 35) (by omega) (by decide)
        have cm34 := hs.cm hB (by decide) (fun x hx => by cases hx) (k := 34) (by omega) (by decide)
        obtain ⟨vt, hvt⟩ : ∃ vt : Nat → Int, vt = fun v => if v < wnv W then wvt W v else (dvs d 5 (4 * (ni d 3 + (v - wnv W)) + 1)).toInt := ⟨_, rfl⟩
        have hV1 : wV ad1 h1 (wsVv W (wnv W + k) vt) := by
          refine ⟨r1, ?_, fun v hv9 => ?_⟩
          · show wnv W + k ≤ 4096
            omega
          · have hv8 : v < wnv W + k := hv9
            show (124 ≤ vt v ∧ vt v ≤ 127) ∧ vr (vt v) _
            rw [hvt]
            dsimp only
            split
            · rename_i h9
              rw [r2 v h9]
              exact v3 v h9
            · rename_i h9
              obtain ⟨-, x2, x3', -⟩ := hm.var (i := ni d 3 + (v - wnv W)) (by omega)
              have x4 := r3 (v - wnv W) (by omega)
              rw [show wnv W + (v - wnv W) = v by omega] at x4
              exact ⟨⟨x2, x3'⟩, x4⟩
        have hF1 : fV ad1 h1 (wsVv W (wnv W + k) vt) d (ni d 3) := by
          obtain ⟨f1, f2⟩ := hF
          refine ⟨by rw [cm34.1, cm35.1]; exact f1.fr cm34.2 hs.2.2.2.1, fun j hj => ?_⟩
          rw [cm35.1, cm35.2.2.1]
          obtain ⟨v, x1, x2, x3'⟩ := f2 j hj
          refine ⟨v, x1, ?_, ?_⟩
          · show v < wnv W + k
            omega
          · show vt v = _
            rw [hvt]
            dsimp only
            rw [if_pos x2]
            exact x3'
        have r14 := hs.1.r (14, 3, 21) (by decide)
        dsimp only at r14
        rw [a14, a21] at r14
        have k14 := hs.1.k 14 (by omega)
        rw [a14] at k14
        refine ⟨k14, ad 21, r14, _, hm1.1.row (k := 5) (by omega), hm1.1.krow (by omega), md_at (c := 4) hm1.1 (i := ni d 3 + k) (j := 3) (by omega) rfl e3 rfl (by omega) b1 (fun r42 e42 _ => ?_)⟩
        have hres := wI_valueOf (x := r42) (p := p) (τ := (dvs d 5 (4 * (ni d 3 + k) + 1)).toInt) (W := wsVv W (wnv W + k) vt) (Qr := fun (r44 : Int64) (h43 : xb_H) => xb_ext h1 h43 → xb_k h43 (ad 21) = 2 ∧ w_Row_add (ad 21) r44 h43 bc1 bs1 (fun (h46 : xb_H) (bc47 bs47 : Nat) => xb_ext h43 h46 → w_World_make_L67 Qr (m + 1) (ad 14) md q (x3 + 1) h46 bc47 bs47)) hs.1 hV1 hF1 hm1 (n5 3 (by omega)) (by omega) c2 (fun hvr _ => ⟨?_, ?_⟩)
        · rw [a14] at hres
          exact hres
        · have k21 := hs.1.k 21 (by omega)
          rw [a21] at k21
          exact k21
        · have hadd := wr_add (r := 21) (x := cv ad1 h1 d p) (Qr := fun (h46 : xb_H) (bc47 bs47 : Nat) => xb_ext h1 h46 → w_World_make_L67 Qr (m + 1) (ad 14) md q (x3 + 1) h46 bc47 bs47) (by decide) hs.1 r1 (by show _ < 4096; omega) r4 (fun h46 q2 bc' bs' w1 w2 w3 w4 w5 w6 w7 w8 _ => ?_)
          · rw [a21] at hadd
            exact hadd
          · have st := stp.row (r := 21) (by decide) w1 w5 w6 w7
            have e3' : (x3 + 1).toInt = (ni d 3 + (k + 1) : Nat) := by
              have hb : ni d 3 + k ≤ 1000000 := by omega
              exact z_inc e3 hb
            refine ih (x3 + 1) (k + 1) h46 _ (va_up ad1 22 q2) bc' bs' e3' (by omega) (by omega) ((hs.tr st).mono (fun j hj => by simp at hj ⊢; omega) (fun j hj => by simpa using hj)) ?_ (fun v hv9 => ?_) (fun j hj => ?_) w8 (fun j hj => ?_)
            · rw [xh_up, if_neg (by omega), xh_up, if_pos rfl]
              exact w2
            · rw [xh_up, if_pos rfl, w3 v (by omega)]
              exact r2 v hv9
            · rw [xh_up, if_pos rfl]
              by_cases h9 : j = k
              · subst h9
                rw [w4]
                exact hvr
              · rw [w3 _ (by omega)]
                exact r3 j (by omega)
            · rw [xh_up, if_pos rfl]
              by_cases h9 : j = k
              · subst h9
                rw [w4, c1, Int.toNat_natCast]
                exact cv_le hF (n5 3 (by omega)) c2 r2 (by rw [cm35.1, cm35.2.2.1])
              · rw [w3 _ (by omega)]
                exact r5' j (by omega)
  exact ⟨nvr d - ni d 3 + 1, key _ x3 0 h own ad bc bs (by rw [hx3]; rfl) (by omega) (by omega) ((stp.rf hB).mono (fun j hj => by cases hj) (fun j hj => hj)) v1 (fun v _ => rfl) (fun j hj => by omega) hg (fun j hj => by omega)⟩
end MK4
