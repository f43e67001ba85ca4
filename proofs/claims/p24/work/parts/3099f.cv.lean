-- a run: one kind of number becomes another
theorem sg_a : ∀ o, o < 192 → (168 ≤ o ∧ o ≤ 171 → sgR o = 127) := by decide +kernel
theorem sg_b : ∀ o, o < 192 → (172 ≤ o ∧ o ≤ 177 → sgR o = 126) := by decide +kernel
theorem sg_c : ∀ o, o < 192 → (178 ≤ o ∧ o ≤ 182 → sgR o = 125) := by decide +kernel
theorem sg_d : ∀ o, o < 192 → (183 ≤ o ∧ o ≤ 187 → sgR o = 124) := by decide +kernel
section NU4
variable {own own' ad ad' : Nat → Nat} {h h' h1 : xb_H} {W : wD} {σ D : Nat} {gx : Nat → fG} {t P lcn p0 E g : Nat} {lo ν0 : Nat → Int32} {G : ctG}
theorem mc_truncate {F : Nat} {τ0 τ τ' : Int} {v : Int64} {x4 x5 : Int32} {c : List Int} {Qr : xb_H → Prop} (hB : cB own ad h) (hW : wI own ad h W σ) (hS : mS ad h) (hm : fm h F τ0) (hr : rX ad h W D gx t P lcn p0 E lo ν0 g G) (hn : gC (gx (D - 1)) = τ' :: c) (hτ : x4 = 32 ∨ τ = 126) (hQ : ∀ h' : xb_H, nX own ad h W D gx t P lcn p0 E lo ν0 g G (τ :: c) h' → Qr h') : w_Machine_truncate (ad 15) F v x4 x5 h Qr := by
  have k15 : xb_k h (ad 15) = 8 := hB.k 15 (by omega)
  have k37 : xb_k h (ad 37) = 103 := hB.k 37 (by omega)
  have r9 : xb_r h (ad 15) 9 = some (ad 37) := hB.r (15, 9, 37) (by decide)
  obtain ⟨p1, p2, p3, p4⟩ := hr.tp1 hS hn
  have L45 : ∀ y : Int64, w_Machine_truncate_L45 Qr (ad 15) x4 y h := by
    intro y
    unfold w_Machine_truncate_L45 w_Machine_truncate_L75
    refine ⟨k15, ad 37, r9, fun e => ⟨k37, p1, fun h3 e3 => ?_⟩, fun _ => ⟨k37, p1, fun h3 e3 => by rw [e3]; exact hQ _ (hr.n1 hB hn p3 vr_low)⟩⟩
    rw [e3]
    refine hQ _ (hr.n1 hB hn p3 ?_)
    rcases hτ with h9 | h9
    · exact absurd h9 e
    · exact vr_no (by omega) (by omega)
  unfold w_Machine_truncate
  exact ⟨hm.1, sp_trapOfWhole hm (fun r3 _ => ⟨fun _ => sp_isNegative hm (fun _ _ _ => ⟨fun _ => sp_wholePart hm (fun _ _ => L45 _), fun _ => sp_wholePart hm (fun _ _ => L45 _)⟩), fun _ => ⟨k15, hr.nf hB hW hS (fun h' hn' _ => hQ h' hn')⟩⟩)⟩
theorem mc_converted {x1 : Int32} {o : Nat} {v : Int64} {Qr : Int64 → xb_H → Prop} (hB : cB own ad h) (hf : fI ad h) (hx : x1.toInt = o) (h1 : 167 ≤ o) (h2 : o ≤ 191) (h3 : ¬ (168 ≤ o ∧ o ≤ 171)) (h4 : ¬ (174 ≤ o ∧ o ≤ 177)) (hv : vr (sgA o) v) (hQ : ∀ r : Int64, vr (sgR o) r → Qr r h) : w_Machine_converted (ad 15) x1 v h Qr := by
  have k15 : xb_k h (ad 15) = 8 := hB.k 15 (by omega)
  have q1 : xb_r h (ad 15) 1 = some (ad 39) := hB.r (15, 1, 39) (by decide)
  have q2 : xb_r h (ad 15) 2 = some (ad 40) := hB.r (15, 2, 40) (by decide)
  have n : ∀ (k : Int32) (m : Nat), k.toInt = m → x1 = k → o = m := fun k m hk e => by rw [e, hk] at hx; omega
  have b6 : (172 ≤ o ∧ o ≤ 177) → ∀ r : Int64, Qr r h := fun h9 r => hQ r (by rw [sg_b o (by omega) h9]; exact vr_no (by omega) (by omega))
  have b5 : (178 ≤ o ∧ o ≤ 182) → ∀ r : Int64, vr 125 r → Qr r h := fun h9 r hr => hQ r (by rw [sg_c o (by omega) h9]; exact hr)
  have b4 : (183 ≤ o ∧ o ≤ 187) → ∀ r : Int64, vr 124 r → Qr r h := fun h9 r hr => hQ r (by rw [sg_d o (by omega) h9]; exact hr)
  unfold w_Machine_converted w_Machine_converted_L200 w_Machine_converted_L167 w_Machine_converted_L122
  refine ⟨fun e => ?_, fun e => ?_, fun e => ?_, fun e => ?_, fun e => ?_, fun e => ?_, fun e => ?_, fun e => ?_, fun e => ?_, fun e => ?_, fun e => ?_, fun e => ?_, fun e => ?_, fun e => ?_, fun e => ?_, fun e => ?_, fun e => ?_, fun e => ?_, fun e => ?_, fun e => ?_, fun e => ?_, fun z1 z2 z3 z4 z5 z6 z7 z8 z9 z10 z11 z12 z13 z14 z15 z16 z17 z18 z19 z20 z21 => ?_⟩
  · have := n _ 167 rfl e
    subst this
    exact hQ _ vr_low
  · have := n _ 168 rfl e
    omega
  · have := n _ 169 rfl e
    omega
  · have := n _ 170 rfl e
    omega
  · have := n _ 171 rfl e
    omega
  · have := n _ 172 rfl e
    exact b6 (by omega) _
  · have := n _ 173 rfl e
    exact b6 (by omega) _
  · have := n _ 174 rfl e
    omega
  · have := n _ 175 rfl e
    omega
  · have := n _ 176 rfl e
    omega
  · have := n _ 177 rfl e
    omega
  · have := n _ 178 rfl e
    exact ⟨k15, ad 39, q1, hf.1.1, sp_ofWhole hf.1 (fun r hr _ => b5 (by omega) r hr)⟩
  · have := n _ 179 rfl e
    exact ⟨k15, ad 39, q1, hf.1.1, sp_ofWhole hf.1 (fun r hr _ => b5 (by omega) r hr)⟩
  · have := n _ 180 rfl e
    exact ⟨k15, ad 39, q1, hf.1.1, sp_ofWhole hf.1 (fun r hr _ => b5 (by omega) r hr)⟩
  · have := n _ 181 rfl e
    exact ⟨k15, ad 39, q1, hf.1.1, sp_ofWhole hf.1 (fun r hr _ => b5 (by omega) r hr)⟩
  · have := n _ 182 rfl e
    exact ⟨k15, ad 39, q1, ad 40, q2, hf.1.1, sp_ofOther hf.1 hf.2 (fun r hr _ => b5 (by omega) r hr)⟩
  · have := n _ 183 rfl e
    exact ⟨k15, ad 40, q2, hf.2.1, sp_ofWhole hf.2 (fun r hr _ => b4 (by omega) r hr)⟩
  · have := n _ 184 rfl e
    exact ⟨k15, ad 40, q2, hf.2.1, sp_ofWhole hf.2 (fun r hr _ => b4 (by omega) r hr)⟩
  · have := n _ 185 rfl e
    exact ⟨k15, ad 40, q2, hf.2.1, sp_ofWhole hf.2 (fun r hr _ => b4 (by omega) r hr)⟩
  · have := n _ 186 rfl e
    exact ⟨k15, ad 40, q2, hf.2.1, sp_ofWhole hf.2 (fun r hr _ => b4 (by omega) r hr)⟩
  · have := n _ 187 rfl e
    exact ⟨k15, ad 40, q2, ad 39, q1, hf.2.1, sp_ofOther hf.2 hf.1 (fun r hr _ => b4 (by omega) r hr)⟩
  · have h9 : 188 ≤ o := by
      rw [z_eq, hx] at z1 z6 z7 z12 z13 z14 z15 z16 z17 z18 z19 z20 z21
      simp only [Int32.reduceToInt] at z1 z6 z7 z12 z13 z14 z15 z16 z17 z18 z19 z20 z21
      omega
    refine hQ _ ?_
    have h8 : o = 188 ∨ o = 189 ∨ o = 190 ∨ o = 191 := by omega
    rcases h8 with e | e | e | e <;> subst e
    · exact fun _ => hv (.inr rfl)
    · exact fun h7 => absurd h7 (by decide)
    · exact fun _ => hv (.inl rfl)
    · exact fun h7 => absurd h7 (by decide)
theorem mc_convert {x1 : Int32} {o : Nat} {c : List Int} {Qr : xb_H → Prop} (hB : cB own ad h) (hW : wI own ad h W σ) (hS : mS ad h) (hf : fI ad h) (hr : rX ad h W D gx t P lcn p0 E lo ν0 g G) (hx : x1.toInt = o) (h1 : 167 ≤ o) (h2 : o ≤ 191) (hc : gC (gx (D - 1)) = List.replicate (sgN o) (sgA o) ++ c) (hQ : ∀ h' : xb_H, nX own ad h W D gx t P lcn p0 E lo ν0 g G (sgR o :: c) h' → Qr h') : w_Machine_convert (ad 15) x1 h Qr := by
  have k15 : xb_k h (ad 15) = 8 := hB.k 15 (by omega)
  have k37 : xb_k h (ad 37) = 103 := hB.k 37 (by omega)
  have r9 : xb_r h (ad 15) 9 = some (ad 37) := hB.r (15, 9, 37) (by decide)
  have q1 : xb_r h (ad 15) 1 = some (ad 39) := hB.r (15, 1, 39) (by decide)
  have q2 : xb_r h (ad 15) 2 = some (ad 40) := hB.r (15, 2, 40) (by decide)
  have hn : gC (gx (D - 1)) = sgA o :: c := by
    rw [hc, sg_8 o (by omega) (by omega)]
    rfl
  obtain ⟨p1, p2, p3, p4⟩ := hr.tp1 hS hn
  have n : ∀ (k : Int32) (m : Nat), k.toInt = m → x1 = k → o = m := fun k m hk e => by rw [e, hk] at hx; omega
  have b7 : (168 ≤ o ∧ o ≤ 171) → ∀ h' : xb_H, nX own ad h W D gx t P lcn p0 E lo ν0 g G (127 :: c) h' → Qr h' := fun h9 h' hh => hQ h' (by rw [sg_a o (by omega) h9]; exact hh)
  have b6 : (172 ≤ o ∧ o ≤ 177) → ∀ h' : xb_H, nX own ad h W D gx t P lcn p0 E lo ν0 g G (126 :: c) h' → Qr h' := fun h9 h' hh => hQ h' (by rw [sg_b o (by omega) h9]; exact hh)
  unfold w_Machine_convert
  refine ⟨k15, ad 37, r9, k37, p1, fun v5 e5 => ?_⟩
  rw [p3] at e5
  have hv5 : vr (sgA o) v5 := by rw [e5]; exact p4
  have L172 : ¬ (168 ≤ o ∧ o ≤ 171) → ¬ (174 ≤ o ∧ o ≤ 177) → w_Machine_convert_L172 Qr (ad 15) x1 v5 h := by
    intro h3 h4
    unfold w_Machine_convert_L172 w_Machine_convert_L189
    exact ⟨k15, ad 37, r9, mc_converted hB hf hx h1 h2 h3 h4 hv5 (fun r4 hr4 _ => ⟨k37, p1, fun h7 e7 => by rw [e7]; exact hQ _ (hr.n1 hB hn p3 hr4)⟩)⟩
  have T7 : ∀ (F : Nat) (τ0 : Int) (s : Int32), fm h F τ0 → (168 ≤ o ∧ o ≤ 171) → w_Machine_truncate (ad 15) F v5 32 s h (fun (h2 : xb_H) => xb_ext h h2 → Qr h2) := fun F τ0 s hm h9 => mc_truncate hB hW hS hm hr hn (.inl rfl) (fun h' hh _ => b7 h9 h' hh)
  have T6 : ∀ (F : Nat) (τ0 : Int) (s : Int32), fm h F τ0 → (174 ≤ o ∧ o ≤ 177) → w_Machine_truncate (ad 15) F v5 64 s h (fun (h2 : xb_H) => xb_ext h h2 → Qr h2) := fun F τ0 s hm h9 => mc_truncate hB hW hS hm hr hn (.inr rfl) (fun h' hh _ => b6 (by omega) h' hh)
  have L68 : (168 ≤ o ∧ o ≤ 171) → w_Machine_convert_L68 Qr (ad 15) x1 v5 h := by
    intro h9
    unfold w_Machine_convert_L68 w_Machine_convert_L88 w_Machine_convert_L189
    exact ⟨k15, ad 39, q1, fun _ => ⟨k15, T7 _ _ _ hf.1 h9⟩, fun _ => ⟨k15, T7 _ _ _ hf.1 h9⟩⟩
  have L94 : (168 ≤ o ∧ o ≤ 171) → w_Machine_convert_L94 Qr (ad 15) x1 v5 h := by
    intro h9
    unfold w_Machine_convert_L94 w_Machine_convert_L114 w_Machine_convert_L189
    exact ⟨k15, ad 40, q2, fun _ => ⟨k15, T7 _ _ _ hf.2 h9⟩, fun _ => ⟨k15, T7 _ _ _ hf.2 h9⟩⟩
  have L120 : (174 ≤ o ∧ o ≤ 177) → w_Machine_convert_L120 Qr (ad 15) x1 v5 h := by
    intro h9
    unfold w_Machine_convert_L120 w_Machine_convert_L140 w_Machine_convert_L189
    exact ⟨k15, ad 39, q1, fun _ => ⟨k15, T6 _ _ _ hf.1 h9⟩, fun _ => ⟨k15, T6 _ _ _ hf.1 h9⟩⟩
  have L146 : (174 ≤ o ∧ o ≤ 177) → w_Machine_convert_L146 Qr (ad 15) x1 v5 h := by
    intro h9
    unfold w_Machine_convert_L146 w_Machine_convert_L166 w_Machine_convert_L189
    exact ⟨k15, ad 40, q2, fun _ => ⟨k15, T6 _ _ _ hf.2 h9⟩, fun _ => ⟨k15, T6 _ _ _ hf.2 h9⟩⟩
  refine ⟨fun e => L68 (by have := n _ 168 rfl e; omega), fun e => L68 (by have := n _ 169 rfl e; omega), fun e => L94 (by have := n _ 170 rfl e; omega), fun e => L94 (by have := n _ 171 rfl e; omega), fun e => L172 (by have := n _ 172 rfl e; omega) (by have := n _ 172 rfl e; omega), fun e => L172 (by have := n _ 173 rfl e; omega) (by have := n _ 173 rfl e; omega), fun e => L120 (by have := n _ 174 rfl e; omega), fun e => L120 (by have := n _ 175 rfl e; omega), fun e => L146 (by have := n _ 176 rfl e; omega), fun e => L146 (by have := n _ 177 rfl e; omega), fun z1 z2 z3 z4 z5 z6 z7 z8 z9 z10 => ?_⟩
  rw [z_eq, hx] at z1 z2 z3 z4 z5 z6 z7 z8 z9 z10
  simp only [Int32.reduceToInt] at z1 z2 z3 z4 z5 z6 z7 z8 z9 z10
  exact L172 (by omega) (by omega)
end NU4
